abbrev rm_M_execute : Room := { frames := 3, cells := 0, slots := 0, locals := 68 }
section
variable {p : Program} {l : Launch} {e : Env} {s : State} {m : MethodId} {args : Array Value} {below : List Frame} {meth : Method} {c : Code} {D : va_G} {dA : Nat → ClassId} {B : Nat} {zE : ZT} {ad0 : Ro → Nat} {M0 : wM}
def wp_M_execute_210 (post : wM → Prop) : Nat → Option Ro → Int32 → Int32 → Int32 → Int32 → wM → Prop
  | 0, _, _, _, _, _, _ => False
  | n + 1, x0, x1, x2, x3, x4, M => ((40 : Int32) ≤ x4 → post M) ∧ (¬ (40 : Int32) ≤ x4 → gR M x0 9 1 (fun a218 => gR M x0 9 5 (fun a224 => lZ M a224 x4 (fun a229 => sZ M a218 x4 a229 (fun M230 => gR M230 x0 9 2 (fun a232 => gR M230 x0 9 6 (fun a238 => lI M230 a238 x4 (fun a243 => sI M230 a232 x4 a243 (fun M244 => wp_M_execute_210 post n x0 x1 x2 x3 (x4 + 1) M244)))))))))
set_option maxRecDepth 100000 in
set_option maxHeartbeats 4000000 in
theorem sd_M_execute_210 (X : Cx p s m args meth c b_M_execute 5 R_M TBL D dA B zE) (hr : meth.sig.returnType = none) (hin : meth.name = y_M_execute.name) {post : wM → Prop} : ∀ (n : Nat) (x0 : Option Ro) (x1 : Int32) (x2 : Int32) (x3 : Int32) (x4 : Int32) (M : wM), wp_M_execute_210 post n x0 x1 x2 x3 x4 M → AW p l e (headSpec w_M_execute rm_M_execute).room s m args below meth c (MQ below (QV D dA B zE M0 ad0 post) args s 0 0 (wA B)) D dA B zE 5 ad0 M0 M 0 0 210 [(0, vR x0), (1, vI x1), (2, vI x2), (3, vI x3), (4, vI x4)] [] := by
  intro n
  induction n with
  | zero => intro x0 x1 x2 x3 x4 M h; exact h.elim
  | succ n ih =>
    intro x0 x1 x2 x3 x4 M h
    unfold wp_M_execute_210 at h
    refine aw_iload X 4 rfl d_M_execute_210 ?_
    refine aw_bipush X (40) (by decide) d_M_execute_212 ?_
    refine aw_icmp_ge (tgt := 251) X d_M_execute_214 (by decide) (fun c => ?_) (fun c => ?_)
    · have h := h.1 c
      exact aw_vret X hr (Nat.le_of_ble_eq_true rfl) (Nat.le_of_ble_eq_true rfl) d_M_execute_251 h
    · have h := h.2 c
      refine aw_aload_n X 0 rfl d_M_execute_217 rfl ?_
      refine aw_gR X hc_9 in_9 1 (by decide) LK_433 (fun _ _ _ _ h => h) d_M_execute_218 (h.mono (fun a218 h => ?_))
      refine aw_iload X 4 rfl d_M_execute_221 ?_
      refine aw_aload_n X 0 rfl d_M_execute_223 rfl ?_
      refine aw_gR X hc_9 in_9 5 (by decide) LK_437 (fun _ _ _ _ h => h) d_M_execute_224 (h.mono (fun a224 h => ?_))
      refine aw_iload X 4 rfl d_M_execute_227 ?_
      refine aw_lZ X d_M_execute_229 (h.mono (fun a229 h => ?_))
      refine aw_sZ X d_M_execute_230 (h.mono (fun M230 h => ?_))
      refine aw_aload_n X 0 rfl d_M_execute_231 rfl ?_
      refine aw_gR X hc_9 in_9 2 (by decide) LK_434 (fun _ _ _ _ h => h) d_M_execute_232 (h.mono (fun a232 h => ?_))
      refine aw_iload X 4 rfl d_M_execute_235 ?_
      refine aw_aload_n X 0 rfl d_M_execute_237 rfl ?_
      refine aw_gR X hc_9 in_9 6 (by decide) LK_438 (fun _ _ _ _ h => h) d_M_execute_238 (h.mono (fun a238 h => ?_))
      refine aw_iload X 4 rfl d_M_execute_241 ?_
      refine aw_lI X d_M_execute_243 (h.mono (fun a243 h => ?_))
      refine aw_sI X d_M_execute_244 (h.mono (fun M244 h => ?_))
      refine aw_iinc (y := x4 + 1) (lvn := [(4, _), (0, _), (1, _), (2, _), (3, _)]) X 4 rfl d_M_execute_245 rfl (by decide) rfl ?_
      refine aw_goto (tgt := 210) X d_M_execute_248 (by decide) ?_
      refine aw_lv [1, 2, 3, 4, 0] rfl ?_
      exact ih _ _ _ _ _ _ h
def wp_M_execute_190 (post : wM → Prop) (x0 : Option Ro) (x1 : Int32) (x2 : Int32) (x3 : Int32) (M : wM) : Prop := gR M x0 9 20 (fun a191 => lI M a191 x1 (fun a195 => (0 ≤ a195 → gR M x0 9 21 (fun a201 => sI M a201 x1 0 (fun M206 => (∃ n, wp_M_execute_210 post n x0 x1 x2 x3 0 M206)))) ∧ (¬ 0 ≤ a195 → post M)))
set_option maxRecDepth 100000 in
set_option maxHeartbeats 4000000 in
theorem sd_M_execute_190 (X : Cx p s m args meth c b_M_execute 5 R_M TBL D dA B zE) (hr : meth.sig.returnType = none) (hin : meth.name = y_M_execute.name) {post : wM → Prop} {x0 : Option Ro} {x1 : Int32} {x2 : Int32} {x3 : Int32} {M : wM} (h : wp_M_execute_190 post x0 x1 x2 x3 M) : AW p l e (headSpec w_M_execute rm_M_execute).room s m args below meth c (MQ below (QV D dA B zE M0 ad0 post) args s 0 0 (wA B)) D dA B zE 5 ad0 M0 M 0 0 190 [(0, vR x0), (1, vI x1), (2, vI x2), (3, vI x3)] [] := by
  unfold wp_M_execute_190 at h
  refine aw_aload_n X 0 rfl d_M_execute_190 rfl ?_
  refine aw_gR X hc_9 in_9 20 (by decide) LK_451 (fun _ _ _ _ h => h) d_M_execute_191 (h.mono (fun a191 h => ?_))
  refine aw_iload_n X 1 rfl d_M_execute_194 rfl ?_
  refine aw_lI X d_M_execute_195 (h.mono (fun a195 h => ?_))
  refine aw_if_ge (tgt := 200) X d_M_execute_196 (by decide) (fun c => ?_) (fun c => ?_)
  · have h := h.1 c
    refine aw_aload_n X 0 rfl d_M_execute_200 rfl ?_
    refine aw_gR X hc_9 in_9 21 (by decide) LK_452 (fun _ _ _ _ h => h) d_M_execute_201 (h.mono (fun a201 h => ?_))
    refine aw_iload_n X 1 rfl d_M_execute_204 rfl ?_
    refine aw_iconst X (0) (by decide) d_M_execute_205 ?_
    refine aw_sI X d_M_execute_206 (h.mono (fun M206 h => ?_))
    refine aw_iconst X (0) (by decide) d_M_execute_207 ?_
    refine aw_istore (lvn := [(4, _), (0, _), (1, _), (2, _), (3, _)]) X d_M_execute_208 (by decide) rfl ?_
    refine aw_lv [1, 2, 3, 4, 0] rfl ?_
    obtain ⟨n, h⟩ := h
    exact sd_M_execute_210 X hr hin n _ _ _ _ _ _ h
  · have h := h.2 c
    exact aw_vret X hr (Nat.le_of_ble_eq_true rfl) (Nat.le_of_ble_eq_true rfl) d_M_execute_199 h
def wp_M_execute_185 (post : wM → Prop) (k100 : Option Ro → Int32 → Int32 → Int32 → wM → Prop) (x0 : Option Ro) (x1 : Int32) (x2 : Int32) (x3 : Int32) (x4 : Int32) (s0 : Int32) (s1 : Int32) (M : wM) : Prop := k100 x0 x1 x2 (s1 + s0) M
set_option maxRecDepth 100000 in
set_option maxHeartbeats 4000000 in
theorem sd_M_execute_185 (X : Cx p s m args meth c b_M_execute 5 R_M TBL D dA B zE) (hr : meth.sig.returnType = none) (hin : meth.name = y_M_execute.name) {post : wM → Prop} {k100 : Option Ro → Int32 → Int32 → Int32 → wM → Prop} (hk100 : ∀ (x0 : Option Ro) (x1 : Int32) (x2 : Int32) (x3 : Int32) (M : wM), k100 x0 x1 x2 x3 M → AW p l e (headSpec w_M_execute rm_M_execute).room s m args below meth c (MQ below (QV D dA B zE M0 ad0 post) args s 0 0 (wA B)) D dA B zE 5 ad0 M0 M 0 0 100 [(0, vR x0), (1, vI x1), (2, vI x2), (3, vI x3)] []) {x0 : Option Ro} {x1 : Int32} {x2 : Int32} {x3 : Int32} {x4 : Int32} {s0 : Int32} {s1 : Int32} {M : wM} (h : wp_M_execute_185 post k100 x0 x1 x2 x3 x4 s0 s1 M) : AW p l e (headSpec w_M_execute rm_M_execute).room s m args below meth c (MQ below (QV D dA B zE M0 ad0 post) args s 0 0 (wA B)) D dA B zE 5 ad0 M0 M 0 0 185 [(0, vR x0), (1, vI x1), (2, vI x2), (3, vI x3), (4, vI x4)] [vI s0, vI s1] := by
  unfold wp_M_execute_185 at h
  refine aw_iadd X d_M_execute_185 ?_
  refine aw_istore_n (lvn := [(3, _), (0, _), (1, _), (2, _), (4, _)]) X d_M_execute_186 rfl (by decide) rfl ?_
  refine aw_goto (tgt := 100) X d_M_execute_187 (by decide) ?_
  refine aw_lv [1, 2, 3, 0] rfl ?_
  exact hk100 _ _ _ _ _ h
def wp_M_execute_184 (post : wM → Prop) (k100 : Option Ro → Int32 → Int32 → Int32 → wM → Prop) (x0 : Option Ro) (x1 : Int32) (x2 : Int32) (x3 : Int32) (x4 : Int32) (s0 : Int32) (M : wM) : Prop := wp_M_execute_185 post k100 x0 x1 x2 x3 x4 1 s0 M
set_option maxRecDepth 100000 in
set_option maxHeartbeats 4000000 in
theorem sd_M_execute_184 (X : Cx p s m args meth c b_M_execute 5 R_M TBL D dA B zE) (hr : meth.sig.returnType = none) (hin : meth.name = y_M_execute.name) {post : wM → Prop} {k100 : Option Ro → Int32 → Int32 → Int32 → wM → Prop} (hk100 : ∀ (x0 : Option Ro) (x1 : Int32) (x2 : Int32) (x3 : Int32) (M : wM), k100 x0 x1 x2 x3 M → AW p l e (headSpec w_M_execute rm_M_execute).room s m args below meth c (MQ below (QV D dA B zE M0 ad0 post) args s 0 0 (wA B)) D dA B zE 5 ad0 M0 M 0 0 100 [(0, vR x0), (1, vI x1), (2, vI x2), (3, vI x3)] []) {x0 : Option Ro} {x1 : Int32} {x2 : Int32} {x3 : Int32} {x4 : Int32} {s0 : Int32} {M : wM} (h : wp_M_execute_184 post k100 x0 x1 x2 x3 x4 s0 M) : AW p l e (headSpec w_M_execute rm_M_execute).room s m args below meth c (MQ below (QV D dA B zE M0 ad0 post) args s 0 0 (wA B)) D dA B zE 5 ad0 M0 M 0 0 184 [(0, vR x0), (1, vI x1), (2, vI x2), (3, vI x3), (4, vI x4)] [vI s0] := by
  unfold wp_M_execute_184 at h
  refine aw_iconst X (1) (by decide) d_M_execute_184 ?_
  exact sd_M_execute_185 X hr hin hk100 h
def wp_M_execute_144 (post : wM → Prop) (k100 : Option Ro → Int32 → Int32 → Int32 → wM → Prop) (x0 : Option Ro) (x1 : Int32) (x2 : Int32) (x3 : Int32) (x4 : Int32) (M : wM) : Prop := gR M x0 9 10 (fun a146 => lI M a146 x4 (fun a151 => (¬ a151 = (7 : Int32) → wp_M_execute_184 post k100 x0 x1 x2 x3 x4 x3 M) ∧ (a151 = (7 : Int32) → gR M x0 9 32 (fun a158 => gR M x0 9 11 (fun a162 => lI M a162 x4 (fun a167 => lI M a158 a167 (fun a168 => (¬ a168 = 0 → wp_M_execute_184 post k100 x0 x1 x2 x3 x4 x3 M) ∧ (a168 = 0 → gR M x0 9 12 (fun a174 => lI M a174 x4 (fun a179 => wp_M_execute_185 post k100 x0 x1 x2 x3 x4 (1 + a179) x3 M))))))))))
set_option maxRecDepth 100000 in
set_option maxHeartbeats 4000000 in
theorem sd_M_execute_144 (X : Cx p s m args meth c b_M_execute 5 R_M TBL D dA B zE) (hr : meth.sig.returnType = none) (hin : meth.name = y_M_execute.name) {post : wM → Prop} {k100 : Option Ro → Int32 → Int32 → Int32 → wM → Prop} (hk100 : ∀ (x0 : Option Ro) (x1 : Int32) (x2 : Int32) (x3 : Int32) (M : wM), k100 x0 x1 x2 x3 M → AW p l e (headSpec w_M_execute rm_M_execute).room s m args below meth c (MQ below (QV D dA B zE M0 ad0 post) args s 0 0 (wA B)) D dA B zE 5 ad0 M0 M 0 0 100 [(0, vR x0), (1, vI x1), (2, vI x2), (3, vI x3)] []) {x0 : Option Ro} {x1 : Int32} {x2 : Int32} {x3 : Int32} {x4 : Int32} {M : wM} (h : wp_M_execute_144 post k100 x0 x1 x2 x3 x4 M) : AW p l e (headSpec w_M_execute rm_M_execute).room s m args below meth c (MQ below (QV D dA B zE M0 ad0 post) args s 0 0 (wA B)) D dA B zE 5 ad0 M0 M 0 0 144 [(0, vR x0), (1, vI x1), (2, vI x2), (3, vI x3), (4, vI x4)] [] := by
  unfold wp_M_execute_144 at h
  refine aw_iload_n X 3 rfl d_M_execute_144 rfl ?_
  refine aw_aload_n X 0 rfl d_M_execute_145 rfl ?_
  refine aw_gR X hc_9 in_9 10 (by decide) LK_442 (fun _ _ _ _ h => h) d_M_execute_146 (h.mono (fun a146 h => ?_))
  refine aw_iload X 4 rfl d_M_execute_149 ?_
  refine aw_lI X d_M_execute_151 (h.mono (fun a151 h => ?_))
  refine aw_bipush X (7) (by decide) d_M_execute_152 ?_
  refine aw_icmp_ne (tgt := 184) X d_M_execute_154 (by decide) (fun c => ?_) (fun c => ?_)
  · have h := h.1 c
    exact sd_M_execute_184 X hr hin hk100 h
  · have h := h.2 c
    refine aw_aload_n X 0 rfl d_M_execute_157 rfl ?_
    refine aw_gR X hc_9 in_9 32 (by decide) LK_460 (fun _ _ _ _ h => h) d_M_execute_158 (h.mono (fun a158 h => ?_))
    refine aw_aload_n X 0 rfl d_M_execute_161 rfl ?_
    refine aw_gR X hc_9 in_9 11 (by decide) LK_443 (fun _ _ _ _ h => h) d_M_execute_162 (h.mono (fun a162 h => ?_))
    refine aw_iload X 4 rfl d_M_execute_165 ?_
    refine aw_lI X d_M_execute_167 (h.mono (fun a167 h => ?_))
    refine aw_lI X d_M_execute_168 (h.mono (fun a168 h => ?_))
    refine aw_if_ne (tgt := 184) X d_M_execute_169 (by decide) (fun c => ?_) (fun c => ?_)
    · have h := h.1 c
      exact sd_M_execute_184 X hr hin hk100 h
    · have h := h.2 c
      refine aw_iconst X (1) (by decide) d_M_execute_172 ?_
      refine aw_aload_n X 0 rfl d_M_execute_173 rfl ?_
      refine aw_gR X hc_9 in_9 12 (by decide) LK_444 (fun _ _ _ _ h => h) d_M_execute_174 (h.mono (fun a174 h => ?_))
      refine aw_iload X 4 rfl d_M_execute_177 ?_
      refine aw_lI X d_M_execute_179 (h.mono (fun a179 h => ?_))
      refine aw_iadd X d_M_execute_180 ?_
      refine aw_goto (tgt := 185) X d_M_execute_181 (by decide) ?_
      exact sd_M_execute_185 X hr hin hk100 h
def wp_M_execute_100 (post : wM → Prop) : Nat → Option Ro → Int32 → Int32 → Int32 → wM → Prop
  | 0, _, _, _, _, _ => False
  | n + 1, x0, x1, x2, x3, M => gR M x0 9 9 (fun a102 => lI M a102 x2 (fun a106 => (a106 ≤ x3 → wp_M_execute_190 post x0 x1 x2 x3 M) ∧ (¬ a106 ≤ x3 → gR M x0 9 20 (fun a111 => lI M a111 x1 (fun a115 => (0 ≤ a115 → wp_M_execute_190 post x0 x1 x2 x3 M) ∧ (¬ 0 ≤ a115 → cV M x0 9 (wp_M_statement (fun a131 M131 => (¬ a131 = 0 → wp_M_execute_144 post (fun x0 x1 x2 x3 M => wp_M_execute_100 post n x0 x1 x2 x3 M) x0 x1 x2 x3 ((8 * x2) + x3) M131) ∧ (a131 = 0 → gR M131 x0 9 20 (fun a138 => sI M131 a138 x1 x3 (fun M143 => wp_M_execute_144 post (fun x0 x1 x2 x3 M => wp_M_execute_100 post n x0 x1 x2 x3 M) x0 x1 x2 x3 ((8 * x2) + x3) M143)))) x0 x1 ((8 * x2) + x3) M)))))))
set_option maxRecDepth 100000 in
set_option maxHeartbeats 4000000 in
theorem sd_M_execute_100 (X : Cx p s m args meth c b_M_execute 5 R_M TBL D dA B zE) (hr : meth.sig.returnType = none) (hin : meth.name = y_M_execute.name) {post : wM → Prop} : ∀ (n : Nat) (x0 : Option Ro) (x1 : Int32) (x2 : Int32) (x3 : Int32) (M : wM), wp_M_execute_100 post n x0 x1 x2 x3 M → AW p l e (headSpec w_M_execute rm_M_execute).room s m args below meth c (MQ below (QV D dA B zE M0 ad0 post) args s 0 0 (wA B)) D dA B zE 5 ad0 M0 M 0 0 100 [(0, vR x0), (1, vI x1), (2, vI x2), (3, vI x3)] [] := by
  intro n
  induction n with
  | zero => intro x0 x1 x2 x3 M h; exact h.elim
  | succ n ih =>
    intro x0 x1 x2 x3 M h
    unfold wp_M_execute_100 at h
    refine aw_iload_n X 3 rfl d_M_execute_100 rfl ?_
    refine aw_aload_n X 0 rfl d_M_execute_101 rfl ?_
    refine aw_gR X hc_9 in_9 9 (by decide) LK_441 (fun _ _ _ _ h => h) d_M_execute_102 (h.mono (fun a102 h => ?_))
    refine aw_iload_n X 2 rfl d_M_execute_105 rfl ?_
    refine aw_lI X d_M_execute_106 (h.mono (fun a106 h => ?_))
    refine aw_icmp_ge (tgt := 190) X d_M_execute_107 (by decide) (fun c => ?_) (fun c => ?_)
    · have h := h.1 c
      exact sd_M_execute_190 X hr hin h
    · have h := h.2 c
      refine aw_aload_n X 0 rfl d_M_execute_110 rfl ?_
      refine aw_gR X hc_9 in_9 20 (by decide) LK_451 (fun _ _ _ _ h => h) d_M_execute_111 (h.mono (fun a111 h => ?_))
      refine aw_iload_n X 1 rfl d_M_execute_114 rfl ?_
      refine aw_lI X d_M_execute_115 (h.mono (fun a115 h => ?_))
      refine aw_if_ge (tgt := 190) X d_M_execute_116 (by decide) (fun c => ?_) (fun c => ?_)
      · have h := h.1 c
        exact sd_M_execute_190 X hr hin h
      · have h := h.2 c
        refine aw_bipush X (8) (by decide) d_M_execute_119 ?_
        refine aw_iload_n X 2 rfl d_M_execute_121 rfl ?_
        refine aw_imul X d_M_execute_122 ?_
        refine aw_iload_n X 3 rfl d_M_execute_123 rfl ?_
        refine aw_iadd X d_M_execute_124 ?_
        refine aw_istore (lvn := [(4, _), (0, _), (1, _), (2, _), (3, _)]) X d_M_execute_125 (by decide) rfl ?_
        refine aw_aload_n X 1 rfl d_M_execute_127 rfl ?_
        refine aw_iload_n X 2 rfl d_M_execute_128 rfl ?_
        refine aw_iload X 0 rfl d_M_execute_129 ?_
        obtain ⟨⟨r131, f131, e131, g131⟩, h⟩ := h
        cases e131
        refine aw_cVi X [_, _] (fun ad hlv => t_M_statement l hlv h) (cwV 2 X.hts (gd_V LK_487 LK_488 LK_489 LK_463 LK_code_M_statement) rfl rfl rfl (by decide +kernel) ⟨(Nat.le_of_ble_eq_true rfl), (Nat.le_of_ble_eq_true rfl)⟩) ⟨9, f131, _, g131, hc_9, rfl⟩ rfl rfl (Nat.le_of_ble_eq_true rfl) d_M_execute_131 ⟨(Nat.le_of_ble_eq_true rfl), (Nat.le_of_ble_eq_true rfl)⟩ (fun a131 M131 h => ?_)
        refine aw_if_ne (tgt := 144) X d_M_execute_134 (by decide) (fun c => ?_) (fun c => ?_)
        · have h := h.1 c
          refine aw_lv [1, 2, 3, 4, 0] rfl ?_
          exact sd_M_execute_144 X hr hin ih h
        · have h := h.2 c
          refine aw_aload_n X 1 rfl d_M_execute_137 rfl ?_
          refine aw_gR X hc_9 in_9 20 (by decide) LK_451 (fun _ _ _ _ h => h) d_M_execute_138 (h.mono (fun a138 h => ?_))
          refine aw_iload_n X 2 rfl d_M_execute_141 rfl ?_
          refine aw_iload_n X 4 rfl d_M_execute_142 rfl ?_
          refine aw_sI X d_M_execute_143 (h.mono (fun M143 h => ?_))
          refine aw_lv [1, 2, 3, 4, 0] rfl ?_
          exact sd_M_execute_144 X hr hin ih h
def wp_M_execute_70 (post : wM → Prop) (k40 : Option Ro → Int32 → Int32 → wM → Prop) (x0 : Option Ro) (x1 : Int32) (x2 : Int32) (s0 : Int32) (s1 : Int32) (s2 : Option Ro) (M : wM) : Prop := sI M s2 s1 s0 (fun M70 => k40 x0 x1 (x2 + 1) M70)
set_option maxRecDepth 100000 in
set_option maxHeartbeats 4000000 in
theorem sd_M_execute_70 (X : Cx p s m args meth c b_M_execute 5 R_M TBL D dA B zE) (hr : meth.sig.returnType = none) (hin : meth.name = y_M_execute.name) {post : wM → Prop} {k40 : Option Ro → Int32 → Int32 → wM → Prop} (hk40 : ∀ (x0 : Option Ro) (x1 : Int32) (x2 : Int32) (M : wM), k40 x0 x1 x2 M → AW p l e (headSpec w_M_execute rm_M_execute).room s m args below meth c (MQ below (QV D dA B zE M0 ad0 post) args s 0 0 (wA B)) D dA B zE 5 ad0 M0 M 0 0 40 [(0, vR x0), (1, vI x1), (2, vI x2)] []) {x0 : Option Ro} {x1 : Int32} {x2 : Int32} {s0 : Int32} {s1 : Int32} {s2 : Option Ro} {M : wM} (h : wp_M_execute_70 post k40 x0 x1 x2 s0 s1 s2 M) : AW p l e (headSpec w_M_execute rm_M_execute).room s m args below meth c (MQ below (QV D dA B zE M0 ad0 post) args s 0 0 (wA B)) D dA B zE 5 ad0 M0 M 0 0 70 [(0, vR x0), (1, vI x1), (2, vI x2)] [vI s0, vI s1, vR s2] := by
  unfold wp_M_execute_70 at h
  refine aw_sI X d_M_execute_70 (h.mono (fun M70 h => ?_))
  refine aw_iinc (y := x2 + 1) (lvn := [(2, _), (0, _), (1, _)]) X 2 rfl d_M_execute_71 rfl (by decide) rfl ?_
  refine aw_goto (tgt := 40) X d_M_execute_74 (by decide) ?_
  refine aw_lv [1, 2, 0] rfl ?_
  exact hk40 _ _ _ _ h
def wp_M_execute_40 (post : wM → Prop) : Nat → Option Ro → Int32 → Int32 → wM → Prop
  | 0, _, _, _, _ => False
  | n + 1, x0, x1, x2, M => ((6 : Int32) ≤ x2 → gR M x0 9 21 (fun a78 => sI M a78 x1 0 (fun M83 => gR M83 x0 9 20 (fun a85 => sI M83 a85 x1 (-1) (fun M90 => gR M90 x0 9 16 (fun a92 => lI M90 a92 x1 (fun a96 => (∃ n, wp_M_execute_100 post n x0 x1 a96 0 M90)))))))) ∧ (¬ (6 : Int32) ≤ x2 → gR M x0 9 32 (fun a47 => ((3 : Int32) ≤ x2 → wp_M_execute_70 post (fun x0 x1 x2 M => wp_M_execute_40 post n x0 x1 x2 M) x0 x1 x2 0 x2 a47 M) ∧ (¬ (3 : Int32) ≤ x2 → gR M x0 9 17 (fun a57 => lI M a57 ((3 * x1) + x2) (fun a65 => wp_M_execute_70 post (fun x0 x1 x2 M => wp_M_execute_40 post n x0 x1 x2 M) x0 x1 x2 a65 x2 a47 M)))))
set_option maxRecDepth 100000 in
set_option maxHeartbeats 4000000 in
theorem sd_M_execute_40 (X : Cx p s m args meth c b_M_execute 5 R_M TBL D dA B zE) (hr : meth.sig.returnType = none) (hin : meth.name = y_M_execute.name) {post : wM → Prop} : ∀ (n : Nat) (x0 : Option Ro) (x1 : Int32) (x2 : Int32) (M : wM), wp_M_execute_40 post n x0 x1 x2 M → AW p l e (headSpec w_M_execute rm_M_execute).room s m args below meth c (MQ below (QV D dA B zE M0 ad0 post) args s 0 0 (wA B)) D dA B zE 5 ad0 M0 M 0 0 40 [(0, vR x0), (1, vI x1), (2, vI x2)] [] := by
  intro n
  induction n with
  | zero => intro x0 x1 x2 M h; exact h.elim
  | succ n ih =>
    intro x0 x1 x2 M h
    unfold wp_M_execute_40 at h
    refine aw_iload_n X 2 rfl d_M_execute_40 rfl ?_
    refine aw_bipush X (6) (by decide) d_M_execute_41 ?_
    refine aw_icmp_ge (tgt := 77) X d_M_execute_43 (by decide) (fun c => ?_) (fun c => ?_)
    · have h := h.1 c
      refine aw_aload_n X 0 rfl d_M_execute_77 rfl ?_
      refine aw_gR X hc_9 in_9 21 (by decide) LK_452 (fun _ _ _ _ h => h) d_M_execute_78 (h.mono (fun a78 h => ?_))
      refine aw_iload_n X 1 rfl d_M_execute_81 rfl ?_
      refine aw_iconst X (0) (by decide) d_M_execute_82 ?_
      refine aw_sI X d_M_execute_83 (h.mono (fun M83 h => ?_))
      refine aw_aload_n X 0 rfl d_M_execute_84 rfl ?_
      refine aw_gR X hc_9 in_9 20 (by decide) LK_451 (fun _ _ _ _ h => h) d_M_execute_85 (h.mono (fun a85 h => ?_))
      refine aw_iload_n X 1 rfl d_M_execute_88 rfl ?_
      refine aw_iconst X (-1) (by decide) d_M_execute_89 ?_
      refine aw_sI X d_M_execute_90 (h.mono (fun M90 h => ?_))
      refine aw_aload_n X 0 rfl d_M_execute_91 rfl ?_
      refine aw_gR X hc_9 in_9 16 (by decide) LK_447 (fun _ _ _ _ h => h) d_M_execute_92 (h.mono (fun a92 h => ?_))
      refine aw_iload_n X 1 rfl d_M_execute_95 rfl ?_
      refine aw_lI X d_M_execute_96 (h.mono (fun a96 h => ?_))
      refine aw_istore_n (lvn := [(2, _), (0, _), (1, _)]) X d_M_execute_97 rfl (by decide) rfl ?_
      refine aw_iconst X (0) (by decide) d_M_execute_98 ?_
      refine aw_istore_n (lvn := [(3, _), (2, _), (0, _), (1, _)]) X d_M_execute_99 rfl (by decide) rfl ?_
      refine aw_lv [2, 3, 1, 0] rfl ?_
      obtain ⟨n, h⟩ := h
      exact sd_M_execute_100 X hr hin n _ _ _ _ _ h
    · have h := h.2 c
      refine aw_aload_n X 0 rfl d_M_execute_46 rfl ?_
      refine aw_gR X hc_9 in_9 32 (by decide) LK_460 (fun _ _ _ _ h => h) d_M_execute_47 (h.mono (fun a47 h => ?_))
      refine aw_iload_n X 2 rfl d_M_execute_50 rfl ?_
      refine aw_iload_n X 2 rfl d_M_execute_51 rfl ?_
      refine aw_iconst X (3) (by decide) d_M_execute_52 ?_
      refine aw_icmp_ge (tgt := 69) X d_M_execute_53 (by decide) (fun c => ?_) (fun c => ?_)
      · have h := h.1 c
        refine aw_iconst X (0) (by decide) d_M_execute_69 ?_
        exact sd_M_execute_70 X hr hin ih h
      · have h := h.2 c
        refine aw_aload_n X 0 rfl d_M_execute_56 rfl ?_
        refine aw_gR X hc_9 in_9 17 (by decide) LK_448 (fun _ _ _ _ h => h) d_M_execute_57 (h.mono (fun a57 h => ?_))
        refine aw_iconst X (3) (by decide) d_M_execute_60 ?_
        refine aw_iload_n X 1 rfl d_M_execute_61 rfl ?_
        refine aw_imul X d_M_execute_62 ?_
        refine aw_iload_n X 2 rfl d_M_execute_63 rfl ?_
        refine aw_iadd X d_M_execute_64 ?_
        refine aw_lI X d_M_execute_65 (h.mono (fun a65 h => ?_))
        refine aw_goto (tgt := 70) X d_M_execute_66 (by decide) ?_
        exact sd_M_execute_70 X hr hin ih h
def wp_M_execute_2 (post : wM → Prop) : Nat → Option Ro → Int32 → Int32 → wM → Prop
  | 0, _, _, _, _ => False
  | n + 1, x0, x1, x2, M => ((40 : Int32) ≤ x2 → (∃ n, wp_M_execute_40 post n x0 x1 0 M)) ∧ (¬ (40 : Int32) ≤ x2 → gR M x0 9 5 (fun a9 => gR M x0 9 1 (fun a14 => lZ M a14 x2 (fun a18 => sZ M a9 x2 a18 (fun M19 => gR M19 x0 9 6 (fun a21 => gR M19 x0 9 2 (fun a26 => lI M19 a26 x2 (fun a30 => sI M19 a21 x2 a30 (fun M31 => wp_M_execute_2 post n x0 x1 (x2 + 1) M31)))))))))
set_option maxRecDepth 100000 in
set_option maxHeartbeats 4000000 in
theorem sd_M_execute_2 (X : Cx p s m args meth c b_M_execute 5 R_M TBL D dA B zE) (hr : meth.sig.returnType = none) (hin : meth.name = y_M_execute.name) {post : wM → Prop} : ∀ (n : Nat) (x0 : Option Ro) (x1 : Int32) (x2 : Int32) (M : wM), wp_M_execute_2 post n x0 x1 x2 M → AW p l e (headSpec w_M_execute rm_M_execute).room s m args below meth c (MQ below (QV D dA B zE M0 ad0 post) args s 0 0 (wA B)) D dA B zE 5 ad0 M0 M 0 0 2 [(0, vR x0), (1, vI x1), (2, vI x2)] [] := by
  intro n
  induction n with
  | zero => intro x0 x1 x2 M h; exact h.elim
  | succ n ih =>
    intro x0 x1 x2 M h
    unfold wp_M_execute_2 at h
    refine aw_iload_n X 2 rfl d_M_execute_2 rfl ?_
    refine aw_bipush X (40) (by decide) d_M_execute_3 ?_
    refine aw_icmp_ge (tgt := 38) X d_M_execute_5 (by decide) (fun c => ?_) (fun c => ?_)
    · have h := h.1 c
      refine aw_iconst X (0) (by decide) d_M_execute_38 ?_
      refine aw_istore_n (lvn := [(2, _), (0, _), (1, _)]) X d_M_execute_39 rfl (by decide) rfl ?_
      refine aw_lv [1, 2, 0] rfl ?_
      obtain ⟨n, h⟩ := h
      exact sd_M_execute_40 X hr hin n _ _ _ _ h
    · have h := h.2 c
      refine aw_aload_n X 0 rfl d_M_execute_8 rfl ?_
      refine aw_gR X hc_9 in_9 5 (by decide) LK_437 (fun _ _ _ _ h => h) d_M_execute_9 (h.mono (fun a9 h => ?_))
      refine aw_iload_n X 2 rfl d_M_execute_12 rfl ?_
      refine aw_aload_n X 0 rfl d_M_execute_13 rfl ?_
      refine aw_gR X hc_9 in_9 1 (by decide) LK_433 (fun _ _ _ _ h => h) d_M_execute_14 (h.mono (fun a14 h => ?_))
      refine aw_iload_n X 2 rfl d_M_execute_17 rfl ?_
      refine aw_lZ X d_M_execute_18 (h.mono (fun a18 h => ?_))
      refine aw_sZ X d_M_execute_19 (h.mono (fun M19 h => ?_))
      refine aw_aload_n X 0 rfl d_M_execute_20 rfl ?_
      refine aw_gR X hc_9 in_9 6 (by decide) LK_438 (fun _ _ _ _ h => h) d_M_execute_21 (h.mono (fun a21 h => ?_))
      refine aw_iload_n X 2 rfl d_M_execute_24 rfl ?_
      refine aw_aload_n X 0 rfl d_M_execute_25 rfl ?_
      refine aw_gR X hc_9 in_9 2 (by decide) LK_434 (fun _ _ _ _ h => h) d_M_execute_26 (h.mono (fun a26 h => ?_))
      refine aw_iload_n X 2 rfl d_M_execute_29 rfl ?_
      refine aw_lI X d_M_execute_30 (h.mono (fun a30 h => ?_))
      refine aw_sI X d_M_execute_31 (h.mono (fun M31 h => ?_))
      refine aw_iinc (y := x2 + 1) (lvn := [(2, _), (0, _), (1, _)]) X 2 rfl d_M_execute_32 rfl (by decide) rfl ?_
      refine aw_goto (tgt := 2) X d_M_execute_35 (by decide) ?_
      refine aw_lv [1, 2, 0] rfl ?_
      exact ih _ _ _ _ h
def wp_M_execute (post : wM → Prop) (x0 : Option Ro) (x1 : Int32) (M : wM) : Prop := (∃ n, wp_M_execute_2 post n x0 x1 0 M)
set_option maxRecDepth 100000 in
set_option maxHeartbeats 4000000 in
theorem sd_M_execute_0 (X : Cx p s m args meth c b_M_execute 5 R_M TBL D dA B zE) (hr : meth.sig.returnType = none) (hin : meth.name = y_M_execute.name) {post : wM → Prop} {x0 : Option Ro} {x1 : Int32} {M : wM} (h : wp_M_execute post x0 x1 M) : AW p l e (headSpec w_M_execute rm_M_execute).room s m args below meth c (MQ below (QV D dA B zE M0 ad0 post) args s 0 0 (wA B)) D dA B zE 5 ad0 M0 M 0 0 0 [(0, vR x0), (1, vI x1)] [] := by
  unfold wp_M_execute at h
  refine aw_iconst X (0) (by decide) d_M_execute_0 ?_
  refine aw_istore_n (lvn := [(2, _), (0, _), (1, _)]) X d_M_execute_1 rfl (by decide) rfl ?_
  refine aw_lv [1, 2, 0] rfl ?_
  obtain ⟨n, h⟩ := h
  exact sd_M_execute_2 X hr hin n _ _ _ _ h
end
theorem t_M_execute (l : Launch) {D : va_G} {dA : Nat → ClassId} {B : Nat} {zE : ZT} {M : wM} {ad : Ro → Nat} {post : wM → Prop} {x0 : Option Ro} {x1 : Int32} (hlv : lvS M [vR x0, vI x1]) (h : wp_M_execute post x0 x1 M) : Met l y_M_execute w_M_execute rm_M_execute (PA D dA B zE M ad [vR x0, vI x1]) (QV D dA B zE M ad post) 0 0 (wA B) :=
  AW_start [vR x0, vI x1] [(0, vR x0), (1, vI x1)] hlv (by decide +kernel) rfl (fun _ hw => List.mem_cons_of_mem _ hw) rfl (Nat.le_of_ble_eq_true rfl) (fun p e s m args below meth c X hr hin => sd_M_execute_0 X hr hin h)
abbrev rm_M_replay : Room := { frames := 4, cells := 0, slots := 0, locals := 92 }
section
variable {p : Program} {l : Launch} {e : Env} {s : State} {m : MethodId} {args : Array Value} {below : List Frame} {meth : Method} {c : Code} {D : va_G} {dA : Nat → ClassId} {B : Nat} {zE : ZT} {ad0 : Ro → Nat} {M0 : wM}
def wp_M_replay_64 (post : wM → Prop) (k45 : Option Ro → Int32 → Int32 → wM → Prop) (x0 : Option Ro) (x1 : Int32) (x2 : Int32) (M : wM) : Prop := k45 x0 x1 (x2 + 1) M
set_option maxRecDepth 100000 in
set_option maxHeartbeats 4000000 in
theorem sd_M_replay_64 (X : Cx p s m args meth c b_M_replay 3 R_M TBL D dA B zE) (hr : meth.sig.returnType = none) (hin : meth.name = y_M_replay.name) {post : wM → Prop} {k45 : Option Ro → Int32 → Int32 → wM → Prop} (hk45 : ∀ (x0 : Option Ro) (x1 : Int32) (x2 : Int32) (M : wM), k45 x0 x1 x2 M → AW p l e (headSpec w_M_replay rm_M_replay).room s m args below meth c (MQ below (QV D dA B zE M0 ad0 post) args s 0 0 (wA B)) D dA B zE 3 ad0 M0 M 0 0 45 [(0, vR x0), (1, vI x1), (2, vI x2)] []) {x0 : Option Ro} {x1 : Int32} {x2 : Int32} {M : wM} (h : wp_M_replay_64 post k45 x0 x1 x2 M) : AW p l e (headSpec w_M_replay rm_M_replay).room s m args below meth c (MQ below (QV D dA B zE M0 ad0 post) args s 0 0 (wA B)) D dA B zE 3 ad0 M0 M 0 0 64 [(0, vR x0), (1, vI x1), (2, vI x2)] [] := by
  unfold wp_M_replay_64 at h
  refine aw_iinc (y := x2 + 1) (lvn := [(2, _), (0, _), (1, _)]) X 2 rfl d_M_replay_64 rfl (by decide) rfl ?_
  refine aw_goto (tgt := 45) X d_M_replay_67 (by decide) ?_
  refine aw_lv [1, 2, 0] rfl ?_
  exact hk45 _ _ _ _ h
def wp_M_replay_45 (post : wM → Prop) : Nat → Option Ro → Int32 → Int32 → wM → Prop
  | 0, _, _, _, _ => False
  | n + 1, x0, x1, x2, M => (x1 < x2 → post M) ∧ (¬ x1 < x2 → gR M x0 9 16 (fun a51 => lI M a51 x2 (fun a55 => (a55 < 0 → wp_M_replay_64 post (fun x0 x1 x2 M => wp_M_replay_45 post n x0 x1 x2 M) x0 x1 x2 M) ∧ (¬ a55 < 0 → cV M x0 9 (wp_M_execute (fun M61 => wp_M_replay_64 post (fun x0 x1 x2 M => wp_M_replay_45 post n x0 x1 x2 M) x0 x1 x2 M61) x0 x2 M)))))
set_option maxRecDepth 100000 in
set_option maxHeartbeats 4000000 in
theorem sd_M_replay_45 (X : Cx p s m args meth c b_M_replay 3 R_M TBL D dA B zE) (hr : meth.sig.returnType = none) (hin : meth.name = y_M_replay.name) {post : wM → Prop} : ∀ (n : Nat) (x0 : Option Ro) (x1 : Int32) (x2 : Int32) (M : wM), wp_M_replay_45 post n x0 x1 x2 M → AW p l e (headSpec w_M_replay rm_M_replay).room s m args below meth c (MQ below (QV D dA B zE M0 ad0 post) args s 0 0 (wA B)) D dA B zE 3 ad0 M0 M 0 0 45 [(0, vR x0), (1, vI x1), (2, vI x2)] [] := by
  intro n
  induction n with
  | zero => intro x0 x1 x2 M h; exact h.elim
  | succ n ih =>
    intro x0 x1 x2 M h
    unfold wp_M_replay_45 at h
    refine aw_iload_n X 2 rfl d_M_replay_45 rfl ?_
    refine aw_iload_n X 1 rfl d_M_replay_46 rfl ?_
    refine aw_icmp_gt (tgt := 70) X d_M_replay_47 (by decide) (fun c => ?_) (fun c => ?_)
    · have h := h.1 c
      exact aw_vret X hr (Nat.le_of_ble_eq_true rfl) (Nat.le_of_ble_eq_true rfl) d_M_replay_70 h
    · have h := h.2 c
      refine aw_aload_n X 0 rfl d_M_replay_50 rfl ?_
      refine aw_gR X hc_9 in_9 16 (by decide) LK_447 (fun _ _ _ _ h => h) d_M_replay_51 (h.mono (fun a51 h => ?_))
      refine aw_iload_n X 2 rfl d_M_replay_54 rfl ?_
      refine aw_lI X d_M_replay_55 (h.mono (fun a55 h => ?_))
      refine aw_if_lt (tgt := 64) X d_M_replay_56 (by decide) (fun c => ?_) (fun c => ?_)
      · have h := h.1 c
        exact sd_M_replay_64 X hr hin ih h
      · have h := h.2 c
        refine aw_aload_n X 0 rfl d_M_replay_59 rfl ?_
        refine aw_iload_n X 2 rfl d_M_replay_60 rfl ?_
        obtain ⟨⟨r61, f61, e61, g61⟩, h⟩ := h
        cases e61
        refine aw_cVv X [_] (fun ad hlv => t_M_execute l hlv h) (cwV 1 X.hts (gd_V LK_491 LK_492 LK_493 LK_463 LK_code_M_execute) rfl rfl rfl (by decide +kernel) ⟨(Nat.le_of_ble_eq_true rfl), (Nat.le_of_ble_eq_true rfl)⟩) ⟨9, f61, _, g61, hc_9, rfl⟩ rfl rfl (Nat.le_of_ble_eq_true rfl) d_M_replay_61 ⟨(Nat.le_of_ble_eq_true rfl), (Nat.le_of_ble_eq_true rfl)⟩ (fun M61 h => ?_)
        exact sd_M_replay_64 X hr hin ih h
def wp_M_replay_2 (post : wM → Prop) : Nat → Option Ro → Int32 → Int32 → wM → Prop
  | 0, _, _, _, _ => False
  | n + 1, x0, x1, x2, M => ((40 : Int32) ≤ x2 → gI M x0 9 24 (fun a39 => (∃ n, wp_M_replay_45 post n x0 x1 (a39 + 1) M))) ∧ (¬ (40 : Int32) ≤ x2 → gR M x0 9 1 (fun a9 => gR M x0 9 3 (fun a14 => lZ M a14 x2 (fun a18 => sZ M a9 x2 a18 (fun M19 => gR M19 x0 9 2 (fun a21 => gR M19 x0 9 4 (fun a26 => lI M19 a26 x2 (fun a30 => sI M19 a21 x2 a30 (fun M31 => wp_M_replay_2 post n x0 x1 (x2 + 1) M31)))))))))
set_option maxRecDepth 100000 in
set_option maxHeartbeats 4000000 in
theorem sd_M_replay_2 (X : Cx p s m args meth c b_M_replay 3 R_M TBL D dA B zE) (hr : meth.sig.returnType = none) (hin : meth.name = y_M_replay.name) {post : wM → Prop} : ∀ (n : Nat) (x0 : Option Ro) (x1 : Int32) (x2 : Int32) (M : wM), wp_M_replay_2 post n x0 x1 x2 M → AW p l e (headSpec w_M_replay rm_M_replay).room s m args below meth c (MQ below (QV D dA B zE M0 ad0 post) args s 0 0 (wA B)) D dA B zE 3 ad0 M0 M 0 0 2 [(0, vR x0), (1, vI x1), (2, vI x2)] [] := by
  intro n
  induction n with
  | zero => intro x0 x1 x2 M h; exact h.elim
  | succ n ih =>
    intro x0 x1 x2 M h
    unfold wp_M_replay_2 at h
    refine aw_iload_n X 2 rfl d_M_replay_2 rfl ?_
    refine aw_bipush X (40) (by decide) d_M_replay_3 ?_
    refine aw_icmp_ge (tgt := 38) X d_M_replay_5 (by decide) (fun c => ?_) (fun c => ?_)
    · have h := h.1 c
      refine aw_aload_n X 0 rfl d_M_replay_38 rfl ?_
      refine aw_gI X hc_9 in_9 24 (by decide) LK_466 (fun _ _ _ _ h => h) d_M_replay_39 (h.mono (fun a39 h => ?_))
      refine aw_iconst X (1) (by decide) d_M_replay_42 ?_
      refine aw_iadd X d_M_replay_43 ?_
      refine aw_istore_n (lvn := [(2, _), (0, _), (1, _)]) X d_M_replay_44 rfl (by decide) rfl ?_
      refine aw_lv [1, 2, 0] rfl ?_
      obtain ⟨n, h⟩ := h
      exact sd_M_replay_45 X hr hin n _ _ _ _ h
    · have h := h.2 c
      refine aw_aload_n X 0 rfl d_M_replay_8 rfl ?_
      refine aw_gR X hc_9 in_9 1 (by decide) LK_433 (fun _ _ _ _ h => h) d_M_replay_9 (h.mono (fun a9 h => ?_))
      refine aw_iload_n X 2 rfl d_M_replay_12 rfl ?_
      refine aw_aload_n X 0 rfl d_M_replay_13 rfl ?_
      refine aw_gR X hc_9 in_9 3 (by decide) LK_435 (fun _ _ _ _ h => h) d_M_replay_14 (h.mono (fun a14 h => ?_))
      refine aw_iload_n X 2 rfl d_M_replay_17 rfl ?_
      refine aw_lZ X d_M_replay_18 (h.mono (fun a18 h => ?_))
      refine aw_sZ X d_M_replay_19 (h.mono (fun M19 h => ?_))
      refine aw_aload_n X 0 rfl d_M_replay_20 rfl ?_
      refine aw_gR X hc_9 in_9 2 (by decide) LK_434 (fun _ _ _ _ h => h) d_M_replay_21 (h.mono (fun a21 h => ?_))
      refine aw_iload_n X 2 rfl d_M_replay_24 rfl ?_
      refine aw_aload_n X 0 rfl d_M_replay_25 rfl ?_
      refine aw_gR X hc_9 in_9 4 (by decide) LK_436 (fun _ _ _ _ h => h) d_M_replay_26 (h.mono (fun a26 h => ?_))
      refine aw_iload_n X 2 rfl d_M_replay_29 rfl ?_
      refine aw_lI X d_M_replay_30 (h.mono (fun a30 h => ?_))
      refine aw_sI X d_M_replay_31 (h.mono (fun M31 h => ?_))
      refine aw_iinc (y := x2 + 1) (lvn := [(2, _), (0, _), (1, _)]) X 2 rfl d_M_replay_32 rfl (by decide) rfl ?_
      refine aw_goto (tgt := 2) X d_M_replay_35 (by decide) ?_
      refine aw_lv [1, 2, 0] rfl ?_
      exact ih _ _ _ _ h
def wp_M_replay (post : wM → Prop) (x0 : Option Ro) (x1 : Int32) (M : wM) : Prop := (∃ n, wp_M_replay_2 post n x0 x1 0 M)
set_option maxRecDepth 100000 in
set_option maxHeartbeats 4000000 in
theorem sd_M_replay_0 (X : Cx p s m args meth c b_M_replay 3 R_M TBL D dA B zE) (hr : meth.sig.returnType = none) (hin : meth.name = y_M_replay.name) {post : wM → Prop} {x0 : Option Ro} {x1 : Int32} {M : wM} (h : wp_M_replay post x0 x1 M) : AW p l e (headSpec w_M_replay rm_M_replay).room s m args below meth c (MQ below (QV D dA B zE M0 ad0 post) args s 0 0 (wA B)) D dA B zE 3 ad0 M0 M 0 0 0 [(0, vR x0), (1, vI x1)] [] := by
  unfold wp_M_replay at h
  refine aw_iconst X (0) (by decide) d_M_replay_0 ?_
  refine aw_istore_n (lvn := [(2, _), (0, _), (1, _)]) X d_M_replay_1 rfl (by decide) rfl ?_
  refine aw_lv [1, 2, 0] rfl ?_
  obtain ⟨n, h⟩ := h
  exact sd_M_replay_2 X hr hin n _ _ _ _ h
end
theorem t_M_replay (l : Launch) {D : va_G} {dA : Nat → ClassId} {B : Nat} {zE : ZT} {M : wM} {ad : Ro → Nat} {post : wM → Prop} {x0 : Option Ro} {x1 : Int32} (hlv : lvS M [vR x0, vI x1]) (h : wp_M_replay post x0 x1 M) : Met l y_M_replay w_M_replay rm_M_replay (PA D dA B zE M ad [vR x0, vI x1]) (QV D dA B zE M ad post) 0 0 (wA B) :=
  AW_start [vR x0, vI x1] [(0, vR x0), (1, vI x1)] hlv (by decide +kernel) rfl (fun _ hw => List.mem_cons_of_mem _ hw) rfl (Nat.le_of_ble_eq_true rfl) (fun p e s m args below meth c X hr hin => sd_M_replay_0 X hr hin h)
abbrev rm_M_tellClients : Room := { frames := 0, cells := 0, slots := 0, locals := 0 }
section
variable {p : Program} {l : Launch} {e : Env} {s : State} {m : MethodId} {args : Array Value} {below : List Frame} {meth : Method} {c : Code} {D : va_G} {dA : Nat → ClassId} {B : Nat} {zE : ZT} {ad0 : Ro → Nat} {M0 : wM}
def wp_M_tellClients_121 (post : wM → Prop) (k2 : Option Ro → Int32 → wM → Prop) (x0 : Option Ro) (x1 : Int32) (x2 : Int32) (M : wM) : Prop := k2 x0 (x1 + 1) M
set_option maxRecDepth 100000 in
set_option maxHeartbeats 4000000 in
theorem sd_M_tellClients_121 (X : Cx p s m args meth c b_M_tellClients 4 R_M TBL D dA B zE) (hr : meth.sig.returnType = none) (hin : meth.name = y_M_tellClients.name) {post : wM → Prop} {k2 : Option Ro → Int32 → wM → Prop} (hk2 : ∀ (x0 : Option Ro) (x1 : Int32) (M : wM), k2 x0 x1 M → AW p l e (headSpec w_M_tellClients rm_M_tellClients).room s m args below meth c (MQ below (QV D dA B zE M0 ad0 post) args s 0 0 (wA B)) D dA B zE 4 ad0 M0 M 0 0 2 [(0, vR x0), (1, vI x1)] []) {x0 : Option Ro} {x1 : Int32} {x2 : Int32} {M : wM} (h : wp_M_tellClients_121 post k2 x0 x1 x2 M) : AW p l e (headSpec w_M_tellClients rm_M_tellClients).room s m args below meth c (MQ below (QV D dA B zE M0 ad0 post) args s 0 0 (wA B)) D dA B zE 4 ad0 M0 M 0 0 121 [(0, vR x0), (1, vI x1), (2, vI x2)] [] := by
  unfold wp_M_tellClients_121 at h
  refine aw_iinc (y := x1 + 1) (lvn := [(1, _), (0, _), (2, _)]) X 1 rfl d_M_tellClients_121 rfl (by decide) rfl ?_
  refine aw_goto (tgt := 2) X d_M_tellClients_124 (by decide) ?_
  refine aw_lv [1, 0] rfl ?_
  exact hk2 _ _ _ h
def wp_M_tellClients_90 (post : wM → Prop) (k2 : Option Ro → Int32 → wM → Prop) : Nat → Option Ro → Int32 → Int32 → Int32 → wM → Prop
  | 0, _, _, _, _, _ => False
  | n + 1, x0, x1, x2, x3, M => ((4 : Int32) ≤ x3 → wp_M_tellClients_121 post k2 x0 x1 x2 M) ∧ (¬ (4 : Int32) ≤ x3 → gR M x0 9 30 (fun a96 => gR M x0 9 22 (fun a105 => lI M a105 ((4 * x2) + x3) (fun a113 => sI M a96 ((4 * x1) + x3) a113 (fun M114 => wp_M_tellClients_90 post k2 n x0 x1 x2 (x3 + 1) M114)))))
set_option maxRecDepth 100000 in
set_option maxHeartbeats 4000000 in
theorem sd_M_tellClients_90 (X : Cx p s m args meth c b_M_tellClients 4 R_M TBL D dA B zE) (hr : meth.sig.returnType = none) (hin : meth.name = y_M_tellClients.name) {post : wM → Prop} {k2 : Option Ro → Int32 → wM → Prop} (hk2 : ∀ (x0 : Option Ro) (x1 : Int32) (M : wM), k2 x0 x1 M → AW p l e (headSpec w_M_tellClients rm_M_tellClients).room s m args below meth c (MQ below (QV D dA B zE M0 ad0 post) args s 0 0 (wA B)) D dA B zE 4 ad0 M0 M 0 0 2 [(0, vR x0), (1, vI x1)] []) : ∀ (n : Nat) (x0 : Option Ro) (x1 : Int32) (x2 : Int32) (x3 : Int32) (M : wM), wp_M_tellClients_90 post k2 n x0 x1 x2 x3 M → AW p l e (headSpec w_M_tellClients rm_M_tellClients).room s m args below meth c (MQ below (QV D dA B zE M0 ad0 post) args s 0 0 (wA B)) D dA B zE 4 ad0 M0 M 0 0 90 [(0, vR x0), (1, vI x1), (2, vI x2), (3, vI x3)] [] := by
  intro n
  induction n with
  | zero => intro x0 x1 x2 x3 M h; exact h.elim
  | succ n ih =>
    intro x0 x1 x2 x3 M h
    unfold wp_M_tellClients_90 at h
    refine aw_iload_n X 3 rfl d_M_tellClients_90 rfl ?_
    refine aw_iconst X (4) (by decide) d_M_tellClients_91 ?_
    refine aw_icmp_ge (tgt := 121) X d_M_tellClients_92 (by decide) (fun c => ?_) (fun c => ?_)
    · have h := h.1 c
      refine aw_lv [0, 1, 2] rfl ?_
      exact sd_M_tellClients_121 X hr hin hk2 h
    · have h := h.2 c
      refine aw_aload_n X 0 rfl d_M_tellClients_95 rfl ?_
      refine aw_gR X hc_9 in_9 30 (by decide) LK_458 (fun _ _ _ _ h => h) d_M_tellClients_96 (h.mono (fun a96 h => ?_))
      refine aw_iconst X (4) (by decide) d_M_tellClients_99 ?_
      refine aw_iload_n X 1 rfl d_M_tellClients_100 rfl ?_
      refine aw_imul X d_M_tellClients_101 ?_
      refine aw_iload_n X 3 rfl d_M_tellClients_102 rfl ?_
      refine aw_iadd X d_M_tellClients_103 ?_
      refine aw_aload_n X 0 rfl d_M_tellClients_104 rfl ?_
      refine aw_gR X hc_9 in_9 22 (by decide) LK_453 (fun _ _ _ _ h => h) d_M_tellClients_105 (h.mono (fun a105 h => ?_))
      refine aw_iconst X (4) (by decide) d_M_tellClients_108 ?_
      refine aw_iload_n X 2 rfl d_M_tellClients_109 rfl ?_
      refine aw_imul X d_M_tellClients_110 ?_
      refine aw_iload_n X 3 rfl d_M_tellClients_111 rfl ?_
      refine aw_iadd X d_M_tellClients_112 ?_
      refine aw_lI X d_M_tellClients_113 (h.mono (fun a113 h => ?_))
      refine aw_sI X d_M_tellClients_114 (h.mono (fun M114 h => ?_))
      refine aw_iinc (y := x3 + 1) (lvn := [(3, _), (0, _), (1, _), (2, _)]) X 3 rfl d_M_tellClients_115 rfl (by decide) rfl ?_
      refine aw_goto (tgt := 90) X d_M_tellClients_118 (by decide) ?_
      refine aw_lv [1, 2, 3, 0] rfl ?_
      exact ih _ _ _ _ _ h
def wp_M_tellClients_63 (post : wM → Prop) (k2 : Option Ro → Int32 → wM → Prop) (x0 : Option Ro) (x1 : Int32) (x2 : Int32) (s0 : Int32) (s1 : Int32) (s2 : Option Ro) (M : wM) : Prop := sI M s2 s1 s0 (fun M63 => gR M63 x0 9 31 (fun a65 => gR M63 x0 9 20 (fun a70 => lI M63 a70 x2 (fun a74 => sI M63 a65 x1 a74 (fun M75 => gR M75 x0 9 29 (fun a77 => gR M75 x0 9 21 (fun a82 => lI M75 a82 x2 (fun a86 => sI M75 a77 x1 a86 (fun M87 => (∃ n, wp_M_tellClients_90 post k2 n x0 x1 x2 0 M87))))))))))
set_option maxRecDepth 100000 in
set_option maxHeartbeats 4000000 in
theorem sd_M_tellClients_63 (X : Cx p s m args meth c b_M_tellClients 4 R_M TBL D dA B zE) (hr : meth.sig.returnType = none) (hin : meth.name = y_M_tellClients.name) {post : wM → Prop} {k2 : Option Ro → Int32 → wM → Prop} (hk2 : ∀ (x0 : Option Ro) (x1 : Int32) (M : wM), k2 x0 x1 M → AW p l e (headSpec w_M_tellClients rm_M_tellClients).room s m args below meth c (MQ below (QV D dA B zE M0 ad0 post) args s 0 0 (wA B)) D dA B zE 4 ad0 M0 M 0 0 2 [(0, vR x0), (1, vI x1)] []) {x0 : Option Ro} {x1 : Int32} {x2 : Int32} {s0 : Int32} {s1 : Int32} {s2 : Option Ro} {M : wM} (h : wp_M_tellClients_63 post k2 x0 x1 x2 s0 s1 s2 M) : AW p l e (headSpec w_M_tellClients rm_M_tellClients).room s m args below meth c (MQ below (QV D dA B zE M0 ad0 post) args s 0 0 (wA B)) D dA B zE 4 ad0 M0 M 0 0 63 [(0, vR x0), (1, vI x1), (2, vI x2)] [vI s0, vI s1, vR s2] := by
  unfold wp_M_tellClients_63 at h
  refine aw_sI X d_M_tellClients_63 (h.mono (fun M63 h => ?_))
  refine aw_aload_n X 0 rfl d_M_tellClients_64 rfl ?_
  refine aw_gR X hc_9 in_9 31 (by decide) LK_459 (fun _ _ _ _ h => h) d_M_tellClients_65 (h.mono (fun a65 h => ?_))
  refine aw_iload_n X 1 rfl d_M_tellClients_68 rfl ?_
  refine aw_aload_n X 0 rfl d_M_tellClients_69 rfl ?_
  refine aw_gR X hc_9 in_9 20 (by decide) LK_451 (fun _ _ _ _ h => h) d_M_tellClients_70 (h.mono (fun a70 h => ?_))
  refine aw_iload_n X 2 rfl d_M_tellClients_73 rfl ?_
  refine aw_lI X d_M_tellClients_74 (h.mono (fun a74 h => ?_))
  refine aw_sI X d_M_tellClients_75 (h.mono (fun M75 h => ?_))
  refine aw_aload_n X 0 rfl d_M_tellClients_76 rfl ?_
  refine aw_gR X hc_9 in_9 29 (by decide) LK_457 (fun _ _ _ _ h => h) d_M_tellClients_77 (h.mono (fun a77 h => ?_))
  refine aw_iload_n X 1 rfl d_M_tellClients_80 rfl ?_
  refine aw_aload_n X 0 rfl d_M_tellClients_81 rfl ?_
  refine aw_gR X hc_9 in_9 21 (by decide) LK_452 (fun _ _ _ _ h => h) d_M_tellClients_82 (h.mono (fun a82 h => ?_))
  refine aw_iload_n X 2 rfl d_M_tellClients_85 rfl ?_
  refine aw_lI X d_M_tellClients_86 (h.mono (fun a86 h => ?_))
  refine aw_sI X d_M_tellClients_87 (h.mono (fun M87 h => ?_))
  refine aw_iconst X (0) (by decide) d_M_tellClients_88 ?_
  refine aw_istore_n (lvn := [(3, _), (0, _), (1, _), (2, _)]) X d_M_tellClients_89 rfl (by decide) rfl ?_
  refine aw_lv [1, 2, 3, 0] rfl ?_
  obtain ⟨n, h⟩ := h
  exact sd_M_tellClients_90 X hr hin hk2 n _ _ _ _ _ h
def wp_M_tellClients_2 (post : wM → Prop) : Nat → Option Ro → Int32 → wM → Prop
  | 0, _, _, _ => False
  | n + 1, x0, x1, M => ((4 : Int32) ≤ x1 → post M) ∧ (¬ (4 : Int32) ≤ x1 → gR M x0 9 28 (fun a8 => lI M a8 x1 (fun a12 => gR M x0 9 27 (fun a15 => lI M a15 x1 (fun a19 => (¬ a19 = (1 : Int32) → wp_M_tellClients_121 post (fun x0 x1 M => wp_M_tellClients_2 post n x0 x1 M) x0 x1 a12 M) ∧ (a19 = (1 : Int32) → gR M x0 9 18 (fun a25 => lZ M a25 a12 (fun a29 => (a29 = 0 → wp_M_tellClients_121 post (fun x0 x1 M => wp_M_tellClients_2 post n x0 x1 M) x0 x1 a12 M) ∧ (¬ a29 = 0 → gI M x0 9 23 (fun a35 => (a12 ≤ a35 → gR M x0 9 27 (fun a45 => gR M x0 9 20 (fun a50 => lI M a50 a12 (fun a54 => (0 ≤ a54 → wp_M_tellClients_63 post (fun x0 x1 M => wp_M_tellClients_2 post n x0 x1 M) x0 x1 a12 3 x1 a45 M) ∧ (¬ 0 ≤ a54 → wp_M_tellClients_63 post (fun x0 x1 M => wp_M_tellClients_2 post n x0 x1 M) x0 x1 a12 2 x1 a45 M))))) ∧ (¬ a12 ≤ a35 → wp_M_tellClients_121 post (fun x0 x1 M => wp_M_tellClients_2 post n x0 x1 M) x0 x1 a12 M)))))))))))
set_option maxRecDepth 100000 in
set_option maxHeartbeats 4000000 in
theorem sd_M_tellClients_2 (X : Cx p s m args meth c b_M_tellClients 4 R_M TBL D dA B zE) (hr : meth.sig.returnType = none) (hin : meth.name = y_M_tellClients.name) {post : wM → Prop} : ∀ (n : Nat) (x0 : Option Ro) (x1 : Int32) (M : wM), wp_M_tellClients_2 post n x0 x1 M → AW p l e (headSpec w_M_tellClients rm_M_tellClients).room s m args below meth c (MQ below (QV D dA B zE M0 ad0 post) args s 0 0 (wA B)) D dA B zE 4 ad0 M0 M 0 0 2 [(0, vR x0), (1, vI x1)] [] := by
  intro n
  induction n with
  | zero => intro x0 x1 M h; exact h.elim
  | succ n ih =>
    intro x0 x1 M h
    unfold wp_M_tellClients_2 at h
    refine aw_iload_n X 1 rfl d_M_tellClients_2 rfl ?_
    refine aw_iconst X (4) (by decide) d_M_tellClients_3 ?_
    refine aw_icmp_ge (tgt := 127) X d_M_tellClients_4 (by decide) (fun c => ?_) (fun c => ?_)
    · have h := h.1 c
      exact aw_vret X hr (Nat.le_of_ble_eq_true rfl) (Nat.le_of_ble_eq_true rfl) d_M_tellClients_127 h
    · have h := h.2 c
      refine aw_aload_n X 0 rfl d_M_tellClients_7 rfl ?_
      refine aw_gR X hc_9 in_9 28 (by decide) LK_456 (fun _ _ _ _ h => h) d_M_tellClients_8 (h.mono (fun a8 h => ?_))
      refine aw_iload_n X 1 rfl d_M_tellClients_11 rfl ?_
      refine aw_lI X d_M_tellClients_12 (h.mono (fun a12 h => ?_))
      refine aw_istore_n (lvn := [(2, _), (0, _), (1, _)]) X d_M_tellClients_13 rfl (by decide) rfl ?_
      refine aw_aload_n X 1 rfl d_M_tellClients_14 rfl ?_
      refine aw_gR X hc_9 in_9 27 (by decide) LK_455 (fun _ _ _ _ h => h) d_M_tellClients_15 (h.mono (fun a15 h => ?_))
      refine aw_iload_n X 2 rfl d_M_tellClients_18 rfl ?_
      refine aw_lI X d_M_tellClients_19 (h.mono (fun a19 h => ?_))
      refine aw_iconst X (1) (by decide) d_M_tellClients_20 ?_
      refine aw_icmp_ne (tgt := 121) X d_M_tellClients_21 (by decide) (fun c => ?_) (fun c => ?_)
      · have h := h.1 c
        refine aw_lv [1, 2, 0] rfl ?_
        exact sd_M_tellClients_121 X hr hin ih h
      · have h := h.2 c
        refine aw_aload_n X 1 rfl d_M_tellClients_24 rfl ?_
        refine aw_gR X hc_9 in_9 18 (by decide) LK_449 (fun _ _ _ _ h => h) d_M_tellClients_25 (h.mono (fun a25 h => ?_))
        refine aw_iload_n X 0 rfl d_M_tellClients_28 rfl ?_
        refine aw_lZ X d_M_tellClients_29 (h.mono (fun a29 h => ?_))
        refine aw_if_eq (tgt := 121) X d_M_tellClients_30 (by decide) (fun c => ?_) (fun c => ?_)
        · have h := h.1 c
          refine aw_lv [1, 2, 0] rfl ?_
          exact sd_M_tellClients_121 X hr hin ih h
        · have h := h.2 c
          refine aw_iload_n X 0 rfl d_M_tellClients_33 rfl ?_
          refine aw_aload_n X 1 rfl d_M_tellClients_34 rfl ?_
          refine aw_gI X hc_9 in_9 23 (by decide) LK_495 (fun _ _ _ _ h => h) d_M_tellClients_35 (h.mono (fun a35 h => ?_))
          refine aw_icmp_le (tgt := 44) X d_M_tellClients_38 (by decide) (fun c => ?_) (fun c => ?_)
          · have h := h.1 c
            refine aw_aload_n X 1 rfl d_M_tellClients_44 rfl ?_
            refine aw_gR X hc_9 in_9 27 (by decide) LK_455 (fun _ _ _ _ h => h) d_M_tellClients_45 (h.mono (fun a45 h => ?_))
            refine aw_iload_n X 2 rfl d_M_tellClients_48 rfl ?_
            refine aw_aload_n X 1 rfl d_M_tellClients_49 rfl ?_
            refine aw_gR X hc_9 in_9 20 (by decide) LK_451 (fun _ _ _ _ h => h) d_M_tellClients_50 (h.mono (fun a50 h => ?_))
            refine aw_iload_n X 0 rfl d_M_tellClients_53 rfl ?_
            refine aw_lI X d_M_tellClients_54 (h.mono (fun a54 h => ?_))
            refine aw_if_ge (tgt := 62) X d_M_tellClients_55 (by decide) (fun c => ?_) (fun c => ?_)
            · have h := h.1 c
              refine aw_iconst X (3) (by decide) d_M_tellClients_62 ?_
              refine aw_lv [1, 2, 0] rfl ?_
              exact sd_M_tellClients_63 X hr hin ih h
            · have h := h.2 c
              refine aw_iconst X (2) (by decide) d_M_tellClients_58 ?_
              refine aw_goto (tgt := 63) X d_M_tellClients_59 (by decide) ?_
              refine aw_lv [1, 2, 0] rfl ?_
              exact sd_M_tellClients_63 X hr hin ih h
          · have h := h.2 c
            refine aw_goto (tgt := 121) X d_M_tellClients_41 (by decide) ?_
            refine aw_lv [1, 2, 0] rfl ?_
            exact sd_M_tellClients_121 X hr hin ih h
def wp_M_tellClients (post : wM → Prop) (x0 : Option Ro) (M : wM) : Prop := (∃ n, wp_M_tellClients_2 post n x0 0 M)
set_option maxRecDepth 100000 in
set_option maxHeartbeats 4000000 in
theorem sd_M_tellClients_0 (X : Cx p s m args meth c b_M_tellClients 4 R_M TBL D dA B zE) (hr : meth.sig.returnType = none) (hin : meth.name = y_M_tellClients.name) {post : wM → Prop} {x0 : Option Ro} {M : wM} (h : wp_M_tellClients post x0 M) : AW p l e (headSpec w_M_tellClients rm_M_tellClients).room s m args below meth c (MQ below (QV D dA B zE M0 ad0 post) args s 0 0 (wA B)) D dA B zE 4 ad0 M0 M 0 0 0 [(0, vR x0)] [] := by
  unfold wp_M_tellClients at h
  refine aw_iconst X (0) (by decide) d_M_tellClients_0 ?_
  refine aw_istore_n (lvn := [(1, _), (0, _)]) X d_M_tellClients_1 rfl (by decide) rfl ?_
  refine aw_lv [1, 0] rfl ?_
  obtain ⟨n, h⟩ := h
  exact sd_M_tellClients_2 X hr hin n _ _ _ h
end
theorem t_M_tellClients (l : Launch) {D : va_G} {dA : Nat → ClassId} {B : Nat} {zE : ZT} {M : wM} {ad : Ro → Nat} {post : wM → Prop} {x0 : Option Ro} (hlv : lvS M [vR x0]) (h : wp_M_tellClients post x0 M) : Met l y_M_tellClients w_M_tellClients rm_M_tellClients (PA D dA B zE M ad [vR x0]) (QV D dA B zE M ad post) 0 0 (wA B) :=
  AW_start [vR x0] [(0, vR x0)] hlv (by decide +kernel) rfl (fun _ hw => List.mem_cons_of_mem _ hw) rfl (Nat.le_of_ble_eq_true rfl) (fun p e s m args below meth c X hr hin => sd_M_tellClients_0 X hr hin h)
abbrev rm_M_completeIfDone : Room := { frames := 5, cells := 0, slots := 0, locals := 114 }
section
variable {p : Program} {l : Launch} {e : Env} {s : State} {m : MethodId} {args : Array Value} {below : List Frame} {meth : Method} {c : Code} {D : va_G} {dA : Nat → ClassId} {B : Nat} {zE : ZT} {ad0 : Ro → Nat} {M0 : wM}
def wp_M_completeIfDone_172 (post : wM → Prop) (k141 : Option Ro → Int32 → wM → Prop) (x0 : Option Ro) (x1 : Int32) (M : wM) : Prop := k141 x0 (x1 + 1) M
set_option maxRecDepth 100000 in
set_option maxHeartbeats 4000000 in
theorem sd_M_completeIfDone_172 (X : Cx p s m args meth c b_M_completeIfDone 2 R_M TBL D dA B zE) (hr : meth.sig.returnType = none) (hin : meth.name = y_M_completeIfDone.name) {post : wM → Prop} {k141 : Option Ro → Int32 → wM → Prop} (hk141 : ∀ (x0 : Option Ro) (x1 : Int32) (M : wM), k141 x0 x1 M → AW p l e (headSpec w_M_completeIfDone rm_M_completeIfDone).room s m args below meth c (MQ below (QV D dA B zE M0 ad0 post) args s 0 0 (wA B)) D dA B zE 2 ad0 M0 M 0 0 141 [(0, vR x0), (1, vI x1)] []) {x0 : Option Ro} {x1 : Int32} {M : wM} (h : wp_M_completeIfDone_172 post k141 x0 x1 M) : AW p l e (headSpec w_M_completeIfDone rm_M_completeIfDone).room s m args below meth c (MQ below (QV D dA B zE M0 ad0 post) args s 0 0 (wA B)) D dA B zE 2 ad0 M0 M 0 0 172 [(0, vR x0), (1, vI x1)] [] := by
  unfold wp_M_completeIfDone_172 at h
  refine aw_iinc (y := x1 + 1) (lvn := [(1, _), (0, _)]) X 1 rfl d_M_completeIfDone_172 rfl (by decide) rfl ?_
  refine aw_goto (tgt := 141) X d_M_completeIfDone_175 (by decide) ?_
  refine aw_lv [1, 0] rfl ?_
  exact hk141 _ _ _ h
def wp_M_completeIfDone_141 (post : wM → Prop) : Nat → Option Ro → Int32 → wM → Prop
  | 0, _, _, _ => False
  | n + 1, x0, x1, M => gI M x0 9 15 (fun a143 => (a143 < x1 → cV M x0 9 (wp_M_tellClients (fun M179 => post M179) x0 M)) ∧ (¬ a143 < x1 → gR M x0 9 16 (fun a150 => lI M a150 x1 (fun a154 => (a154 < 0 → wp_M_completeIfDone_172 post (fun x0 x1 M => wp_M_completeIfDone_141 post n x0 x1 M) x0 x1 M) ∧ (¬ a154 < 0 → gR M x0 9 18 (fun a159 => lZ M a159 x1 (fun a163 => (a163 = 0 → wp_M_completeIfDone_172 post (fun x0 x1 M => wp_M_completeIfDone_141 post n x0 x1 M) x0 x1 M) ∧ (¬ a163 = 0 → cV M x0 9 (wp_M_execute (fun M169 => wp_M_completeIfDone_172 post (fun x0 x1 M => wp_M_completeIfDone_141 post n x0 x1 M) x0 x1 M169) x0 x1 M)))))))))
set_option maxRecDepth 100000 in
set_option maxHeartbeats 4000000 in
theorem sd_M_completeIfDone_141 (X : Cx p s m args meth c b_M_completeIfDone 2 R_M TBL D dA B zE) (hr : meth.sig.returnType = none) (hin : meth.name = y_M_completeIfDone.name) {post : wM → Prop} : ∀ (n : Nat) (x0 : Option Ro) (x1 : Int32) (M : wM), wp_M_completeIfDone_141 post n x0 x1 M → AW p l e (headSpec w_M_completeIfDone rm_M_completeIfDone).room s m args below meth c (MQ below (QV D dA B zE M0 ad0 post) args s 0 0 (wA B)) D dA B zE 2 ad0 M0 M 0 0 141 [(0, vR x0), (1, vI x1)] [] := by
  intro n
  induction n with
  | zero => intro x0 x1 M h; exact h.elim
  | succ n ih =>
    intro x0 x1 M h
    unfold wp_M_completeIfDone_141 at h
    refine aw_iload_n X 1 rfl d_M_completeIfDone_141 rfl ?_
    refine aw_aload_n X 0 rfl d_M_completeIfDone_142 rfl ?_
    refine aw_gI X hc_9 in_9 15 (by decide) LK_465 (fun _ _ _ _ h => h) d_M_completeIfDone_143 (h.mono (fun a143 h => ?_))
    refine aw_icmp_gt (tgt := 178) X d_M_completeIfDone_146 (by decide) (fun c => ?_) (fun c => ?_)
    · have h := h.1 c
      refine aw_aload_n X 0 rfl d_M_completeIfDone_178 rfl ?_
      obtain ⟨⟨r179, f179, e179, g179⟩, h⟩ := h
      cases e179
      refine aw_cVv X [] (fun ad hlv => t_M_tellClients l hlv h) (cwV 0 X.hts (gd_V LK_496 LK_497 LK_498 LK_463 LK_code_M_tellClients) rfl rfl rfl (by decide +kernel) ⟨(Nat.le_of_ble_eq_true rfl), (Nat.le_of_ble_eq_true rfl)⟩) ⟨9, f179, _, g179, hc_9, rfl⟩ rfl rfl (Nat.le_of_ble_eq_true rfl) d_M_completeIfDone_179 ⟨(Nat.le_of_ble_eq_true rfl), (Nat.le_of_ble_eq_true rfl)⟩ (fun M179 h => ?_)
      exact aw_vret X hr (Nat.le_of_ble_eq_true rfl) (Nat.le_of_ble_eq_true rfl) d_M_completeIfDone_182 h
    · have h := h.2 c
      refine aw_aload_n X 0 rfl d_M_completeIfDone_149 rfl ?_
      refine aw_gR X hc_9 in_9 16 (by decide) LK_447 (fun _ _ _ _ h => h) d_M_completeIfDone_150 (h.mono (fun a150 h => ?_))
      refine aw_iload_n X 1 rfl d_M_completeIfDone_153 rfl ?_
      refine aw_lI X d_M_completeIfDone_154 (h.mono (fun a154 h => ?_))
      refine aw_if_lt (tgt := 172) X d_M_completeIfDone_155 (by decide) (fun c => ?_) (fun c => ?_)
      · have h := h.1 c
        exact sd_M_completeIfDone_172 X hr hin ih h
      · have h := h.2 c
        refine aw_aload_n X 0 rfl d_M_completeIfDone_158 rfl ?_
        refine aw_gR X hc_9 in_9 18 (by decide) LK_449 (fun _ _ _ _ h => h) d_M_completeIfDone_159 (h.mono (fun a159 h => ?_))
        refine aw_iload_n X 1 rfl d_M_completeIfDone_162 rfl ?_
        refine aw_lZ X d_M_completeIfDone_163 (h.mono (fun a163 h => ?_))
        refine aw_if_eq (tgt := 172) X d_M_completeIfDone_164 (by decide) (fun c => ?_) (fun c => ?_)
        · have h := h.1 c
          exact sd_M_completeIfDone_172 X hr hin ih h
        · have h := h.2 c
          refine aw_aload_n X 0 rfl d_M_completeIfDone_167 rfl ?_
          refine aw_iload_n X 1 rfl d_M_completeIfDone_168 rfl ?_
          obtain ⟨⟨r169, f169, e169, g169⟩, h⟩ := h
          cases e169
          refine aw_cVv X [_] (fun ad hlv => t_M_execute l hlv h) (cwV 1 X.hts (gd_V LK_491 LK_492 LK_493 LK_463 LK_code_M_execute) rfl rfl rfl (by decide +kernel) ⟨(Nat.le_of_ble_eq_true rfl), (Nat.le_of_ble_eq_true rfl)⟩) ⟨9, f169, _, g169, hc_9, rfl⟩ rfl rfl (Nat.le_of_ble_eq_true rfl) d_M_completeIfDone_169 ⟨(Nat.le_of_ble_eq_true rfl), (Nat.le_of_ble_eq_true rfl)⟩ (fun M169 h => ?_)
          exact sd_M_completeIfDone_172 X hr hin ih h
def wp_M_completeIfDone_134 (post : wM → Prop) (x0 : Option Ro) (x1 : Int32) (M : wM) : Prop := gI M x0 9 24 (fun a135 => (∃ n, wp_M_completeIfDone_141 post n x0 (a135 + 1) M))
set_option maxRecDepth 100000 in
set_option maxHeartbeats 4000000 in
theorem sd_M_completeIfDone_134 (X : Cx p s m args meth c b_M_completeIfDone 2 R_M TBL D dA B zE) (hr : meth.sig.returnType = none) (hin : meth.name = y_M_completeIfDone.name) {post : wM → Prop} {x0 : Option Ro} {x1 : Int32} {M : wM} (h : wp_M_completeIfDone_134 post x0 x1 M) : AW p l e (headSpec w_M_completeIfDone rm_M_completeIfDone).room s m args below meth c (MQ below (QV D dA B zE M0 ad0 post) args s 0 0 (wA B)) D dA B zE 2 ad0 M0 M 0 0 134 [(0, vR x0), (1, vI x1)] [] := by
  unfold wp_M_completeIfDone_134 at h
  refine aw_aload_n X 0 rfl d_M_completeIfDone_134 rfl ?_
  refine aw_gI X hc_9 in_9 24 (by decide) LK_466 (fun _ _ _ _ h => h) d_M_completeIfDone_135 (h.mono (fun a135 h => ?_))
  refine aw_iconst X (1) (by decide) d_M_completeIfDone_138 ?_
  refine aw_iadd X d_M_completeIfDone_139 ?_
  refine aw_istore_n (lvn := [(1, _), (0, _)]) X d_M_completeIfDone_140 rfl (by decide) rfl ?_
  refine aw_lv [1, 0] rfl ?_
  obtain ⟨n, h⟩ := h
  exact sd_M_completeIfDone_141 X hr hin n _ _ _ h
def wp_M_completeIfDone_66 (post : wM → Prop) : Nat → Option Ro → Int32 → wM → Prop
  | 0, _, _, _ => False
  | n + 1, x0, x1, M => ((40 : Int32) ≤ x1 → gI M x0 9 25 (fun a104 => pF M x0 9 24 (vI a104) (fun M107 => pF M107 x0 9 25 (vI 0) (fun M112 => gI M112 x0 9 23 (fun a116 => gI M112 x0 9 24 (fun a120 => (a120 ≤ a116 → wp_M_completeIfDone_134 post x0 x1 M112) ∧ (¬ a120 ≤ a116 → gI M112 x0 9 24 (fun a128 => pF M112 x0 9 23 (vI a128) (fun M131 => wp_M_completeIfDone_134 post x0 x1 M131))))))))) ∧ (¬ (40 : Int32) ≤ x1 → gR M x0 9 3 (fun a73 => gR M x0 9 1 (fun a78 => lZ M a78 x1 (fun a82 => sZ M a73 x1 a82 (fun M83 => gR M83 x0 9 4 (fun a85 => gR M83 x0 9 2 (fun a90 => lI M83 a90 x1 (fun a94 => sI M83 a85 x1 a94 (fun M95 => wp_M_completeIfDone_66 post n x0 (x1 + 1) M95)))))))))
set_option maxRecDepth 100000 in
set_option maxHeartbeats 4000000 in
theorem sd_M_completeIfDone_66 (X : Cx p s m args meth c b_M_completeIfDone 2 R_M TBL D dA B zE) (hr : meth.sig.returnType = none) (hin : meth.name = y_M_completeIfDone.name) {post : wM → Prop} : ∀ (n : Nat) (x0 : Option Ro) (x1 : Int32) (M : wM), wp_M_completeIfDone_66 post n x0 x1 M → AW p l e (headSpec w_M_completeIfDone rm_M_completeIfDone).room s m args below meth c (MQ below (QV D dA B zE M0 ad0 post) args s 0 0 (wA B)) D dA B zE 2 ad0 M0 M 0 0 66 [(0, vR x0), (1, vI x1)] [] := by
  intro n
  induction n with
  | zero => intro x0 x1 M h; exact h.elim
  | succ n ih =>
    intro x0 x1 M h
    unfold wp_M_completeIfDone_66 at h
    refine aw_iload_n X 1 rfl d_M_completeIfDone_66 rfl ?_
    refine aw_bipush X (40) (by decide) d_M_completeIfDone_67 ?_
    refine aw_icmp_ge (tgt := 102) X d_M_completeIfDone_69 (by decide) (fun c => ?_) (fun c => ?_)
    · have h := h.1 c
      refine aw_aload_n X 0 rfl d_M_completeIfDone_102 rfl ?_
      refine aw_aload_n X 0 rfl d_M_completeIfDone_103 rfl ?_
      refine aw_gI X hc_9 in_9 25 (by decide) LK_500 (fun _ _ _ _ h => h) d_M_completeIfDone_104 (h.mono (fun a104 h => ?_))
      refine aw_pF (ty := .int) X hc_9 in_9 24 (by decide) ty_9 tyok_9 nm_9 LK_466 (fun _ _ _ _ h => h) rfl (by decide +kernel) (fun _ => ⟨rfl, rfl⟩) d_M_completeIfDone_107 (h.mono (fun M107 h => ?_))
      refine aw_aload_n X 0 rfl d_M_completeIfDone_110 rfl ?_
      refine aw_iconst X (0) (by decide) d_M_completeIfDone_111 ?_
      refine aw_pF (ty := .int) X hc_9 in_9 25 (by decide) ty_9 tyok_9 nm_9 LK_500 (fun _ _ _ _ h => h) rfl (by decide +kernel) (fun _ => ⟨rfl, rfl⟩) d_M_completeIfDone_112 (h.mono (fun M112 h => ?_))
      refine aw_aload_n X 0 rfl d_M_completeIfDone_115 rfl ?_
      refine aw_gI X hc_9 in_9 23 (by decide) LK_495 (fun _ _ _ _ h => h) d_M_completeIfDone_116 (h.mono (fun a116 h => ?_))
      refine aw_aload_n X 0 rfl d_M_completeIfDone_119 rfl ?_
      refine aw_gI X hc_9 in_9 24 (by decide) LK_466 (fun _ _ _ _ h => h) d_M_completeIfDone_120 (h.mono (fun a120 h => ?_))
      refine aw_icmp_ge (tgt := 134) X d_M_completeIfDone_123 (by decide) (fun c => ?_) (fun c => ?_)
      · have h := h.1 c
        exact sd_M_completeIfDone_134 X hr hin h
      · have h := h.2 c
        refine aw_aload_n X 0 rfl d_M_completeIfDone_126 rfl ?_
        refine aw_aload_n X 0 rfl d_M_completeIfDone_127 rfl ?_
        refine aw_gI X hc_9 in_9 24 (by decide) LK_466 (fun _ _ _ _ h => h) d_M_completeIfDone_128 (h.mono (fun a128 h => ?_))
        refine aw_pF (ty := .int) X hc_9 in_9 23 (by decide) ty_9 tyok_9 nm_9 LK_495 (fun _ _ _ _ h => h) rfl (by decide +kernel) (fun _ => ⟨rfl, rfl⟩) d_M_completeIfDone_131 (h.mono (fun M131 h => ?_))
        exact sd_M_completeIfDone_134 X hr hin h
    · have h := h.2 c
      refine aw_aload_n X 0 rfl d_M_completeIfDone_72 rfl ?_
      refine aw_gR X hc_9 in_9 3 (by decide) LK_435 (fun _ _ _ _ h => h) d_M_completeIfDone_73 (h.mono (fun a73 h => ?_))
      refine aw_iload_n X 1 rfl d_M_completeIfDone_76 rfl ?_
      refine aw_aload_n X 0 rfl d_M_completeIfDone_77 rfl ?_
      refine aw_gR X hc_9 in_9 1 (by decide) LK_433 (fun _ _ _ _ h => h) d_M_completeIfDone_78 (h.mono (fun a78 h => ?_))
      refine aw_iload_n X 1 rfl d_M_completeIfDone_81 rfl ?_
      refine aw_lZ X d_M_completeIfDone_82 (h.mono (fun a82 h => ?_))
      refine aw_sZ X d_M_completeIfDone_83 (h.mono (fun M83 h => ?_))
      refine aw_aload_n X 0 rfl d_M_completeIfDone_84 rfl ?_
      refine aw_gR X hc_9 in_9 4 (by decide) LK_436 (fun _ _ _ _ h => h) d_M_completeIfDone_85 (h.mono (fun a85 h => ?_))
      refine aw_iload_n X 1 rfl d_M_completeIfDone_88 rfl ?_
      refine aw_aload_n X 0 rfl d_M_completeIfDone_89 rfl ?_
      refine aw_gR X hc_9 in_9 2 (by decide) LK_434 (fun _ _ _ _ h => h) d_M_completeIfDone_90 (h.mono (fun a90 h => ?_))
      refine aw_iload_n X 1 rfl d_M_completeIfDone_93 rfl ?_
      refine aw_lI X d_M_completeIfDone_94 (h.mono (fun a94 h => ?_))
      refine aw_sI X d_M_completeIfDone_95 (h.mono (fun M95 h => ?_))
      refine aw_iinc (y := x1 + 1) (lvn := [(1, _), (0, _)]) X 1 rfl d_M_completeIfDone_96 rfl (by decide) rfl ?_
      refine aw_goto (tgt := 66) X d_M_completeIfDone_99 (by decide) ?_
      refine aw_lv [1, 0] rfl ?_
      exact ih _ _ _ h
def wp_M_completeIfDone_30 (post : wM → Prop) : Nat → Option Ro → Int32 → wM → Prop
  | 0, _, _, _ => False
  | n + 1, x0, x1, M => gI M x0 9 0 (fun a32 => (a32 ≤ x1 → gI M x0 9 25 (fun a56 => cV M x0 9 (wp_M_replay (fun M61 => (∃ n, wp_M_completeIfDone_66 post n x0 0 M61)) x0 (a56 - 1) M))) ∧ (¬ a32 ≤ x1 → gR M x0 9 26 (fun a39 => lI M a39 x1 (fun a43 => (a43 ≤ 0 → wp_M_completeIfDone_30 post n x0 (x1 + 1) M) ∧ (¬ a43 ≤ 0 → post M)))))
set_option maxRecDepth 100000 in
set_option maxHeartbeats 4000000 in
theorem sd_M_completeIfDone_30 (X : Cx p s m args meth c b_M_completeIfDone 2 R_M TBL D dA B zE) (hr : meth.sig.returnType = none) (hin : meth.name = y_M_completeIfDone.name) {post : wM → Prop} : ∀ (n : Nat) (x0 : Option Ro) (x1 : Int32) (M : wM), wp_M_completeIfDone_30 post n x0 x1 M → AW p l e (headSpec w_M_completeIfDone rm_M_completeIfDone).room s m args below meth c (MQ below (QV D dA B zE M0 ad0 post) args s 0 0 (wA B)) D dA B zE 2 ad0 M0 M 0 0 30 [(0, vR x0), (1, vI x1)] [] := by
  intro n
  induction n with
  | zero => intro x0 x1 M h; exact h.elim
  | succ n ih =>
    intro x0 x1 M h
    unfold wp_M_completeIfDone_30 at h
    refine aw_iload_n X 1 rfl d_M_completeIfDone_30 rfl ?_
    refine aw_aload_n X 0 rfl d_M_completeIfDone_31 rfl ?_
    refine aw_gI X hc_9 in_9 0 (by decide) LK_430 (fun _ _ _ _ h => h) d_M_completeIfDone_32 (h.mono (fun a32 h => ?_))
    refine aw_icmp_ge (tgt := 54) X d_M_completeIfDone_35 (by decide) (fun c => ?_) (fun c => ?_)
    · have h := h.1 c
      refine aw_aload_n X 0 rfl d_M_completeIfDone_54 rfl ?_
      refine aw_aload_n X 0 rfl d_M_completeIfDone_55 rfl ?_
      refine aw_gI X hc_9 in_9 25 (by decide) LK_500 (fun _ _ _ _ h => h) d_M_completeIfDone_56 (h.mono (fun a56 h => ?_))
      refine aw_iconst X (1) (by decide) d_M_completeIfDone_59 ?_
      refine aw_isub X d_M_completeIfDone_60 ?_
      obtain ⟨⟨r61, f61, e61, g61⟩, h⟩ := h
      cases e61
      refine aw_cVv X [_] (fun ad hlv => t_M_replay l hlv h) (cwV 1 X.hts (gd_V LK_501 LK_502 LK_503 LK_463 LK_code_M_replay) rfl rfl rfl (by decide +kernel) ⟨(Nat.le_of_ble_eq_true rfl), (Nat.le_of_ble_eq_true rfl)⟩) ⟨9, f61, _, g61, hc_9, rfl⟩ rfl rfl (Nat.le_of_ble_eq_true rfl) d_M_completeIfDone_61 ⟨(Nat.le_of_ble_eq_true rfl), (Nat.le_of_ble_eq_true rfl)⟩ (fun M61 h => ?_)
      refine aw_iconst X (0) (by decide) d_M_completeIfDone_64 ?_
      refine aw_istore_n (lvn := [(1, _), (0, _)]) X d_M_completeIfDone_65 rfl (by decide) rfl ?_
      refine aw_lv [1, 0] rfl ?_
      obtain ⟨n, h⟩ := h
      exact sd_M_completeIfDone_66 X hr hin n _ _ _ h
    · have h := h.2 c
      refine aw_aload_n X 0 rfl d_M_completeIfDone_38 rfl ?_
      refine aw_gR X hc_9 in_9 26 (by decide) LK_454 (fun _ _ _ _ h => h) d_M_completeIfDone_39 (h.mono (fun a39 h => ?_))
      refine aw_iload_n X 1 rfl d_M_completeIfDone_42 rfl ?_
      refine aw_lI X d_M_completeIfDone_43 (h.mono (fun a43 h => ?_))
      refine aw_if_le (tgt := 48) X d_M_completeIfDone_44 (by decide) (fun c => ?_) (fun c => ?_)
      · have h := h.1 c
        refine aw_iinc (y := x1 + 1) (lvn := [(1, _), (0, _)]) X 1 rfl d_M_completeIfDone_48 rfl (by decide) rfl ?_
        refine aw_goto (tgt := 30) X d_M_completeIfDone_51 (by decide) ?_
        refine aw_lv [1, 0] rfl ?_
        exact ih _ _ _ h
      · have h := h.2 c
        exact aw_vret X hr (Nat.le_of_ble_eq_true rfl) (Nat.le_of_ble_eq_true rfl) d_M_completeIfDone_47 h
def wp_M_completeIfDone_27 (post : wM → Prop) (x0 : Option Ro) (M : wM) : Prop := post M
set_option maxRecDepth 100000 in
set_option maxHeartbeats 4000000 in
theorem sd_M_completeIfDone_27 (X : Cx p s m args meth c b_M_completeIfDone 2 R_M TBL D dA B zE) (hr : meth.sig.returnType = none) (hin : meth.name = y_M_completeIfDone.name) {post : wM → Prop} {x0 : Option Ro} {M : wM} (h : wp_M_completeIfDone_27 post x0 M) : AW p l e (headSpec w_M_completeIfDone rm_M_completeIfDone).room s m args below meth c (MQ below (QV D dA B zE M0 ad0 post) args s 0 0 (wA B)) D dA B zE 2 ad0 M0 M 0 0 27 [(0, vR x0)] [] := by
  unfold wp_M_completeIfDone_27 at h
  exact aw_vret X hr (Nat.le_of_ble_eq_true rfl) (Nat.le_of_ble_eq_true rfl) d_M_completeIfDone_27 h
def wp_M_completeIfDone (post : wM → Prop) (x0 : Option Ro) (M : wM) : Prop := gI M x0 9 25 (fun a1 => (a1 = 0 → wp_M_completeIfDone_27 post x0 M) ∧ (¬ a1 = 0 → gR M x0 9 19 (fun a8 => gI M x0 9 25 (fun a12 => lI M a8 a12 (fun a15 => gI M x0 9 0 (fun a18 => (a15 = ((1 <<< (a18 &&& 31)) - 1) → (∃ n, wp_M_completeIfDone_30 post n x0 0 M)) ∧ (¬ a15 = ((1 <<< (a18 &&& 31)) - 1) → wp_M_completeIfDone_27 post x0 M)))))))
set_option maxRecDepth 100000 in
set_option maxHeartbeats 4000000 in
theorem sd_M_completeIfDone_0 (X : Cx p s m args meth c b_M_completeIfDone 2 R_M TBL D dA B zE) (hr : meth.sig.returnType = none) (hin : meth.name = y_M_completeIfDone.name) {post : wM → Prop} {x0 : Option Ro} {M : wM} (h : wp_M_completeIfDone post x0 M) : AW p l e (headSpec w_M_completeIfDone rm_M_completeIfDone).room s m args below meth c (MQ below (QV D dA B zE M0 ad0 post) args s 0 0 (wA B)) D dA B zE 2 ad0 M0 M 0 0 0 [(0, vR x0)] [] := by
  unfold wp_M_completeIfDone at h
  refine aw_aload_n X 0 rfl d_M_completeIfDone_0 rfl ?_
  refine aw_gI X hc_9 in_9 25 (by decide) LK_500 (fun _ _ _ _ h => h) d_M_completeIfDone_1 (h.mono (fun a1 h => ?_))
  refine aw_if_eq (tgt := 27) X d_M_completeIfDone_4 (by decide) (fun c => ?_) (fun c => ?_)
  · have h := h.1 c
    exact sd_M_completeIfDone_27 X hr hin h
  · have h := h.2 c
    refine aw_aload_n X 0 rfl d_M_completeIfDone_7 rfl ?_
    refine aw_gR X hc_9 in_9 19 (by decide) LK_450 (fun _ _ _ _ h => h) d_M_completeIfDone_8 (h.mono (fun a8 h => ?_))
    refine aw_aload_n X 0 rfl d_M_completeIfDone_11 rfl ?_
    refine aw_gI X hc_9 in_9 25 (by decide) LK_500 (fun _ _ _ _ h => h) d_M_completeIfDone_12 (h.mono (fun a12 h => ?_))
    refine aw_lI X d_M_completeIfDone_15 (h.mono (fun a15 h => ?_))
    refine aw_iconst X (1) (by decide) d_M_completeIfDone_16 ?_
    refine aw_aload_n X 0 rfl d_M_completeIfDone_17 rfl ?_
    refine aw_gI X hc_9 in_9 0 (by decide) LK_430 (fun _ _ _ _ h => h) d_M_completeIfDone_18 (h.mono (fun a18 h => ?_))
    refine aw_ishl X d_M_completeIfDone_21 ?_
    refine aw_iconst X (1) (by decide) d_M_completeIfDone_22 ?_
    refine aw_isub X d_M_completeIfDone_23 ?_
    refine aw_icmp_eq (tgt := 28) X d_M_completeIfDone_24 (by decide) (fun c => ?_) (fun c => ?_)
    · have h := h.1 c
      refine aw_iconst X (0) (by decide) d_M_completeIfDone_28 ?_
      refine aw_istore_n (lvn := [(1, _), (0, _)]) X d_M_completeIfDone_29 rfl (by decide) rfl ?_
      refine aw_lv [1, 0] rfl ?_
      obtain ⟨n, h⟩ := h
      exact sd_M_completeIfDone_30 X hr hin n _ _ _ h
    · have h := h.2 c
      exact sd_M_completeIfDone_27 X hr hin h
end
theorem t_M_completeIfDone (l : Launch) {D : va_G} {dA : Nat → ClassId} {B : Nat} {zE : ZT} {M : wM} {ad : Ro → Nat} {post : wM → Prop} {x0 : Option Ro} (hlv : lvS M [vR x0]) (h : wp_M_completeIfDone post x0 M) : Met l y_M_completeIfDone w_M_completeIfDone rm_M_completeIfDone (PA D dA B zE M ad [vR x0]) (QV D dA B zE M ad post) 0 0 (wA B) :=
  AW_start [vR x0] [(0, vR x0)] hlv (by decide +kernel) rfl (fun _ hw => List.mem_cons_of_mem _ hw) rfl (Nat.le_of_ble_eq_true rfl) (fun p e s m args below meth c X hr hin => sd_M_completeIfDone_0 X hr hin h)
