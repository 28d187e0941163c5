abbrev rm_M_outside : Room := { frames := 0, cells := 0, slots := 0, locals := 0 }
section
variable {p : Program} {l : Launch} {e : Env} {s : State} {m : MethodId} {args : Array Value} {below : List Frame} {meth : Method} {c : Code} {D : va_G} {dA : Nat → ClassId} {B : Nat} {zE : ZT} {ad0 : Ro → Nat} {M0 : wM}
def wp_M_outside_14 (post : Int32 → wM → Prop) (x0 : Int32) (x1 : Int32) (s0 : Int32) (M : wM) : Prop := (s0 = 0 ∨ s0 = 1) ∧ post s0 M
set_option maxRecDepth 100000 in
set_option maxHeartbeats 4000000 in
theorem sd_M_outside_14 (X : Cx p s m args meth c b_M_outside 2 R_M TBL D dA B zE) (hr : meth.sig.returnType = (some .boolean)) (hin : meth.name = y_M_outside.name) {post : Int32 → wM → Prop} {x0 : Int32} {x1 : Int32} {s0 : Int32} {M : wM} (h : wp_M_outside_14 post x0 x1 s0 M) : AW p l e (headSpec w_M_outside rm_M_outside).room s m args below meth c (MQ below (QI D dA B zE M0 ad0 post) args s 0 0 (wA B)) D dA B zE 2 ad0 M0 M 0 0 14 [(0, vI x0), (1, vI x1)] [vI s0] := by
  unfold wp_M_outside_14 at h
  exact aw_zret X hr h.1 (Nat.le_of_ble_eq_true rfl) (Nat.le_of_ble_eq_true rfl) d_M_outside_14 h.2
def wp_M_outside_9 (post : Int32 → wM → Prop) (x0 : Int32) (x1 : Int32) (M : wM) : Prop := wp_M_outside_14 post x0 x1 1 M
set_option maxRecDepth 100000 in
set_option maxHeartbeats 4000000 in
theorem sd_M_outside_9 (X : Cx p s m args meth c b_M_outside 2 R_M TBL D dA B zE) (hr : meth.sig.returnType = (some .boolean)) (hin : meth.name = y_M_outside.name) {post : Int32 → wM → Prop} {x0 : Int32} {x1 : Int32} {M : wM} (h : wp_M_outside_9 post x0 x1 M) : AW p l e (headSpec w_M_outside rm_M_outside).room s m args below meth c (MQ below (QI D dA B zE M0 ad0 post) args s 0 0 (wA B)) D dA B zE 2 ad0 M0 M 0 0 9 [(0, vI x0), (1, vI x1)] [] := by
  unfold wp_M_outside_9 at h
  refine aw_iconst X (1) (by decide) d_M_outside_9 ?_
  refine aw_goto (tgt := 14) X d_M_outside_10 (by decide) ?_
  exact sd_M_outside_14 X hr hin h
def wp_M_outside (post : Int32 → wM → Prop) (x0 : Int32) (x1 : Int32) (M : wM) : Prop := (x0 < 0 → wp_M_outside_9 post x0 x1 M) ∧ (¬ x0 < 0 → (x0 < x1 → wp_M_outside_14 post x0 x1 0 M) ∧ (¬ x0 < x1 → wp_M_outside_9 post x0 x1 M))
set_option maxRecDepth 100000 in
set_option maxHeartbeats 4000000 in
theorem sd_M_outside_0 (X : Cx p s m args meth c b_M_outside 2 R_M TBL D dA B zE) (hr : meth.sig.returnType = (some .boolean)) (hin : meth.name = y_M_outside.name) {post : Int32 → wM → Prop} {x0 : Int32} {x1 : Int32} {M : wM} (h : wp_M_outside post x0 x1 M) : AW p l e (headSpec w_M_outside rm_M_outside).room s m args below meth c (MQ below (QI D dA B zE M0 ad0 post) args s 0 0 (wA B)) D dA B zE 2 ad0 M0 M 0 0 0 [(0, vI x0), (1, vI x1)] [] := by
  unfold wp_M_outside at h
  refine aw_iload_n X 0 rfl d_M_outside_0 rfl ?_
  refine aw_if_lt (tgt := 9) X d_M_outside_1 (by decide) (fun c => ?_) (fun c => ?_)
  · have h := h.1 c
    exact sd_M_outside_9 X hr hin h
  · have h := h.2 c
    refine aw_iload_n X 0 rfl d_M_outside_4 rfl ?_
    refine aw_iload_n X 1 rfl d_M_outside_5 rfl ?_
    refine aw_icmp_lt (tgt := 13) X d_M_outside_6 (by decide) (fun c => ?_) (fun c => ?_)
    · have h := h.1 c
      refine aw_iconst X (0) (by decide) d_M_outside_13 ?_
      exact sd_M_outside_14 X hr hin h
    · have h := h.2 c
      exact sd_M_outside_9 X hr hin h
end
theorem t_M_outside (l : Launch) {D : va_G} {dA : Nat → ClassId} {B : Nat} {zE : ZT} {M : wM} {ad : Ro → Nat} {post : Int32 → wM → Prop} {x0 : Int32} {x1 : Int32} (hlv : lvS M [vI x0, vI x1]) (h : wp_M_outside post x0 x1 M) : Met l y_M_outside w_M_outside rm_M_outside (PA D dA B zE M ad [vI x0, vI x1]) (QI D dA B zE M ad post) 0 0 (wA B) :=
  AW_start [vI x0, vI x1] [(0, vI x0), (1, vI x1)] hlv (by decide +kernel) rfl (fun _ hw => List.mem_cons_of_mem _ hw) rfl (Nat.le_of_ble_eq_true rfl) (fun p e s m args below meth c X hr hin => sd_M_outside_0 X hr hin h)
abbrev rm_M_open : Room := { frames := 1, cells := 0, slots := 0, locals := 21 }
section
variable {p : Program} {l : Launch} {e : Env} {s : State} {m : MethodId} {args : Array Value} {below : List Frame} {meth : Method} {c : Code} {D : va_G} {dA : Nat → ClassId} {B : Nat} {zE : ZT} {ad0 : Ro → Nat} {M0 : wM}
def wp_M_open_18 (post : Int32 → wM → Prop) (x0 : Option Ro) (x1 : Int32) (x2 : Int32) (M : wM) : Prop := post (-1) M
set_option maxRecDepth 100000 in
set_option maxHeartbeats 4000000 in
theorem sd_M_open_18 (X : Cx p s m args meth c b_M_open 3 R_M TBL D dA B zE) (hr : meth.sig.returnType = (some .int)) (hin : meth.name = y_M_open.name) {post : Int32 → wM → Prop} {x0 : Option Ro} {x1 : Int32} {x2 : Int32} {M : wM} (h : wp_M_open_18 post x0 x1 x2 M) : AW p l e (headSpec w_M_open rm_M_open).room s m args below meth c (MQ below (QI D dA B zE M0 ad0 post) args s 0 0 (wA B)) D dA B zE 3 ad0 M0 M 0 0 18 [(0, vR x0), (1, vI x1), (2, vI x2)] [] := by
  unfold wp_M_open_18 at h
  refine aw_iconst X (-1) (by decide) d_M_open_18 ?_
  exact aw_iret X hr (Nat.le_of_ble_eq_true rfl) (Nat.le_of_ble_eq_true rfl) d_M_open_19 h
def wp_M_open (post : Int32 → wM → Prop) (x0 : Option Ro) (x1 : Int32) (x2 : Int32) (M : wM) : Prop := wp_M_outside (fun a3 M3 => (¬ a3 = 0 → wp_M_open_18 post x0 x1 x2 M3) ∧ (a3 = 0 → gR M3 x0 9 7 (fun a10 => lZ M3 a10 x1 (fun a14 => (a14 = 0 → pF M3 x0 9 14 (vI x1) (fun M22 => gR M22 x0 9 8 (fun a26 => sZ M22 a26 6 x2 (fun M32 => gR M32 x0 9 9 (fun a34 => sI M32 a34 6 0 (fun M40 => post 0 M40)))))) ∧ (¬ a14 = 0 → wp_M_open_18 post x0 x1 x2 M3))))) x1 6 M
set_option maxRecDepth 100000 in
set_option maxHeartbeats 4000000 in
theorem sd_M_open_0 (X : Cx p s m args meth c b_M_open 3 R_M TBL D dA B zE) (hr : meth.sig.returnType = (some .int)) (hin : meth.name = y_M_open.name) {post : Int32 → wM → Prop} {x0 : Option Ro} {x1 : Int32} {x2 : Int32} {M : wM} (h : wp_M_open post x0 x1 x2 M) : AW p l e (headSpec w_M_open rm_M_open).room s m args below meth c (MQ below (QI D dA B zE M0 ad0 post) args s 0 0 (wA B)) D dA B zE 3 ad0 M0 M 0 0 0 [(0, vR x0), (1, vI x1), (2, vI x2)] [] := by
  unfold wp_M_open at h
  refine aw_iload_n X 1 rfl d_M_open_0 rfl ?_
  refine aw_bipush X (6) (by decide) d_M_open_1 ?_
  refine aw_cSi X [_, _] (fun ad hlv => t_M_outside l hlv h) (cwS 2 X.hts (gd_S LK_461 LK_462 LK_463 LK_code_M_outside) rfl rfl rfl (by decide +kernel) ⟨(Nat.le_of_ble_eq_true rfl), (Nat.le_of_ble_eq_true rfl)⟩) rfl rfl (Nat.le_of_ble_eq_true rfl) d_M_open_3 ⟨(Nat.le_of_ble_eq_true rfl), (Nat.le_of_ble_eq_true rfl)⟩ (fun a3 M3 h => ?_)
  refine aw_if_ne (tgt := 18) X d_M_open_6 (by decide) (fun c => ?_) (fun c => ?_)
  · have h := h.1 c
    exact sd_M_open_18 X hr hin h
  · have h := h.2 c
    refine aw_aload_n X 0 rfl d_M_open_9 rfl ?_
    refine aw_gR X hc_9 in_9 7 (by decide) LK_439 (fun _ _ _ _ h => h) d_M_open_10 (h.mono (fun a10 h => ?_))
    refine aw_iload_n X 1 rfl d_M_open_13 rfl ?_
    refine aw_lZ X d_M_open_14 (h.mono (fun a14 h => ?_))
    refine aw_if_eq (tgt := 20) X d_M_open_15 (by decide) (fun c => ?_) (fun c => ?_)
    · have h := h.1 c
      refine aw_aload_n X 0 rfl d_M_open_20 rfl ?_
      refine aw_iload_n X 1 rfl d_M_open_21 rfl ?_
      refine aw_pF (ty := .int) X hc_9 in_9 14 (by decide) ty_9 tyok_9 nm_9 LK_446 (fun _ _ _ _ h => h) rfl (by decide +kernel) (fun _ => ⟨rfl, rfl⟩) d_M_open_22 (h.mono (fun M22 h => ?_))
      refine aw_aload_n X 0 rfl d_M_open_25 rfl ?_
      refine aw_gR X hc_9 in_9 8 (by decide) LK_440 (fun _ _ _ _ h => h) d_M_open_26 (h.mono (fun a26 h => ?_))
      refine aw_bipush X (6) (by decide) d_M_open_29 ?_
      refine aw_iload_n X 2 rfl d_M_open_31 rfl ?_
      refine aw_sZ X d_M_open_32 (h.mono (fun M32 h => ?_))
      refine aw_aload_n X 0 rfl d_M_open_33 rfl ?_
      refine aw_gR X hc_9 in_9 9 (by decide) LK_441 (fun _ _ _ _ h => h) d_M_open_34 (h.mono (fun a34 h => ?_))
      refine aw_bipush X (6) (by decide) d_M_open_37 ?_
      refine aw_iconst X (0) (by decide) d_M_open_39 ?_
      refine aw_sI X d_M_open_40 (h.mono (fun M40 h => ?_))
      refine aw_iconst X (0) (by decide) d_M_open_41 ?_
      exact aw_iret X hr (Nat.le_of_ble_eq_true rfl) (Nat.le_of_ble_eq_true rfl) d_M_open_42 h
    · have h := h.2 c
      exact sd_M_open_18 X hr hin h
end
theorem t_M_open (l : Launch) {D : va_G} {dA : Nat → ClassId} {B : Nat} {zE : ZT} {M : wM} {ad : Ro → Nat} {post : Int32 → wM → Prop} {x0 : Option Ro} {x1 : Int32} {x2 : Int32} (hlv : lvS M [vR x0, vI x1, vI x2]) (h : wp_M_open post x0 x1 x2 M) : Met l y_M_open w_M_open rm_M_open (PA D dA B zE M ad [vR x0, vI x1, vI x2]) (QI D dA B zE M ad post) 0 0 (wA B) :=
  AW_start [vR x0, vI x1, vI x2] [(0, vR x0), (1, vI x1), (2, vI x2)] hlv (by decide +kernel) rfl (fun _ hw => List.mem_cons_of_mem _ hw) rfl (Nat.le_of_ble_eq_true rfl) (fun p e s m args below meth c X hr hin => sd_M_open_0 X hr hin h)
abbrev rm_M_add : Room := { frames := 1, cells := 0, slots := 0, locals := 21 }
section
variable {p : Program} {l : Launch} {e : Env} {s : State} {m : MethodId} {args : Array Value} {below : List Frame} {meth : Method} {c : Code} {D : va_G} {dA : Nat → ClassId} {B : Nat} {zE : ZT} {ad0 : Ro → Nat} {M0 : wM}
def wp_M_add_104 (post : Int32 → wM → Prop) (x0 : Option Ro) (x1 : Int32) (x2 : Int32) (x3 : Int32) (x4 : Int32) (x5 : Int32) (M : wM) : Prop := gR M x0 9 9 (fun a105 => lI M a105 6 (fun a110 => (¬ a110 = (8 : Int32) → gR M x0 9 10 (fun a124 => sI M a124 (48 + a110) x1 (fun M133 => gR M133 x0 9 11 (fun a135 => sI M133 a135 (48 + a110) x2 (fun M144 => gR M144 x0 9 12 (fun a146 => sI M144 a146 (48 + a110) x3 (fun M155 => gR M155 x0 9 13 (fun a157 => sI M155 a157 (48 + a110) x4 (fun M167 => gR M167 x0 9 9 (fun a169 => sI M167 a169 6 (a110 + 1) (fun M178 => post a110 M178))))))))))) ∧ (a110 = (8 : Int32) → post (-2) M)))
set_option maxRecDepth 100000 in
set_option maxHeartbeats 4000000 in
theorem sd_M_add_104 (X : Cx p s m args meth c b_M_add 7 R_M TBL D dA B zE) (hr : meth.sig.returnType = (some .int)) (hin : meth.name = y_M_add.name) {post : Int32 → wM → Prop} {x0 : Option Ro} {x1 : Int32} {x2 : Int32} {x3 : Int32} {x4 : Int32} {x5 : Int32} {M : wM} (h : wp_M_add_104 post x0 x1 x2 x3 x4 x5 M) : AW p l e (headSpec w_M_add rm_M_add).room s m args below meth c (MQ below (QI D dA B zE M0 ad0 post) args s 0 0 (wA B)) D dA B zE 7 ad0 M0 M 0 0 104 [(0, vR x0), (1, vI x1), (2, vI x2), (3, vI x3), (4, vI x4), (5, vI x5)] [] := by
  unfold wp_M_add_104 at h
  refine aw_aload_n X 0 rfl d_M_add_104 rfl ?_
  refine aw_gR X hc_9 in_9 9 (by decide) LK_441 (fun _ _ _ _ h => h) d_M_add_105 (h.mono (fun a105 h => ?_))
  refine aw_bipush X (6) (by decide) d_M_add_108 ?_
  refine aw_lI X d_M_add_110 (h.mono (fun a110 h => ?_))
  refine aw_istore (lvn := [(6, _), (0, _), (1, _), (2, _), (3, _), (4, _), (5, _)]) X d_M_add_111 (by decide) rfl ?_
  refine aw_iload X 0 rfl d_M_add_113 ?_
  refine aw_bipush X (8) (by decide) d_M_add_115 ?_
  refine aw_icmp_ne (tgt := 123) X d_M_add_117 (by decide) (fun c => ?_) (fun c => ?_)
  · have h := h.1 c
    refine aw_aload_n X 1 rfl d_M_add_123 rfl ?_
    refine aw_gR X hc_9 in_9 10 (by decide) LK_442 (fun _ _ _ _ h => h) d_M_add_124 (h.mono (fun a124 h => ?_))
    refine aw_bipush X (48) (by decide) d_M_add_127 ?_
    refine aw_iload X 0 rfl d_M_add_129 ?_
    refine aw_iadd X d_M_add_131 ?_
    refine aw_iload_n X 2 rfl d_M_add_132 rfl ?_
    refine aw_sI X d_M_add_133 (h.mono (fun M133 h => ?_))
    refine aw_aload_n X 1 rfl d_M_add_134 rfl ?_
    refine aw_gR X hc_9 in_9 11 (by decide) LK_443 (fun _ _ _ _ h => h) d_M_add_135 (h.mono (fun a135 h => ?_))
    refine aw_bipush X (48) (by decide) d_M_add_138 ?_
    refine aw_iload X 0 rfl d_M_add_140 ?_
    refine aw_iadd X d_M_add_142 ?_
    refine aw_iload_n X 3 rfl d_M_add_143 rfl ?_
    refine aw_sI X d_M_add_144 (h.mono (fun M144 h => ?_))
    refine aw_aload_n X 1 rfl d_M_add_145 rfl ?_
    refine aw_gR X hc_9 in_9 12 (by decide) LK_444 (fun _ _ _ _ h => h) d_M_add_146 (h.mono (fun a146 h => ?_))
    refine aw_bipush X (48) (by decide) d_M_add_149 ?_
    refine aw_iload X 0 rfl d_M_add_151 ?_
    refine aw_iadd X d_M_add_153 ?_
    refine aw_iload_n X 4 rfl d_M_add_154 rfl ?_
    refine aw_sI X d_M_add_155 (h.mono (fun M155 h => ?_))
    refine aw_aload_n X 1 rfl d_M_add_156 rfl ?_
    refine aw_gR X hc_9 in_9 13 (by decide) LK_445 (fun _ _ _ _ h => h) d_M_add_157 (h.mono (fun a157 h => ?_))
    refine aw_bipush X (48) (by decide) d_M_add_160 ?_
    refine aw_iload X 0 rfl d_M_add_162 ?_
    refine aw_iadd X d_M_add_164 ?_
    refine aw_iload X 5 rfl d_M_add_165 ?_
    refine aw_sI X d_M_add_167 (h.mono (fun M167 h => ?_))
    refine aw_aload_n X 1 rfl d_M_add_168 rfl ?_
    refine aw_gR X hc_9 in_9 9 (by decide) LK_441 (fun _ _ _ _ h => h) d_M_add_169 (h.mono (fun a169 h => ?_))
    refine aw_bipush X (6) (by decide) d_M_add_172 ?_
    refine aw_iload X 0 rfl d_M_add_174 ?_
    refine aw_iconst X (1) (by decide) d_M_add_176 ?_
    refine aw_iadd X d_M_add_177 ?_
    refine aw_sI X d_M_add_178 (h.mono (fun M178 h => ?_))
    refine aw_iload X 0 rfl d_M_add_179 ?_
    exact aw_iret X hr (Nat.le_of_ble_eq_true rfl) (Nat.le_of_ble_eq_true rfl) d_M_add_181 h
  · have h := h.2 c
    refine aw_bipush X (-2) (by decide) d_M_add_120 ?_
    exact aw_iret X hr (Nat.le_of_ble_eq_true rfl) (Nat.le_of_ble_eq_true rfl) d_M_add_122 h
def wp_M_add_102 (post : Int32 → wM → Prop) (x0 : Option Ro) (x1 : Int32) (x2 : Int32) (x3 : Int32) (x4 : Int32) (x5 : Int32) (M : wM) : Prop := post (-1) M
set_option maxRecDepth 100000 in
set_option maxHeartbeats 4000000 in
theorem sd_M_add_102 (X : Cx p s m args meth c b_M_add 7 R_M TBL D dA B zE) (hr : meth.sig.returnType = (some .int)) (hin : meth.name = y_M_add.name) {post : Int32 → wM → Prop} {x0 : Option Ro} {x1 : Int32} {x2 : Int32} {x3 : Int32} {x4 : Int32} {x5 : Int32} {M : wM} (h : wp_M_add_102 post x0 x1 x2 x3 x4 x5 M) : AW p l e (headSpec w_M_add rm_M_add).room s m args below meth c (MQ below (QI D dA B zE M0 ad0 post) args s 0 0 (wA B)) D dA B zE 7 ad0 M0 M 0 0 102 [(0, vR x0), (1, vI x1), (2, vI x2), (3, vI x3), (4, vI x4), (5, vI x5)] [] := by
  unfold wp_M_add_102 at h
  refine aw_iconst X (-1) (by decide) d_M_add_102 ?_
  exact aw_iret X hr (Nat.le_of_ble_eq_true rfl) (Nat.le_of_ble_eq_true rfl) d_M_add_103 h
def wp_M_add_85 (post : Int32 → wM → Prop) (x0 : Option Ro) (x1 : Int32) (x2 : Int32) (x3 : Int32) (x4 : Int32) (x5 : Int32) (M : wM) : Prop := (¬ x1 = (7 : Int32) → wp_M_add_104 post x0 x1 x2 x3 x4 x5 M) ∧ (x1 = (7 : Int32) → (x3 < (1 : Int32) → wp_M_add_102 post x0 x1 x2 x3 x4 x5 M) ∧ (¬ x3 < (1 : Int32) → (x3 ≤ (7 : Int32) → wp_M_add_104 post x0 x1 x2 x3 x4 x5 M) ∧ (¬ x3 ≤ (7 : Int32) → wp_M_add_102 post x0 x1 x2 x3 x4 x5 M)))
set_option maxRecDepth 100000 in
set_option maxHeartbeats 4000000 in
theorem sd_M_add_85 (X : Cx p s m args meth c b_M_add 7 R_M TBL D dA B zE) (hr : meth.sig.returnType = (some .int)) (hin : meth.name = y_M_add.name) {post : Int32 → wM → Prop} {x0 : Option Ro} {x1 : Int32} {x2 : Int32} {x3 : Int32} {x4 : Int32} {x5 : Int32} {M : wM} (h : wp_M_add_85 post x0 x1 x2 x3 x4 x5 M) : AW p l e (headSpec w_M_add rm_M_add).room s m args below meth c (MQ below (QI D dA B zE M0 ad0 post) args s 0 0 (wA B)) D dA B zE 7 ad0 M0 M 0 0 85 [(0, vR x0), (1, vI x1), (2, vI x2), (3, vI x3), (4, vI x4), (5, vI x5)] [] := by
  unfold wp_M_add_85 at h
  refine aw_iload_n X 1 rfl d_M_add_85 rfl ?_
  refine aw_bipush X (7) (by decide) d_M_add_86 ?_
  refine aw_icmp_ne (tgt := 104) X d_M_add_88 (by decide) (fun c => ?_) (fun c => ?_)
  · have h := h.1 c
    exact sd_M_add_104 X hr hin h
  · have h := h.2 c
    refine aw_iload_n X 3 rfl d_M_add_91 rfl ?_
    refine aw_iconst X (1) (by decide) d_M_add_92 ?_
    refine aw_icmp_lt (tgt := 102) X d_M_add_93 (by decide) (fun c => ?_) (fun c => ?_)
    · have h := h.1 c
      exact sd_M_add_102 X hr hin h
    · have h := h.2 c
      refine aw_iload_n X 3 rfl d_M_add_96 rfl ?_
      refine aw_bipush X (7) (by decide) d_M_add_97 ?_
      refine aw_icmp_le (tgt := 104) X d_M_add_99 (by decide) (fun c => ?_) (fun c => ?_)
      · have h := h.1 c
        exact sd_M_add_104 X hr hin h
      · have h := h.2 c
        exact sd_M_add_102 X hr hin h
def wp_M_add_70 (post : Int32 → wM → Prop) (x0 : Option Ro) (x1 : Int32) (x2 : Int32) (x3 : Int32) (x4 : Int32) (x5 : Int32) (M : wM) : Prop := (¬ x1 = (4 : Int32) → wp_M_add_85 post x0 x1 x2 x3 x4 x5 M) ∧ (x1 = (4 : Int32) → wp_M_outside (fun a79 M79 => (¬ a79 = 0 → wp_M_add_102 post x0 x1 x2 x3 x4 x5 M79) ∧ (a79 = 0 → wp_M_add_85 post x0 x1 x2 x3 x4 x5 M79)) x4 6 M)
set_option maxRecDepth 100000 in
set_option maxHeartbeats 4000000 in
theorem sd_M_add_70 (X : Cx p s m args meth c b_M_add 7 R_M TBL D dA B zE) (hr : meth.sig.returnType = (some .int)) (hin : meth.name = y_M_add.name) {post : Int32 → wM → Prop} {x0 : Option Ro} {x1 : Int32} {x2 : Int32} {x3 : Int32} {x4 : Int32} {x5 : Int32} {M : wM} (h : wp_M_add_70 post x0 x1 x2 x3 x4 x5 M) : AW p l e (headSpec w_M_add rm_M_add).room s m args below meth c (MQ below (QI D dA B zE M0 ad0 post) args s 0 0 (wA B)) D dA B zE 7 ad0 M0 M 0 0 70 [(0, vR x0), (1, vI x1), (2, vI x2), (3, vI x3), (4, vI x4), (5, vI x5)] [] := by
  unfold wp_M_add_70 at h
  refine aw_iload_n X 1 rfl d_M_add_70 rfl ?_
  refine aw_iconst X (4) (by decide) d_M_add_71 ?_
  refine aw_icmp_ne (tgt := 85) X d_M_add_72 (by decide) (fun c => ?_) (fun c => ?_)
  · have h := h.1 c
    exact sd_M_add_85 X hr hin h
  · have h := h.2 c
    refine aw_iload X 4 rfl d_M_add_75 ?_
    refine aw_bipush X (6) (by decide) d_M_add_77 ?_
    refine aw_cSi X [_, _] (fun ad hlv => t_M_outside l hlv h) (cwS 2 X.hts (gd_S LK_461 LK_462 LK_463 LK_code_M_outside) rfl rfl rfl (by decide +kernel) ⟨(Nat.le_of_ble_eq_true rfl), (Nat.le_of_ble_eq_true rfl)⟩) rfl rfl (Nat.le_of_ble_eq_true rfl) d_M_add_79 ⟨(Nat.le_of_ble_eq_true rfl), (Nat.le_of_ble_eq_true rfl)⟩ (fun a79 M79 h => ?_)
    refine aw_if_ne (tgt := 102) X d_M_add_82 (by decide) (fun c => ?_) (fun c => ?_)
    · have h := h.1 c
      exact sd_M_add_102 X hr hin h
    · have h := h.2 c
      exact sd_M_add_85 X hr hin h
def wp_M_add_54 (post : Int32 → wM → Prop) (x0 : Option Ro) (x1 : Int32) (x2 : Int32) (x3 : Int32) (x4 : Int32) (s0 : Int32) (M : wM) : Prop := (s0 = 0 → wp_M_add_70 post x0 x1 x2 x3 x4 s0 M) ∧ (¬ s0 = 0 → wp_M_outside (fun a64 M64 => (¬ a64 = 0 → wp_M_add_102 post x0 x1 x2 x3 x4 s0 M64) ∧ (a64 = 0 → wp_M_add_70 post x0 x1 x2 x3 x4 s0 M64)) x3 6 M)
set_option maxRecDepth 100000 in
set_option maxHeartbeats 4000000 in
theorem sd_M_add_54 (X : Cx p s m args meth c b_M_add 7 R_M TBL D dA B zE) (hr : meth.sig.returnType = (some .int)) (hin : meth.name = y_M_add.name) {post : Int32 → wM → Prop} {x0 : Option Ro} {x1 : Int32} {x2 : Int32} {x3 : Int32} {x4 : Int32} {s0 : Int32} {M : wM} (h : wp_M_add_54 post x0 x1 x2 x3 x4 s0 M) : AW p l e (headSpec w_M_add rm_M_add).room s m args below meth c (MQ below (QI D dA B zE M0 ad0 post) args s 0 0 (wA B)) D dA B zE 7 ad0 M0 M 0 0 54 [(0, vR x0), (1, vI x1), (2, vI x2), (3, vI x3), (4, vI x4)] [vI s0] := by
  unfold wp_M_add_54 at h
  refine aw_istore (lvn := [(5, _), (0, _), (1, _), (2, _), (3, _), (4, _)]) X d_M_add_54 (by decide) rfl ?_
  refine aw_iload X 0 rfl d_M_add_56 ?_
  refine aw_if_eq (tgt := 70) X d_M_add_58 (by decide) (fun c => ?_) (fun c => ?_)
  · have h := h.1 c
    refine aw_lv [1, 2, 3, 4, 5, 0] rfl ?_
    exact sd_M_add_70 X hr hin h
  · have h := h.2 c
    refine aw_iload_n X 4 rfl d_M_add_61 rfl ?_
    refine aw_bipush X (6) (by decide) d_M_add_62 ?_
    refine aw_cSi X [_, _] (fun ad hlv => t_M_outside l hlv h) (cwS 2 X.hts (gd_S LK_461 LK_462 LK_463 LK_code_M_outside) rfl rfl rfl (by decide +kernel) ⟨(Nat.le_of_ble_eq_true rfl), (Nat.le_of_ble_eq_true rfl)⟩) rfl rfl (Nat.le_of_ble_eq_true rfl) d_M_add_64 ⟨(Nat.le_of_ble_eq_true rfl), (Nat.le_of_ble_eq_true rfl)⟩ (fun a64 M64 h => ?_)
    refine aw_if_ne (tgt := 102) X d_M_add_67 (by decide) (fun c => ?_) (fun c => ?_)
    · have h := h.1 c
      refine aw_lv [1, 2, 3, 4, 5, 0] rfl ?_
      exact sd_M_add_102 X hr hin h
    · have h := h.2 c
      refine aw_lv [1, 2, 3, 4, 5, 0] rfl ?_
      exact sd_M_add_70 X hr hin h
def wp_M_add_53 (post : Int32 → wM → Prop) (x0 : Option Ro) (x1 : Int32) (x2 : Int32) (x3 : Int32) (x4 : Int32) (M : wM) : Prop := wp_M_add_54 post x0 x1 x2 x3 x4 0 M
set_option maxRecDepth 100000 in
set_option maxHeartbeats 4000000 in
theorem sd_M_add_53 (X : Cx p s m args meth c b_M_add 7 R_M TBL D dA B zE) (hr : meth.sig.returnType = (some .int)) (hin : meth.name = y_M_add.name) {post : Int32 → wM → Prop} {x0 : Option Ro} {x1 : Int32} {x2 : Int32} {x3 : Int32} {x4 : Int32} {M : wM} (h : wp_M_add_53 post x0 x1 x2 x3 x4 M) : AW p l e (headSpec w_M_add rm_M_add).room s m args below meth c (MQ below (QI D dA B zE M0 ad0 post) args s 0 0 (wA B)) D dA B zE 7 ad0 M0 M 0 0 53 [(0, vR x0), (1, vI x1), (2, vI x2), (3, vI x3), (4, vI x4)] [] := by
  unfold wp_M_add_53 at h
  refine aw_iconst X (0) (by decide) d_M_add_53 ?_
  exact sd_M_add_54 X hr hin h
def wp_M_add_25 (post : Int32 → wM → Prop) (x0 : Option Ro) (x1 : Int32) (x2 : Int32) (x3 : Int32) (x4 : Int32) (M : wM) : Prop := post (-1) M
set_option maxRecDepth 100000 in
set_option maxHeartbeats 4000000 in
theorem sd_M_add_25 (X : Cx p s m args meth c b_M_add 7 R_M TBL D dA B zE) (hr : meth.sig.returnType = (some .int)) (hin : meth.name = y_M_add.name) {post : Int32 → wM → Prop} {x0 : Option Ro} {x1 : Int32} {x2 : Int32} {x3 : Int32} {x4 : Int32} {M : wM} (h : wp_M_add_25 post x0 x1 x2 x3 x4 M) : AW p l e (headSpec w_M_add rm_M_add).room s m args below meth c (MQ below (QI D dA B zE M0 ad0 post) args s 0 0 (wA B)) D dA B zE 7 ad0 M0 M 0 0 25 [(0, vR x0), (1, vI x1), (2, vI x2), (3, vI x3), (4, vI x4)] [] := by
  unfold wp_M_add_25 at h
  refine aw_iconst X (-1) (by decide) d_M_add_25 ?_
  exact aw_iret X hr (Nat.le_of_ble_eq_true rfl) (Nat.le_of_ble_eq_true rfl) d_M_add_26 h
def wp_M_add (post : Int32 → wM → Prop) (x0 : Option Ro) (x1 : Int32) (x2 : Int32) (x3 : Int32) (x4 : Int32) (M : wM) : Prop := gI M x0 9 14 (fun a1 => (a1 < 0 → wp_M_add_25 post x0 x1 x2 x3 x4 M) ∧ (¬ a1 < 0 → wp_M_outside (fun a10 M10 => (¬ a10 = 0 → wp_M_add_25 post x0 x1 x2 x3 x4 M10) ∧ (a10 = 0 → wp_M_outside (fun a19 M19 => (a19 = 0 → (x1 = (3 : Int32) → wp_M_add_53 post x0 x1 x2 x3 x4 M19) ∧ (¬ x1 = (3 : Int32) → (x1 = (5 : Int32) → wp_M_add_53 post x0 x1 x2 x3 x4 M19) ∧ (¬ x1 = (5 : Int32) → (x1 = (7 : Int32) → wp_M_add_53 post x0 x1 x2 x3 x4 M19) ∧ (¬ x1 = (7 : Int32) → (x1 = (10 : Int32) → wp_M_add_53 post x0 x1 x2 x3 x4 M19) ∧ (¬ x1 = (10 : Int32) → wp_M_add_54 post x0 x1 x2 x3 x4 1 M19))))) ∧ (¬ a19 = 0 → wp_M_add_25 post x0 x1 x2 x3 x4 M19)) x2 6 M10)) x1 11 M))
set_option maxRecDepth 100000 in
set_option maxHeartbeats 4000000 in
theorem sd_M_add_0 (X : Cx p s m args meth c b_M_add 7 R_M TBL D dA B zE) (hr : meth.sig.returnType = (some .int)) (hin : meth.name = y_M_add.name) {post : Int32 → wM → Prop} {x0 : Option Ro} {x1 : Int32} {x2 : Int32} {x3 : Int32} {x4 : Int32} {M : wM} (h : wp_M_add post x0 x1 x2 x3 x4 M) : AW p l e (headSpec w_M_add rm_M_add).room s m args below meth c (MQ below (QI D dA B zE M0 ad0 post) args s 0 0 (wA B)) D dA B zE 7 ad0 M0 M 0 0 0 [(0, vR x0), (1, vI x1), (2, vI x2), (3, vI x3), (4, vI x4)] [] := by
  unfold wp_M_add at h
  refine aw_aload_n X 0 rfl d_M_add_0 rfl ?_
  refine aw_gI X hc_9 in_9 14 (by decide) LK_446 (fun _ _ _ _ h => h) d_M_add_1 (h.mono (fun a1 h => ?_))
  refine aw_if_lt (tgt := 25) X d_M_add_4 (by decide) (fun c => ?_) (fun c => ?_)
  · have h := h.1 c
    exact sd_M_add_25 X hr hin h
  · have h := h.2 c
    refine aw_iload_n X 1 rfl d_M_add_7 rfl ?_
    refine aw_bipush X (11) (by decide) d_M_add_8 ?_
    refine aw_cSi X [_, _] (fun ad hlv => t_M_outside l hlv h) (cwS 2 X.hts (gd_S LK_461 LK_462 LK_463 LK_code_M_outside) rfl rfl rfl (by decide +kernel) ⟨(Nat.le_of_ble_eq_true rfl), (Nat.le_of_ble_eq_true rfl)⟩) rfl rfl (Nat.le_of_ble_eq_true rfl) d_M_add_10 ⟨(Nat.le_of_ble_eq_true rfl), (Nat.le_of_ble_eq_true rfl)⟩ (fun a10 M10 h => ?_)
    refine aw_if_ne (tgt := 25) X d_M_add_13 (by decide) (fun c => ?_) (fun c => ?_)
    · have h := h.1 c
      exact sd_M_add_25 X hr hin h
    · have h := h.2 c
      refine aw_iload_n X 2 rfl d_M_add_16 rfl ?_
      refine aw_bipush X (6) (by decide) d_M_add_17 ?_
      refine aw_cSi X [_, _] (fun ad hlv => t_M_outside l hlv h) (cwS 2 X.hts (gd_S LK_461 LK_462 LK_463 LK_code_M_outside) rfl rfl rfl (by decide +kernel) ⟨(Nat.le_of_ble_eq_true rfl), (Nat.le_of_ble_eq_true rfl)⟩) rfl rfl (Nat.le_of_ble_eq_true rfl) d_M_add_19 ⟨(Nat.le_of_ble_eq_true rfl), (Nat.le_of_ble_eq_true rfl)⟩ (fun a19 M19 h => ?_)
      refine aw_if_eq (tgt := 27) X d_M_add_22 (by decide) (fun c => ?_) (fun c => ?_)
      · have h := h.1 c
        refine aw_iload_n X 1 rfl d_M_add_27 rfl ?_
        refine aw_iconst X (3) (by decide) d_M_add_28 ?_
        refine aw_icmp_eq (tgt := 53) X d_M_add_29 (by decide) (fun c => ?_) (fun c => ?_)
        · have h := h.1 c
          exact sd_M_add_53 X hr hin h
        · have h := h.2 c
          refine aw_iload_n X 1 rfl d_M_add_32 rfl ?_
          refine aw_iconst X (5) (by decide) d_M_add_33 ?_
          refine aw_icmp_eq (tgt := 53) X d_M_add_34 (by decide) (fun c => ?_) (fun c => ?_)
          · have h := h.1 c
            exact sd_M_add_53 X hr hin h
          · have h := h.2 c
            refine aw_iload_n X 1 rfl d_M_add_37 rfl ?_
            refine aw_bipush X (7) (by decide) d_M_add_38 ?_
            refine aw_icmp_eq (tgt := 53) X d_M_add_40 (by decide) (fun c => ?_) (fun c => ?_)
            · have h := h.1 c
              exact sd_M_add_53 X hr hin h
            · have h := h.2 c
              refine aw_iload_n X 1 rfl d_M_add_43 rfl ?_
              refine aw_bipush X (10) (by decide) d_M_add_44 ?_
              refine aw_icmp_eq (tgt := 53) X d_M_add_46 (by decide) (fun c => ?_) (fun c => ?_)
              · have h := h.1 c
                exact sd_M_add_53 X hr hin h
              · have h := h.2 c
                refine aw_iconst X (1) (by decide) d_M_add_49 ?_
                refine aw_goto (tgt := 54) X d_M_add_50 (by decide) ?_
                exact sd_M_add_54 X hr hin h
      · have h := h.2 c
        exact sd_M_add_25 X hr hin h
end
theorem t_M_add (l : Launch) {D : va_G} {dA : Nat → ClassId} {B : Nat} {zE : ZT} {M : wM} {ad : Ro → Nat} {post : Int32 → wM → Prop} {x0 : Option Ro} {x1 : Int32} {x2 : Int32} {x3 : Int32} {x4 : Int32} (hlv : lvS M [vR x0, vI x1, vI x2, vI x3, vI x4]) (h : wp_M_add post x0 x1 x2 x3 x4 M) : Met l y_M_add w_M_add rm_M_add (PA D dA B zE M ad [vR x0, vI x1, vI x2, vI x3, vI x4]) (QI D dA B zE M ad post) 0 0 (wA B) :=
  AW_start [vR x0, vI x1, vI x2, vI x3, vI x4] [(0, vR x0), (1, vI x1), (2, vI x2), (3, vI x3), (4, vI x4)] hlv (by decide +kernel) rfl (fun _ hw => List.mem_cons_of_mem _ hw) rfl (Nat.le_of_ble_eq_true rfl) (fun p e s m args below meth c X hr hin => sd_M_add_0 X hr hin h)
abbrev rm_M_deploy : Room := { frames := 0, cells := 0, slots := 0, locals := 0 }
section
variable {p : Program} {l : Launch} {e : Env} {s : State} {m : MethodId} {args : Array Value} {below : List Frame} {meth : Method} {c : Code} {D : va_G} {dA : Nat → ClassId} {B : Nat} {zE : ZT} {ad0 : Ro → Nat} {M0 : wM}
def wp_M_deploy_125 (post : Int32 → wM → Prop) : Nat → Option Ro → Int32 → Int32 → Int32 → Int32 → wM → Prop
  | 0, _, _, _, _, _, _ => False
  | n + 1, x0, x1, x2, x3, x4, M => (x2 ≤ x4 → gR M x0 9 9 (fun a226 => sI M a226 x1 x2 (fun M231 => gR M231 x0 9 8 (fun a233 => gR M231 x0 9 8 (fun a238 => lZ M231 a238 6 (fun a243 => sZ M231 a233 x1 a243 (fun M244 => gR M244 x0 9 7 (fun a246 => sZ M244 a246 x1 1 (fun M251 => post 0 M251))))))))) ∧ (¬ x2 ≤ x4 → gR M x0 9 10 (fun a132 => gR M x0 9 10 (fun a143 => lI M a143 (48 + x4) (fun a151 => sI M a132 ((8 * x1) + x4) a151 (fun M152 => gR M152 x0 9 11 (fun a154 => gR M152 x0 9 11 (fun a165 => lI M152 a165 (48 + x4) (fun a173 => sI M152 a154 ((8 * x1) + x4) a173 (fun M174 => gR M174 x0 9 12 (fun a176 => gR M174 x0 9 12 (fun a187 => lI M174 a187 (48 + x4) (fun a195 => sI M174 a176 ((8 * x1) + x4) a195 (fun M196 => gR M196 x0 9 13 (fun a198 => gR M196 x0 9 13 (fun a209 => lI M196 a209 (48 + x4) (fun a217 => sI M196 a198 ((8 * x1) + x4) a217 (fun M218 => wp_M_deploy_125 post n x0 x1 x2 x3 (x4 + 1) M218)))))))))))))))))
set_option maxRecDepth 100000 in
set_option maxHeartbeats 4000000 in
theorem sd_M_deploy_125 (X : Cx p s m args meth c b_M_deploy 5 R_M TBL D dA B zE) (hr : meth.sig.returnType = (some .int)) (hin : meth.name = y_M_deploy.name) {post : Int32 → wM → Prop} : ∀ (n : Nat) (x0 : Option Ro) (x1 : Int32) (x2 : Int32) (x3 : Int32) (x4 : Int32) (M : wM), wp_M_deploy_125 post n x0 x1 x2 x3 x4 M → AW p l e (headSpec w_M_deploy rm_M_deploy).room s m args below meth c (MQ below (QI D dA B zE M0 ad0 post) args s 0 0 (wA B)) D dA B zE 5 ad0 M0 M 0 0 125 [(0, vR x0), (1, vI x1), (2, vI x2), (3, vI x3), (4, vI x4)] [] := by
  intro n
  induction n with
  | zero => intro x0 x1 x2 x3 x4 M h; exact h.elim
  | succ n ih =>
    intro x0 x1 x2 x3 x4 M h
    unfold wp_M_deploy_125 at h
    refine aw_iload X 4 rfl d_M_deploy_125 ?_
    refine aw_iload_n X 2 rfl d_M_deploy_127 rfl ?_
    refine aw_icmp_ge (tgt := 225) X d_M_deploy_128 (by decide) (fun c => ?_) (fun c => ?_)
    · have h := h.1 c
      refine aw_aload_n X 0 rfl d_M_deploy_225 rfl ?_
      refine aw_gR X hc_9 in_9 9 (by decide) LK_441 (fun _ _ _ _ h => h) d_M_deploy_226 (h.mono (fun a226 h => ?_))
      refine aw_iload_n X 1 rfl d_M_deploy_229 rfl ?_
      refine aw_iload_n X 2 rfl d_M_deploy_230 rfl ?_
      refine aw_sI X d_M_deploy_231 (h.mono (fun M231 h => ?_))
      refine aw_aload_n X 0 rfl d_M_deploy_232 rfl ?_
      refine aw_gR X hc_9 in_9 8 (by decide) LK_440 (fun _ _ _ _ h => h) d_M_deploy_233 (h.mono (fun a233 h => ?_))
      refine aw_iload_n X 1 rfl d_M_deploy_236 rfl ?_
      refine aw_aload_n X 0 rfl d_M_deploy_237 rfl ?_
      refine aw_gR X hc_9 in_9 8 (by decide) LK_440 (fun _ _ _ _ h => h) d_M_deploy_238 (h.mono (fun a238 h => ?_))
      refine aw_bipush X (6) (by decide) d_M_deploy_241 ?_
      refine aw_lZ X d_M_deploy_243 (h.mono (fun a243 h => ?_))
      refine aw_sZ X d_M_deploy_244 (h.mono (fun M244 h => ?_))
      refine aw_aload_n X 0 rfl d_M_deploy_245 rfl ?_
      refine aw_gR X hc_9 in_9 7 (by decide) LK_439 (fun _ _ _ _ h => h) d_M_deploy_246 (h.mono (fun a246 h => ?_))
      refine aw_iload_n X 1 rfl d_M_deploy_249 rfl ?_
      refine aw_iconst X (1) (by decide) d_M_deploy_250 ?_
      refine aw_sZ X d_M_deploy_251 (h.mono (fun M251 h => ?_))
      refine aw_iconst X (0) (by decide) d_M_deploy_252 ?_
      exact aw_iret X hr (Nat.le_of_ble_eq_true rfl) (Nat.le_of_ble_eq_true rfl) d_M_deploy_253 h
    · have h := h.2 c
      refine aw_aload_n X 0 rfl d_M_deploy_131 rfl ?_
      refine aw_gR X hc_9 in_9 10 (by decide) LK_442 (fun _ _ _ _ h => h) d_M_deploy_132 (h.mono (fun a132 h => ?_))
      refine aw_bipush X (8) (by decide) d_M_deploy_135 ?_
      refine aw_iload_n X 1 rfl d_M_deploy_137 rfl ?_
      refine aw_imul X d_M_deploy_138 ?_
      refine aw_iload X 4 rfl d_M_deploy_139 ?_
      refine aw_iadd X d_M_deploy_141 ?_
      refine aw_aload_n X 0 rfl d_M_deploy_142 rfl ?_
      refine aw_gR X hc_9 in_9 10 (by decide) LK_442 (fun _ _ _ _ h => h) d_M_deploy_143 (h.mono (fun a143 h => ?_))
      refine aw_bipush X (48) (by decide) d_M_deploy_146 ?_
      refine aw_iload X 4 rfl d_M_deploy_148 ?_
      refine aw_iadd X d_M_deploy_150 ?_
      refine aw_lI X d_M_deploy_151 (h.mono (fun a151 h => ?_))
      refine aw_sI X d_M_deploy_152 (h.mono (fun M152 h => ?_))
      refine aw_aload_n X 0 rfl d_M_deploy_153 rfl ?_
      refine aw_gR X hc_9 in_9 11 (by decide) LK_443 (fun _ _ _ _ h => h) d_M_deploy_154 (h.mono (fun a154 h => ?_))
      refine aw_bipush X (8) (by decide) d_M_deploy_157 ?_
      refine aw_iload_n X 1 rfl d_M_deploy_159 rfl ?_
      refine aw_imul X d_M_deploy_160 ?_
      refine aw_iload X 4 rfl d_M_deploy_161 ?_
      refine aw_iadd X d_M_deploy_163 ?_
      refine aw_aload_n X 0 rfl d_M_deploy_164 rfl ?_
      refine aw_gR X hc_9 in_9 11 (by decide) LK_443 (fun _ _ _ _ h => h) d_M_deploy_165 (h.mono (fun a165 h => ?_))
      refine aw_bipush X (48) (by decide) d_M_deploy_168 ?_
      refine aw_iload X 4 rfl d_M_deploy_170 ?_
      refine aw_iadd X d_M_deploy_172 ?_
      refine aw_lI X d_M_deploy_173 (h.mono (fun a173 h => ?_))
      refine aw_sI X d_M_deploy_174 (h.mono (fun M174 h => ?_))
      refine aw_aload_n X 0 rfl d_M_deploy_175 rfl ?_
      refine aw_gR X hc_9 in_9 12 (by decide) LK_444 (fun _ _ _ _ h => h) d_M_deploy_176 (h.mono (fun a176 h => ?_))
      refine aw_bipush X (8) (by decide) d_M_deploy_179 ?_
      refine aw_iload_n X 1 rfl d_M_deploy_181 rfl ?_
      refine aw_imul X d_M_deploy_182 ?_
      refine aw_iload X 4 rfl d_M_deploy_183 ?_
      refine aw_iadd X d_M_deploy_185 ?_
      refine aw_aload_n X 0 rfl d_M_deploy_186 rfl ?_
      refine aw_gR X hc_9 in_9 12 (by decide) LK_444 (fun _ _ _ _ h => h) d_M_deploy_187 (h.mono (fun a187 h => ?_))
      refine aw_bipush X (48) (by decide) d_M_deploy_190 ?_
      refine aw_iload X 4 rfl d_M_deploy_192 ?_
      refine aw_iadd X d_M_deploy_194 ?_
      refine aw_lI X d_M_deploy_195 (h.mono (fun a195 h => ?_))
      refine aw_sI X d_M_deploy_196 (h.mono (fun M196 h => ?_))
      refine aw_aload_n X 0 rfl d_M_deploy_197 rfl ?_
      refine aw_gR X hc_9 in_9 13 (by decide) LK_445 (fun _ _ _ _ h => h) d_M_deploy_198 (h.mono (fun a198 h => ?_))
      refine aw_bipush X (8) (by decide) d_M_deploy_201 ?_
      refine aw_iload_n X 1 rfl d_M_deploy_203 rfl ?_
      refine aw_imul X d_M_deploy_204 ?_
      refine aw_iload X 4 rfl d_M_deploy_205 ?_
      refine aw_iadd X d_M_deploy_207 ?_
      refine aw_aload_n X 0 rfl d_M_deploy_208 rfl ?_
      refine aw_gR X hc_9 in_9 13 (by decide) LK_445 (fun _ _ _ _ h => h) d_M_deploy_209 (h.mono (fun a209 h => ?_))
      refine aw_bipush X (48) (by decide) d_M_deploy_212 ?_
      refine aw_iload X 4 rfl d_M_deploy_214 ?_
      refine aw_iadd X d_M_deploy_216 ?_
      refine aw_lI X d_M_deploy_217 (h.mono (fun a217 h => ?_))
      refine aw_sI X d_M_deploy_218 (h.mono (fun M218 h => ?_))
      refine aw_iinc (y := x4 + 1) (lvn := [(4, _), (0, _), (1, _), (2, _), (3, _)]) X 4 rfl d_M_deploy_219 rfl (by decide) rfl ?_
      refine aw_goto (tgt := 125) X d_M_deploy_222 (by decide) ?_
      refine aw_lv [1, 2, 3, 4, 0] rfl ?_
      exact ih _ _ _ _ _ _ h
def wp_M_deploy_109 (post : Int32 → wM → Prop) (k40 : Option Ro → Int32 → Int32 → Int32 → Int32 → wM → Prop) (x0 : Option Ro) (x1 : Int32) (x2 : Int32) (x3 : Int32) (x4 : Int32) (M : wM) : Prop := k40 x0 x1 x2 x3 (x4 + 1) M
set_option maxRecDepth 100000 in
set_option maxHeartbeats 4000000 in
theorem sd_M_deploy_109 (X : Cx p s m args meth c b_M_deploy 5 R_M TBL D dA B zE) (hr : meth.sig.returnType = (some .int)) (hin : meth.name = y_M_deploy.name) {post : Int32 → wM → Prop} {k40 : Option Ro → Int32 → Int32 → Int32 → Int32 → wM → Prop} (hk40 : ∀ (x0 : Option Ro) (x1 : Int32) (x2 : Int32) (x3 : Int32) (x4 : Int32) (M : wM), k40 x0 x1 x2 x3 x4 M → AW p l e (headSpec w_M_deploy rm_M_deploy).room s m args below meth c (MQ below (QI D dA B zE M0 ad0 post) args s 0 0 (wA B)) D dA B zE 5 ad0 M0 M 0 0 40 [(0, vR x0), (1, vI x1), (2, vI x2), (3, vI x3), (4, vI x4)] []) {x0 : Option Ro} {x1 : Int32} {x2 : Int32} {x3 : Int32} {x4 : Int32} {M : wM} (h : wp_M_deploy_109 post k40 x0 x1 x2 x3 x4 M) : AW p l e (headSpec w_M_deploy rm_M_deploy).room s m args below meth c (MQ below (QI D dA B zE M0 ad0 post) args s 0 0 (wA B)) D dA B zE 5 ad0 M0 M 0 0 109 [(0, vR x0), (1, vI x1), (2, vI x2), (3, vI x3), (4, vI x4)] [] := by
  unfold wp_M_deploy_109 at h
  refine aw_iinc (y := x4 + 1) (lvn := [(4, _), (0, _), (1, _), (2, _), (3, _)]) X 4 rfl d_M_deploy_109 rfl (by decide) rfl ?_
  refine aw_goto (tgt := 40) X d_M_deploy_112 (by decide) ?_
  refine aw_lv [1, 2, 3, 4, 0] rfl ?_
  exact hk40 _ _ _ _ _ _ h
def wp_M_deploy_82 (post : Int32 → wM → Prop) (k40 : Option Ro → Int32 → Int32 → Int32 → Int32 → wM → Prop) (x0 : Option Ro) (x1 : Int32) (x2 : Int32) (x3 : Int32) (x4 : Int32) (M : wM) : Prop := gR M x0 9 10 (fun a83 => lI M a83 (48 + x4) (fun a91 => (¬ a91 = (9 : Int32) → wp_M_deploy_109 post k40 x0 x1 x2 x3 x4 M) ∧ (a91 = (9 : Int32) → gR M x0 9 8 (fun a98 => lZ M a98 6 (fun a103 => (¬ a103 = 0 → wp_M_deploy_109 post k40 x0 x1 x2 x3 x4 M) ∧ (a103 = 0 → wp_M_deploy_109 post k40 x0 x1 x2 1 x4 M))))))
set_option maxRecDepth 100000 in
set_option maxHeartbeats 4000000 in
theorem sd_M_deploy_82 (X : Cx p s m args meth c b_M_deploy 5 R_M TBL D dA B zE) (hr : meth.sig.returnType = (some .int)) (hin : meth.name = y_M_deploy.name) {post : Int32 → wM → Prop} {k40 : Option Ro → Int32 → Int32 → Int32 → Int32 → wM → Prop} (hk40 : ∀ (x0 : Option Ro) (x1 : Int32) (x2 : Int32) (x3 : Int32) (x4 : Int32) (M : wM), k40 x0 x1 x2 x3 x4 M → AW p l e (headSpec w_M_deploy rm_M_deploy).room s m args below meth c (MQ below (QI D dA B zE M0 ad0 post) args s 0 0 (wA B)) D dA B zE 5 ad0 M0 M 0 0 40 [(0, vR x0), (1, vI x1), (2, vI x2), (3, vI x3), (4, vI x4)] []) {x0 : Option Ro} {x1 : Int32} {x2 : Int32} {x3 : Int32} {x4 : Int32} {M : wM} (h : wp_M_deploy_82 post k40 x0 x1 x2 x3 x4 M) : AW p l e (headSpec w_M_deploy rm_M_deploy).room s m args below meth c (MQ below (QI D dA B zE M0 ad0 post) args s 0 0 (wA B)) D dA B zE 5 ad0 M0 M 0 0 82 [(0, vR x0), (1, vI x1), (2, vI x2), (3, vI x3), (4, vI x4)] [] := by
  unfold wp_M_deploy_82 at h
  refine aw_aload_n X 0 rfl d_M_deploy_82 rfl ?_
  refine aw_gR X hc_9 in_9 10 (by decide) LK_442 (fun _ _ _ _ h => h) d_M_deploy_83 (h.mono (fun a83 h => ?_))
  refine aw_bipush X (48) (by decide) d_M_deploy_86 ?_
  refine aw_iload X 4 rfl d_M_deploy_88 ?_
  refine aw_iadd X d_M_deploy_90 ?_
  refine aw_lI X d_M_deploy_91 (h.mono (fun a91 h => ?_))
  refine aw_bipush X (9) (by decide) d_M_deploy_92 ?_
  refine aw_icmp_ne (tgt := 109) X d_M_deploy_94 (by decide) (fun c => ?_) (fun c => ?_)
  · have h := h.1 c
    exact sd_M_deploy_109 X hr hin hk40 h
  · have h := h.2 c
    refine aw_aload_n X 0 rfl d_M_deploy_97 rfl ?_
    refine aw_gR X hc_9 in_9 8 (by decide) LK_440 (fun _ _ _ _ h => h) d_M_deploy_98 (h.mono (fun a98 h => ?_))
    refine aw_bipush X (6) (by decide) d_M_deploy_101 ?_
    refine aw_lZ X d_M_deploy_103 (h.mono (fun a103 h => ?_))
    refine aw_if_ne (tgt := 109) X d_M_deploy_104 (by decide) (fun c => ?_) (fun c => ?_)
    · have h := h.1 c
      exact sd_M_deploy_109 X hr hin hk40 h
    · have h := h.2 c
      refine aw_iconst X (1) (by decide) d_M_deploy_107 ?_
      refine aw_istore_n (lvn := [(3, _), (0, _), (1, _), (2, _), (4, _)]) X d_M_deploy_108 rfl (by decide) rfl ?_
      refine aw_lv [1, 2, 3, 0, 4] rfl ?_
      exact sd_M_deploy_109 X hr hin hk40 h
def wp_M_deploy_40 (post : Int32 → wM → Prop) : Nat → Option Ro → Int32 → Int32 → Int32 → Int32 → wM → Prop
  | 0, _, _, _, _, _, _ => False
  | n + 1, x0, x1, x2, x3, x4, M => (x2 ≤ x4 → (x3 = 0 → (∃ n, wp_M_deploy_125 post n x0 x1 x2 x3 0 M)) ∧ (¬ x3 = 0 → post (-3) M)) ∧ (¬ x2 ≤ x4 → gR M x0 9 10 (fun a47 => lI M a47 (48 + x4) (fun a55 => (¬ a55 = (7 : Int32) → wp_M_deploy_82 post (fun x0 x1 x2 x3 x4 M => wp_M_deploy_40 post n x0 x1 x2 x3 x4 M) x0 x1 x2 x3 x4 M) ∧ (a55 = (7 : Int32) → gR M x0 9 12 (fun a62 => lI M a62 (48 + x4) (fun a70 => (a70 ≤ ((x2 - 1) - x4) → wp_M_deploy_82 post (fun x0 x1 x2 x3 x4 M => wp_M_deploy_40 post n x0 x1 x2 x3 x4 M) x0 x1 x2 x3 x4 M) ∧ (¬ a70 ≤ ((x2 - 1) - x4) → wp_M_deploy_82 post (fun x0 x1 x2 x3 x4 M => wp_M_deploy_40 post n x0 x1 x2 x3 x4 M) x0 x1 x2 1 x4 M)))))))
set_option maxRecDepth 100000 in
set_option maxHeartbeats 4000000 in
theorem sd_M_deploy_40 (X : Cx p s m args meth c b_M_deploy 5 R_M TBL D dA B zE) (hr : meth.sig.returnType = (some .int)) (hin : meth.name = y_M_deploy.name) {post : Int32 → wM → Prop} : ∀ (n : Nat) (x0 : Option Ro) (x1 : Int32) (x2 : Int32) (x3 : Int32) (x4 : Int32) (M : wM), wp_M_deploy_40 post n x0 x1 x2 x3 x4 M → AW p l e (headSpec w_M_deploy rm_M_deploy).room s m args below meth c (MQ below (QI D dA B zE M0 ad0 post) args s 0 0 (wA B)) D dA B zE 5 ad0 M0 M 0 0 40 [(0, vR x0), (1, vI x1), (2, vI x2), (3, vI x3), (4, vI x4)] [] := by
  intro n
  induction n with
  | zero => intro x0 x1 x2 x3 x4 M h; exact h.elim
  | succ n ih =>
    intro x0 x1 x2 x3 x4 M h
    unfold wp_M_deploy_40 at h
    refine aw_iload X 4 rfl d_M_deploy_40 ?_
    refine aw_iload_n X 2 rfl d_M_deploy_42 rfl ?_
    refine aw_icmp_ge (tgt := 115) X d_M_deploy_43 (by decide) (fun c => ?_) (fun c => ?_)
    · have h := h.1 c
      refine aw_iload_n X 3 rfl d_M_deploy_115 rfl ?_
      refine aw_if_eq (tgt := 122) X d_M_deploy_116 (by decide) (fun c => ?_) (fun c => ?_)
      · have h := h.1 c
        refine aw_iconst X (0) (by decide) d_M_deploy_122 ?_
        refine aw_istore (lvn := [(4, _), (0, _), (1, _), (2, _), (3, _)]) X d_M_deploy_123 (by decide) rfl ?_
        refine aw_lv [1, 2, 3, 4, 0] rfl ?_
        obtain ⟨n, h⟩ := h
        exact sd_M_deploy_125 X hr hin n _ _ _ _ _ _ h
      · have h := h.2 c
        refine aw_bipush X (-3) (by decide) d_M_deploy_119 ?_
        exact aw_iret X hr (Nat.le_of_ble_eq_true rfl) (Nat.le_of_ble_eq_true rfl) d_M_deploy_121 h
    · have h := h.2 c
      refine aw_aload_n X 0 rfl d_M_deploy_46 rfl ?_
      refine aw_gR X hc_9 in_9 10 (by decide) LK_442 (fun _ _ _ _ h => h) d_M_deploy_47 (h.mono (fun a47 h => ?_))
      refine aw_bipush X (48) (by decide) d_M_deploy_50 ?_
      refine aw_iload X 4 rfl d_M_deploy_52 ?_
      refine aw_iadd X d_M_deploy_54 ?_
      refine aw_lI X d_M_deploy_55 (h.mono (fun a55 h => ?_))
      refine aw_bipush X (7) (by decide) d_M_deploy_56 ?_
      refine aw_icmp_ne (tgt := 82) X d_M_deploy_58 (by decide) (fun c => ?_) (fun c => ?_)
      · have h := h.1 c
        exact sd_M_deploy_82 X hr hin ih h
      · have h := h.2 c
        refine aw_aload_n X 0 rfl d_M_deploy_61 rfl ?_
        refine aw_gR X hc_9 in_9 12 (by decide) LK_444 (fun _ _ _ _ h => h) d_M_deploy_62 (h.mono (fun a62 h => ?_))
        refine aw_bipush X (48) (by decide) d_M_deploy_65 ?_
        refine aw_iload X 4 rfl d_M_deploy_67 ?_
        refine aw_iadd X d_M_deploy_69 ?_
        refine aw_lI X d_M_deploy_70 (h.mono (fun a70 h => ?_))
        refine aw_iload_n X 2 rfl d_M_deploy_71 rfl ?_
        refine aw_iconst X (1) (by decide) d_M_deploy_72 ?_
        refine aw_isub X d_M_deploy_73 ?_
        refine aw_iload X 4 rfl d_M_deploy_74 ?_
        refine aw_isub X d_M_deploy_76 ?_
        refine aw_icmp_le (tgt := 82) X d_M_deploy_77 (by decide) (fun c => ?_) (fun c => ?_)
        · have h := h.1 c
          exact sd_M_deploy_82 X hr hin ih h
        · have h := h.2 c
          refine aw_iconst X (1) (by decide) d_M_deploy_80 ?_
          refine aw_istore_n (lvn := [(3, _), (0, _), (1, _), (2, _), (4, _)]) X d_M_deploy_81 rfl (by decide) rfl ?_
          refine aw_lv [1, 2, 3, 0, 4] rfl ?_
          exact sd_M_deploy_82 X hr hin ih h
def wp_M_deploy_36 (post : Int32 → wM → Prop) (x0 : Option Ro) (x1 : Int32) (x2 : Int32) (s0 : Int32) (M : wM) : Prop := (∃ n, wp_M_deploy_40 post n x0 x1 x2 s0 0 M)
set_option maxRecDepth 100000 in
set_option maxHeartbeats 4000000 in
theorem sd_M_deploy_36 (X : Cx p s m args meth c b_M_deploy 5 R_M TBL D dA B zE) (hr : meth.sig.returnType = (some .int)) (hin : meth.name = y_M_deploy.name) {post : Int32 → wM → Prop} {x0 : Option Ro} {x1 : Int32} {x2 : Int32} {s0 : Int32} {M : wM} (h : wp_M_deploy_36 post x0 x1 x2 s0 M) : AW p l e (headSpec w_M_deploy rm_M_deploy).room s m args below meth c (MQ below (QI D dA B zE M0 ad0 post) args s 0 0 (wA B)) D dA B zE 5 ad0 M0 M 0 0 36 [(0, vR x0), (1, vI x1), (2, vI x2)] [vI s0] := by
  unfold wp_M_deploy_36 at h
  refine aw_istore_n (lvn := [(3, _), (0, _), (1, _), (2, _)]) X d_M_deploy_36 rfl (by decide) rfl ?_
  refine aw_iconst X (0) (by decide) d_M_deploy_37 ?_
  refine aw_istore (lvn := [(4, _), (3, _), (0, _), (1, _), (2, _)]) X d_M_deploy_38 (by decide) rfl ?_
  refine aw_lv [2, 3, 4, 1, 0] rfl ?_
  obtain ⟨n, h⟩ := h
  exact sd_M_deploy_40 X hr hin n _ _ _ _ _ _ h
def wp_M_deploy (post : Int32 → wM → Prop) (x0 : Option Ro) (M : wM) : Prop := gI M x0 9 14 (fun a1 => (0 ≤ a1 → gI M x0 9 14 (fun a10 => pF M x0 9 14 (vI (-1)) (fun M16 => gR M16 x0 9 9 (fun a20 => lI M16 a20 6 (fun a25 => (¬ a25 = 0 → wp_M_deploy_36 post x0 a10 a25 0 M16) ∧ (a25 = 0 → wp_M_deploy_36 post x0 a10 a25 1 M16)))))) ∧ (¬ 0 ≤ a1 → post (-1) M))
set_option maxRecDepth 100000 in
set_option maxHeartbeats 4000000 in
theorem sd_M_deploy_0 (X : Cx p s m args meth c b_M_deploy 5 R_M TBL D dA B zE) (hr : meth.sig.returnType = (some .int)) (hin : meth.name = y_M_deploy.name) {post : Int32 → wM → Prop} {x0 : Option Ro} {M : wM} (h : wp_M_deploy post x0 M) : AW p l e (headSpec w_M_deploy rm_M_deploy).room s m args below meth c (MQ below (QI D dA B zE M0 ad0 post) args s 0 0 (wA B)) D dA B zE 5 ad0 M0 M 0 0 0 [(0, vR x0)] [] := by
  unfold wp_M_deploy at h
  refine aw_aload_n X 0 rfl d_M_deploy_0 rfl ?_
  refine aw_gI X hc_9 in_9 14 (by decide) LK_446 (fun _ _ _ _ h => h) d_M_deploy_1 (h.mono (fun a1 h => ?_))
  refine aw_if_ge (tgt := 9) X d_M_deploy_4 (by decide) (fun c => ?_) (fun c => ?_)
  · have h := h.1 c
    refine aw_aload_n X 0 rfl d_M_deploy_9 rfl ?_
    refine aw_gI X hc_9 in_9 14 (by decide) LK_446 (fun _ _ _ _ h => h) d_M_deploy_10 (h.mono (fun a10 h => ?_))
    refine aw_istore_n (lvn := [(1, _), (0, _)]) X d_M_deploy_13 rfl (by decide) rfl ?_
    refine aw_aload_n X 1 rfl d_M_deploy_14 rfl ?_
    refine aw_iconst X (-1) (by decide) d_M_deploy_15 ?_
    refine aw_pF (ty := .int) X hc_9 in_9 14 (by decide) ty_9 tyok_9 nm_9 LK_446 (fun _ _ _ _ h => h) rfl (by decide +kernel) (fun _ => ⟨rfl, rfl⟩) d_M_deploy_16 (h.mono (fun M16 h => ?_))
    refine aw_aload_n X 1 rfl d_M_deploy_19 rfl ?_
    refine aw_gR X hc_9 in_9 9 (by decide) LK_441 (fun _ _ _ _ h => h) d_M_deploy_20 (h.mono (fun a20 h => ?_))
    refine aw_bipush X (6) (by decide) d_M_deploy_23 ?_
    refine aw_lI X d_M_deploy_25 (h.mono (fun a25 h => ?_))
    refine aw_istore_n (lvn := [(2, _), (1, _), (0, _)]) X d_M_deploy_26 rfl (by decide) rfl ?_
    refine aw_iload_n X 0 rfl d_M_deploy_27 rfl ?_
    refine aw_if_ne (tgt := 35) X d_M_deploy_28 (by decide) (fun c => ?_) (fun c => ?_)
    · have h := h.1 c
      refine aw_iconst X (0) (by decide) d_M_deploy_35 ?_
      refine aw_lv [2, 1, 0] rfl ?_
      exact sd_M_deploy_36 X hr hin h
    · have h := h.2 c
      refine aw_iconst X (1) (by decide) d_M_deploy_31 ?_
      refine aw_goto (tgt := 36) X d_M_deploy_32 (by decide) ?_
      refine aw_lv [2, 1, 0] rfl ?_
      exact sd_M_deploy_36 X hr hin h
  · have h := h.2 c
    refine aw_iconst X (-1) (by decide) d_M_deploy_7 ?_
    exact aw_iret X hr (Nat.le_of_ble_eq_true rfl) (Nat.le_of_ble_eq_true rfl) d_M_deploy_8 h
end
theorem t_M_deploy (l : Launch) {D : va_G} {dA : Nat → ClassId} {B : Nat} {zE : ZT} {M : wM} {ad : Ro → Nat} {post : Int32 → wM → Prop} {x0 : Option Ro} (hlv : lvS M [vR x0]) (h : wp_M_deploy post x0 M) : Met l y_M_deploy w_M_deploy rm_M_deploy (PA D dA B zE M ad [vR x0]) (QI D dA B zE M ad post) 0 0 (wA B) :=
  AW_start [vR x0] [(0, vR x0)] hlv (by decide +kernel) rfl (fun _ hw => List.mem_cons_of_mem _ hw) rfl (Nat.le_of_ble_eq_true rfl) (fun p e s m args below meth c X hr hin => sd_M_deploy_0 X hr hin h)
abbrev rm_M_logged : Room := { frames := 0, cells := 0, slots := 0, locals := 0 }
section
variable {p : Program} {l : Launch} {e : Env} {s : State} {m : MethodId} {args : Array Value} {below : List Frame} {meth : Method} {c : Code} {D : va_G} {dA : Nat → ClassId} {B : Nat} {zE : ZT} {ad0 : Ro → Nat} {M0 : wM}
def wp_M_logged_29 (post : Int32 → wM → Prop) (k9 : Option Ro → Int32 → Int32 → wM → Prop) (x0 : Option Ro) (x1 : Int32) (x2 : Int32) (M : wM) : Prop := k9 x0 x1 (x2 + 1) M
set_option maxRecDepth 100000 in
set_option maxHeartbeats 4000000 in
theorem sd_M_logged_29 (X : Cx p s m args meth c b_M_logged 3 R_M TBL D dA B zE) (hr : meth.sig.returnType = (some .int)) (hin : meth.name = y_M_logged.name) {post : Int32 → wM → Prop} {k9 : Option Ro → Int32 → Int32 → wM → Prop} (hk9 : ∀ (x0 : Option Ro) (x1 : Int32) (x2 : Int32) (M : wM), k9 x0 x1 x2 M → AW p l e (headSpec w_M_logged rm_M_logged).room s m args below meth c (MQ below (QI D dA B zE M0 ad0 post) args s 0 0 (wA B)) D dA B zE 3 ad0 M0 M 0 0 9 [(0, vR x0), (1, vI x1), (2, vI x2)] []) {x0 : Option Ro} {x1 : Int32} {x2 : Int32} {M : wM} (h : wp_M_logged_29 post k9 x0 x1 x2 M) : AW p l e (headSpec w_M_logged rm_M_logged).room s m args below meth c (MQ below (QI D dA B zE M0 ad0 post) args s 0 0 (wA B)) D dA B zE 3 ad0 M0 M 0 0 29 [(0, vR x0), (1, vI x1), (2, vI x2)] [] := by
  unfold wp_M_logged_29 at h
  refine aw_iinc (y := x2 + 1) (lvn := [(2, _), (0, _), (1, _)]) X 2 rfl d_M_logged_29 rfl (by decide) rfl ?_
  refine aw_goto (tgt := 9) X d_M_logged_32 (by decide) ?_
  refine aw_lv [1, 2, 0] rfl ?_
  exact hk9 _ _ _ _ h
def wp_M_logged_9 (post : Int32 → wM → Prop) : Nat → Option Ro → Int32 → Int32 → wM → Prop
  | 0, _, _, _, _ => False
  | n + 1, x0, x1, x2, M => gI M x0 9 15 (fun a11 => (a11 < x2 → post x1 M) ∧ (¬ a11 < x2 → gR M x0 9 16 (fun a18 => lI M a18 x2 (fun a22 => (a22 < 0 → wp_M_logged_29 post (fun x0 x1 x2 M => wp_M_logged_9 post n x0 x1 x2 M) x0 x1 x2 M) ∧ (¬ a22 < 0 → wp_M_logged_29 post (fun x0 x1 x2 M => wp_M_logged_9 post n x0 x1 x2 M) x0 (x1 + 1) x2 M)))))
set_option maxRecDepth 100000 in
set_option maxHeartbeats 4000000 in
theorem sd_M_logged_9 (X : Cx p s m args meth c b_M_logged 3 R_M TBL D dA B zE) (hr : meth.sig.returnType = (some .int)) (hin : meth.name = y_M_logged.name) {post : Int32 → wM → Prop} : ∀ (n : Nat) (x0 : Option Ro) (x1 : Int32) (x2 : Int32) (M : wM), wp_M_logged_9 post n x0 x1 x2 M → AW p l e (headSpec w_M_logged rm_M_logged).room s m args below meth c (MQ below (QI D dA B zE M0 ad0 post) args s 0 0 (wA B)) D dA B zE 3 ad0 M0 M 0 0 9 [(0, vR x0), (1, vI x1), (2, vI x2)] [] := by
  intro n
  induction n with
  | zero => intro x0 x1 x2 M h; exact h.elim
  | succ n ih =>
    intro x0 x1 x2 M h
    unfold wp_M_logged_9 at h
    refine aw_iload_n X 2 rfl d_M_logged_9 rfl ?_
    refine aw_aload_n X 0 rfl d_M_logged_10 rfl ?_
    refine aw_gI X hc_9 in_9 15 (by decide) LK_465 (fun _ _ _ _ h => h) d_M_logged_11 (h.mono (fun a11 h => ?_))
    refine aw_icmp_gt (tgt := 35) X d_M_logged_14 (by decide) (fun c => ?_) (fun c => ?_)
    · have h := h.1 c
      refine aw_iload_n X 1 rfl d_M_logged_35 rfl ?_
      exact aw_iret X hr (Nat.le_of_ble_eq_true rfl) (Nat.le_of_ble_eq_true rfl) d_M_logged_36 h
    · have h := h.2 c
      refine aw_aload_n X 0 rfl d_M_logged_17 rfl ?_
      refine aw_gR X hc_9 in_9 16 (by decide) LK_447 (fun _ _ _ _ h => h) d_M_logged_18 (h.mono (fun a18 h => ?_))
      refine aw_iload_n X 2 rfl d_M_logged_21 rfl ?_
      refine aw_lI X d_M_logged_22 (h.mono (fun a22 h => ?_))
      refine aw_if_lt (tgt := 29) X d_M_logged_23 (by decide) (fun c => ?_) (fun c => ?_)
      · have h := h.1 c
        exact sd_M_logged_29 X hr hin ih h
      · have h := h.2 c
        refine aw_iinc (y := x1 + 1) (lvn := [(1, _), (0, _), (2, _)]) X 1 rfl d_M_logged_26 rfl (by decide) rfl ?_
        refine aw_lv [1, 0, 2] rfl ?_
        exact sd_M_logged_29 X hr hin ih h
def wp_M_logged (post : Int32 → wM → Prop) (x0 : Option Ro) (M : wM) : Prop := gI M x0 9 24 (fun a3 => (∃ n, wp_M_logged_9 post n x0 0 (a3 + 1) M))
set_option maxRecDepth 100000 in
set_option maxHeartbeats 4000000 in
theorem sd_M_logged_0 (X : Cx p s m args meth c b_M_logged 3 R_M TBL D dA B zE) (hr : meth.sig.returnType = (some .int)) (hin : meth.name = y_M_logged.name) {post : Int32 → wM → Prop} {x0 : Option Ro} {M : wM} (h : wp_M_logged post x0 M) : AW p l e (headSpec w_M_logged rm_M_logged).room s m args below meth c (MQ below (QI D dA B zE M0 ad0 post) args s 0 0 (wA B)) D dA B zE 3 ad0 M0 M 0 0 0 [(0, vR x0)] [] := by
  unfold wp_M_logged at h
  refine aw_iconst X (0) (by decide) d_M_logged_0 ?_
  refine aw_istore_n (lvn := [(1, _), (0, _)]) X d_M_logged_1 rfl (by decide) rfl ?_
  refine aw_aload_n X 1 rfl d_M_logged_2 rfl ?_
  refine aw_gI X hc_9 in_9 24 (by decide) LK_466 (fun _ _ _ _ h => h) d_M_logged_3 (h.mono (fun a3 h => ?_))
  refine aw_iconst X (1) (by decide) d_M_logged_6 ?_
  refine aw_iadd X d_M_logged_7 ?_
  refine aw_istore_n (lvn := [(2, _), (1, _), (0, _)]) X d_M_logged_8 rfl (by decide) rfl ?_
  refine aw_lv [2, 1, 0] rfl ?_
  obtain ⟨n, h⟩ := h
  exact sd_M_logged_9 X hr hin n _ _ _ _ h
end
theorem t_M_logged (l : Launch) {D : va_G} {dA : Nat → ClassId} {B : Nat} {zE : ZT} {M : wM} {ad : Ro → Nat} {post : Int32 → wM → Prop} {x0 : Option Ro} (hlv : lvS M [vR x0]) (h : wp_M_logged post x0 M) : Met l y_M_logged w_M_logged rm_M_logged (PA D dA B zE M ad [vR x0]) (QI D dA B zE M ad post) 0 0 (wA B) :=
  AW_start [vR x0] [(0, vR x0)] hlv (by decide +kernel) rfl (fun _ hw => List.mem_cons_of_mem _ hw) rfl (Nat.le_of_ble_eq_true rfl) (fun p e s m args below meth c X hr hin => sd_M_logged_0 X hr hin h)
abbrev rm_M_next : Room := { frames := 0, cells := 0, slots := 0, locals := 0 }
section
variable {p : Program} {l : Launch} {e : Env} {s : State} {m : MethodId} {args : Array Value} {below : List Frame} {meth : Method} {c : Code} {D : va_G} {dA : Nat → ClassId} {B : Nat} {zE : ZT} {ad0 : Ro → Nat} {M0 : wM}
def wp_M_next (post : Int32 → wM → Prop) (x0 : Option Ro) (x1 : Int32) (M : wM) : Prop := gI M x0 9 15 (fun a2 => pF M x0 9 15 (vI (a2 + 1)) (fun M7 => gR M7 x0 9 16 (fun a11 => gI M7 x0 9 15 (fun a15 => sI M7 a11 a15 x1 (fun M19 => gR M19 x0 9 18 (fun a21 => gI M19 x0 9 15 (fun a25 => sZ M19 a21 a25 0 (fun M29 => gR M29 x0 9 19 (fun a31 => gI M29 x0 9 15 (fun a35 => sI M29 a31 a35 0 (fun M39 => gI M39 x0 9 15 (fun a41 => post a41 M39))))))))))))
set_option maxRecDepth 100000 in
set_option maxHeartbeats 4000000 in
theorem sd_M_next_0 (X : Cx p s m args meth c b_M_next 2 R_M TBL D dA B zE) (hr : meth.sig.returnType = (some .int)) (hin : meth.name = y_M_next.name) {post : Int32 → wM → Prop} {x0 : Option Ro} {x1 : Int32} {M : wM} (h : wp_M_next post x0 x1 M) : AW p l e (headSpec w_M_next rm_M_next).room s m args below meth c (MQ below (QI D dA B zE M0 ad0 post) args s 0 0 (wA B)) D dA B zE 2 ad0 M0 M 0 0 0 [(0, vR x0), (1, vI x1)] [] := by
  unfold wp_M_next at h
  refine aw_aload_n X 0 rfl d_M_next_0 rfl ?_
  refine aw_dup X rfl d_M_next_1 ?_
  refine aw_gI X hc_9 in_9 15 (by decide) LK_465 (fun _ _ _ _ h => h) d_M_next_2 (h.mono (fun a2 h => ?_))
  refine aw_iconst X (1) (by decide) d_M_next_5 ?_
  refine aw_iadd X d_M_next_6 ?_
  refine aw_pF (ty := .int) X hc_9 in_9 15 (by decide) ty_9 tyok_9 nm_9 LK_465 (fun _ _ _ _ h => h) rfl (by decide +kernel) (fun _ => ⟨rfl, rfl⟩) d_M_next_7 (h.mono (fun M7 h => ?_))
  refine aw_aload_n X 0 rfl d_M_next_10 rfl ?_
  refine aw_gR X hc_9 in_9 16 (by decide) LK_447 (fun _ _ _ _ h => h) d_M_next_11 (h.mono (fun a11 h => ?_))
  refine aw_aload_n X 0 rfl d_M_next_14 rfl ?_
  refine aw_gI X hc_9 in_9 15 (by decide) LK_465 (fun _ _ _ _ h => h) d_M_next_15 (h.mono (fun a15 h => ?_))
  refine aw_iload_n X 1 rfl d_M_next_18 rfl ?_
  refine aw_sI X d_M_next_19 (h.mono (fun M19 h => ?_))
  refine aw_aload_n X 0 rfl d_M_next_20 rfl ?_
  refine aw_gR X hc_9 in_9 18 (by decide) LK_449 (fun _ _ _ _ h => h) d_M_next_21 (h.mono (fun a21 h => ?_))
  refine aw_aload_n X 0 rfl d_M_next_24 rfl ?_
  refine aw_gI X hc_9 in_9 15 (by decide) LK_465 (fun _ _ _ _ h => h) d_M_next_25 (h.mono (fun a25 h => ?_))
  refine aw_iconst X (0) (by decide) d_M_next_28 ?_
  refine aw_sZ X d_M_next_29 (h.mono (fun M29 h => ?_))
  refine aw_aload_n X 0 rfl d_M_next_30 rfl ?_
  refine aw_gR X hc_9 in_9 19 (by decide) LK_450 (fun _ _ _ _ h => h) d_M_next_31 (h.mono (fun a31 h => ?_))
  refine aw_aload_n X 0 rfl d_M_next_34 rfl ?_
  refine aw_gI X hc_9 in_9 15 (by decide) LK_465 (fun _ _ _ _ h => h) d_M_next_35 (h.mono (fun a35 h => ?_))
  refine aw_iconst X (0) (by decide) d_M_next_38 ?_
  refine aw_sI X d_M_next_39 (h.mono (fun M39 h => ?_))
  refine aw_aload_n X 0 rfl d_M_next_40 rfl ?_
  refine aw_gI X hc_9 in_9 15 (by decide) LK_465 (fun _ _ _ _ h => h) d_M_next_41 (h.mono (fun a41 h => ?_))
  exact aw_iret X hr (Nat.le_of_ble_eq_true rfl) (Nat.le_of_ble_eq_true rfl) d_M_next_44 h
end
theorem t_M_next (l : Launch) {D : va_G} {dA : Nat → ClassId} {B : Nat} {zE : ZT} {M : wM} {ad : Ro → Nat} {post : Int32 → wM → Prop} {x0 : Option Ro} {x1 : Int32} (hlv : lvS M [vR x0, vI x1]) (h : wp_M_next post x0 x1 M) : Met l y_M_next w_M_next rm_M_next (PA D dA B zE M ad [vR x0, vI x1]) (QI D dA B zE M ad post) 0 0 (wA B) :=
  AW_start [vR x0, vI x1] [(0, vR x0), (1, vI x1)] hlv (by decide +kernel) rfl (fun _ hw => List.mem_cons_of_mem _ hw) rfl (Nat.le_of_ble_eq_true rfl) (fun p e s m args below meth c X hr hin => sd_M_next_0 X hr hin h)
abbrev rm_M_invoke : Room := { frames := 1, cells := 0, slots := 0, locals := 22 }
section
variable {p : Program} {l : Launch} {e : Env} {s : State} {m : MethodId} {args : Array Value} {below : List Frame} {meth : Method} {c : Code} {D : va_G} {dA : Nat → ClassId} {B : Nat} {zE : ZT} {ad0 : Ro → Nat} {M0 : wM}
def wp_M_invoke_36 (post : Int32 → wM → Prop) (x0 : Option Ro) (x1 : Int32) (x2 : Int32) (x3 : Int32) (x4 : Int32) (x5 : Int32) (M : wM) : Prop := post (-1) M
set_option maxRecDepth 100000 in
set_option maxHeartbeats 4000000 in
theorem sd_M_invoke_36 (X : Cx p s m args meth c b_M_invoke 7 R_M TBL D dA B zE) (hr : meth.sig.returnType = (some .int)) (hin : meth.name = y_M_invoke.name) {post : Int32 → wM → Prop} {x0 : Option Ro} {x1 : Int32} {x2 : Int32} {x3 : Int32} {x4 : Int32} {x5 : Int32} {M : wM} (h : wp_M_invoke_36 post x0 x1 x2 x3 x4 x5 M) : AW p l e (headSpec w_M_invoke rm_M_invoke).room s m args below meth c (MQ below (QI D dA B zE M0 ad0 post) args s 0 0 (wA B)) D dA B zE 7 ad0 M0 M 0 0 36 [(0, vR x0), (1, vI x1), (2, vI x2), (3, vI x3), (4, vI x4), (5, vI x5)] [] := by
  unfold wp_M_invoke_36 at h
  refine aw_iconst X (-1) (by decide) d_M_invoke_36 ?_
  exact aw_iret X hr (Nat.le_of_ble_eq_true rfl) (Nat.le_of_ble_eq_true rfl) d_M_invoke_37 h
def wp_M_invoke (post : Int32 → wM → Prop) (x0 : Option Ro) (x1 : Int32) (x2 : Int32) (x3 : Int32) (x4 : Int32) (x5 : Int32) (M : wM) : Prop := wp_M_outside (fun a2 M2 => (¬ a2 = 0 → wp_M_invoke_36 post x0 x1 x2 x3 x4 x5 M2) ∧ (a2 = 0 → gR M2 x0 9 27 (fun a9 => lI M2 a9 x1 (fun a13 => (a13 = (1 : Int32) → wp_M_invoke_36 post x0 x1 x2 x3 x4 x5 M2) ∧ (¬ a13 = (1 : Int32) → wp_M_outside (fun a21 M21 => (¬ a21 = 0 → wp_M_invoke_36 post x0 x1 x2 x3 x4 x5 M21) ∧ (a21 = 0 → gR M21 x0 9 7 (fun a28 => lZ M21 a28 x2 (fun a32 => (¬ a32 = 0 → cV M21 x0 9 (wp_M_logged (fun a39 M39 => (a39 < (48 : Int32) → cV M39 x0 9 (wp_M_next (fun a52 M52 => gR M52 x0 9 17 (fun a58 => sI M52 a58 (3 * a52) x3 (fun M66 => gR M66 x0 9 17 (fun a68 => sI M66 a68 ((3 * a52) + 1) x4 (fun M79 => gR M79 x0 9 17 (fun a81 => sI M79 a81 ((3 * a52) + 2) x5 (fun M92 => gR M92 x0 9 27 (fun a94 => sI M92 a94 x1 1 (fun M99 => gR M99 x0 9 28 (fun a101 => sI M99 a101 x1 a52 (fun M107 => post a52 M107))))))))))) x0 x2 M39)) ∧ (¬ a39 < (48 : Int32) → post (-2) M39)) x0 M21)) ∧ (a32 = 0 → wp_M_invoke_36 post x0 x1 x2 x3 x4 x5 M21))))) x2 6 M2))))) x1 4 M
set_option maxRecDepth 100000 in
set_option maxHeartbeats 4000000 in
theorem sd_M_invoke_0 (X : Cx p s m args meth c b_M_invoke 7 R_M TBL D dA B zE) (hr : meth.sig.returnType = (some .int)) (hin : meth.name = y_M_invoke.name) {post : Int32 → wM → Prop} {x0 : Option Ro} {x1 : Int32} {x2 : Int32} {x3 : Int32} {x4 : Int32} {x5 : Int32} {M : wM} (h : wp_M_invoke post x0 x1 x2 x3 x4 x5 M) : AW p l e (headSpec w_M_invoke rm_M_invoke).room s m args below meth c (MQ below (QI D dA B zE M0 ad0 post) args s 0 0 (wA B)) D dA B zE 7 ad0 M0 M 0 0 0 [(0, vR x0), (1, vI x1), (2, vI x2), (3, vI x3), (4, vI x4), (5, vI x5)] [] := by
  unfold wp_M_invoke at h
  refine aw_iload_n X 1 rfl d_M_invoke_0 rfl ?_
  refine aw_iconst X (4) (by decide) d_M_invoke_1 ?_
  refine aw_cSi X [_, _] (fun ad hlv => t_M_outside l hlv h) (cwS 2 X.hts (gd_S LK_461 LK_462 LK_463 LK_code_M_outside) rfl rfl rfl (by decide +kernel) ⟨(Nat.le_of_ble_eq_true rfl), (Nat.le_of_ble_eq_true rfl)⟩) rfl rfl (Nat.le_of_ble_eq_true rfl) d_M_invoke_2 ⟨(Nat.le_of_ble_eq_true rfl), (Nat.le_of_ble_eq_true rfl)⟩ (fun a2 M2 h => ?_)
  refine aw_if_ne (tgt := 36) X d_M_invoke_5 (by decide) (fun c => ?_) (fun c => ?_)
  · have h := h.1 c
    exact sd_M_invoke_36 X hr hin h
  · have h := h.2 c
    refine aw_aload_n X 0 rfl d_M_invoke_8 rfl ?_
    refine aw_gR X hc_9 in_9 27 (by decide) LK_455 (fun _ _ _ _ h => h) d_M_invoke_9 (h.mono (fun a9 h => ?_))
    refine aw_iload_n X 1 rfl d_M_invoke_12 rfl ?_
    refine aw_lI X d_M_invoke_13 (h.mono (fun a13 h => ?_))
    refine aw_iconst X (1) (by decide) d_M_invoke_14 ?_
    refine aw_icmp_eq (tgt := 36) X d_M_invoke_15 (by decide) (fun c => ?_) (fun c => ?_)
    · have h := h.1 c
      exact sd_M_invoke_36 X hr hin h
    · have h := h.2 c
      refine aw_iload_n X 2 rfl d_M_invoke_18 rfl ?_
      refine aw_bipush X (6) (by decide) d_M_invoke_19 ?_
      refine aw_cSi X [_, _] (fun ad hlv => t_M_outside l hlv h) (cwS 2 X.hts (gd_S LK_461 LK_462 LK_463 LK_code_M_outside) rfl rfl rfl (by decide +kernel) ⟨(Nat.le_of_ble_eq_true rfl), (Nat.le_of_ble_eq_true rfl)⟩) rfl rfl (Nat.le_of_ble_eq_true rfl) d_M_invoke_21 ⟨(Nat.le_of_ble_eq_true rfl), (Nat.le_of_ble_eq_true rfl)⟩ (fun a21 M21 h => ?_)
      refine aw_if_ne (tgt := 36) X d_M_invoke_24 (by decide) (fun c => ?_) (fun c => ?_)
      · have h := h.1 c
        exact sd_M_invoke_36 X hr hin h
      · have h := h.2 c
        refine aw_aload_n X 0 rfl d_M_invoke_27 rfl ?_
        refine aw_gR X hc_9 in_9 7 (by decide) LK_439 (fun _ _ _ _ h => h) d_M_invoke_28 (h.mono (fun a28 h => ?_))
        refine aw_iload_n X 2 rfl d_M_invoke_31 rfl ?_
        refine aw_lZ X d_M_invoke_32 (h.mono (fun a32 h => ?_))
        refine aw_if_ne (tgt := 38) X d_M_invoke_33 (by decide) (fun c => ?_) (fun c => ?_)
        · have h := h.1 c
          refine aw_aload_n X 0 rfl d_M_invoke_38 rfl ?_
          obtain ⟨⟨r39, f39, e39, g39⟩, h⟩ := h
          cases e39
          refine aw_cVi X [] (fun ad hlv => t_M_logged l hlv h) (cwV 0 X.hts (gd_V LK_467 LK_468 LK_469 LK_463 LK_code_M_logged) rfl rfl rfl (by decide +kernel) ⟨(Nat.le_of_ble_eq_true rfl), (Nat.le_of_ble_eq_true rfl)⟩) ⟨9, f39, _, g39, hc_9, rfl⟩ rfl rfl (Nat.le_of_ble_eq_true rfl) d_M_invoke_39 ⟨(Nat.le_of_ble_eq_true rfl), (Nat.le_of_ble_eq_true rfl)⟩ (fun a39 M39 h => ?_)
          refine aw_bipush X (48) (by decide) d_M_invoke_42 ?_
          refine aw_icmp_lt (tgt := 50) X d_M_invoke_44 (by decide) (fun c => ?_) (fun c => ?_)
          · have h := h.1 c
            refine aw_aload_n X 0 rfl d_M_invoke_50 rfl ?_
            refine aw_iload_n X 2 rfl d_M_invoke_51 rfl ?_
            obtain ⟨⟨r52, f52, e52, g52⟩, h⟩ := h
            cases e52
            refine aw_cVi X [_] (fun ad hlv => t_M_next l hlv h) (cwV 1 X.hts (gd_V LK_471 LK_472 LK_473 LK_463 LK_code_M_next) rfl rfl rfl (by decide +kernel) ⟨(Nat.le_of_ble_eq_true rfl), (Nat.le_of_ble_eq_true rfl)⟩) ⟨9, f52, _, g52, hc_9, rfl⟩ rfl rfl (Nat.le_of_ble_eq_true rfl) d_M_invoke_52 ⟨(Nat.le_of_ble_eq_true rfl), (Nat.le_of_ble_eq_true rfl)⟩ (fun a52 M52 h => ?_)
            refine aw_istore (lvn := [(6, _), (0, _), (1, _), (2, _), (3, _), (4, _), (5, _)]) X d_M_invoke_55 (by decide) rfl ?_
            refine aw_aload_n X 1 rfl d_M_invoke_57 rfl ?_
            refine aw_gR X hc_9 in_9 17 (by decide) LK_448 (fun _ _ _ _ h => h) d_M_invoke_58 (h.mono (fun a58 h => ?_))
            refine aw_iconst X (3) (by decide) d_M_invoke_61 ?_
            refine aw_iload X 0 rfl d_M_invoke_62 ?_
            refine aw_imul X d_M_invoke_64 ?_
            refine aw_iload_n X 4 rfl d_M_invoke_65 rfl ?_
            refine aw_sI X d_M_invoke_66 (h.mono (fun M66 h => ?_))
            refine aw_aload_n X 1 rfl d_M_invoke_67 rfl ?_
            refine aw_gR X hc_9 in_9 17 (by decide) LK_448 (fun _ _ _ _ h => h) d_M_invoke_68 (h.mono (fun a68 h => ?_))
            refine aw_iconst X (3) (by decide) d_M_invoke_71 ?_
            refine aw_iload X 0 rfl d_M_invoke_72 ?_
            refine aw_imul X d_M_invoke_74 ?_
            refine aw_iconst X (1) (by decide) d_M_invoke_75 ?_
            refine aw_iadd X d_M_invoke_76 ?_
            refine aw_iload X 5 rfl d_M_invoke_77 ?_
            refine aw_sI X d_M_invoke_79 (h.mono (fun M79 h => ?_))
            refine aw_aload_n X 1 rfl d_M_invoke_80 rfl ?_
            refine aw_gR X hc_9 in_9 17 (by decide) LK_448 (fun _ _ _ _ h => h) d_M_invoke_81 (h.mono (fun a81 h => ?_))
            refine aw_iconst X (3) (by decide) d_M_invoke_84 ?_
            refine aw_iload X 0 rfl d_M_invoke_85 ?_
            refine aw_imul X d_M_invoke_87 ?_
            refine aw_iconst X (2) (by decide) d_M_invoke_88 ?_
            refine aw_iadd X d_M_invoke_89 ?_
            refine aw_iload X 6 rfl d_M_invoke_90 ?_
            refine aw_sI X d_M_invoke_92 (h.mono (fun M92 h => ?_))
            refine aw_aload_n X 1 rfl d_M_invoke_93 rfl ?_
            refine aw_gR X hc_9 in_9 27 (by decide) LK_455 (fun _ _ _ _ h => h) d_M_invoke_94 (h.mono (fun a94 h => ?_))
            refine aw_iload_n X 2 rfl d_M_invoke_97 rfl ?_
            refine aw_iconst X (1) (by decide) d_M_invoke_98 ?_
            refine aw_sI X d_M_invoke_99 (h.mono (fun M99 h => ?_))
            refine aw_aload_n X 1 rfl d_M_invoke_100 rfl ?_
            refine aw_gR X hc_9 in_9 28 (by decide) LK_456 (fun _ _ _ _ h => h) d_M_invoke_101 (h.mono (fun a101 h => ?_))
            refine aw_iload_n X 2 rfl d_M_invoke_104 rfl ?_
            refine aw_iload X 0 rfl d_M_invoke_105 ?_
            refine aw_sI X d_M_invoke_107 (h.mono (fun M107 h => ?_))
            refine aw_iload X 0 rfl d_M_invoke_108 ?_
            exact aw_iret X hr (Nat.le_of_ble_eq_true rfl) (Nat.le_of_ble_eq_true rfl) d_M_invoke_110 h
          · have h := h.2 c
            refine aw_bipush X (-2) (by decide) d_M_invoke_47 ?_
            exact aw_iret X hr (Nat.le_of_ble_eq_true rfl) (Nat.le_of_ble_eq_true rfl) d_M_invoke_49 h
        · have h := h.2 c
          exact sd_M_invoke_36 X hr hin h
end
theorem t_M_invoke (l : Launch) {D : va_G} {dA : Nat → ClassId} {B : Nat} {zE : ZT} {M : wM} {ad : Ro → Nat} {post : Int32 → wM → Prop} {x0 : Option Ro} {x1 : Int32} {x2 : Int32} {x3 : Int32} {x4 : Int32} {x5 : Int32} (hlv : lvS M [vR x0, vI x1, vI x2, vI x3, vI x4, vI x5]) (h : wp_M_invoke post x0 x1 x2 x3 x4 x5 M) : Met l y_M_invoke w_M_invoke rm_M_invoke (PA D dA B zE M ad [vR x0, vI x1, vI x2, vI x3, vI x4, vI x5]) (QI D dA B zE M ad post) 0 0 (wA B) :=
  AW_start [vR x0, vI x1, vI x2, vI x3, vI x4, vI x5] [(0, vR x0), (1, vI x1), (2, vI x2), (3, vI x3), (4, vI x4), (5, vI x5)] hlv (by decide +kernel) rfl (fun _ hw => List.mem_cons_of_mem _ hw) rfl (Nat.le_of_ble_eq_true rfl) (fun p e s m args below meth c X hr hin => sd_M_invoke_0 X hr hin h)
