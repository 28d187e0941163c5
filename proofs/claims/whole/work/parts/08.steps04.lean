abbrev rm_B_copyFrom : Room := { frames := 2, cells := 0, slots := 0, locals := 81 }
section
variable {p : Program} {l : Launch} {e : Env} {s : State} {m : MethodId} {args : Array Value} {below : List Frame} {meth : Method} {c : Code} {D : va_G} {dA : Nat → ClassId} {B : Nat} {zE : ZT} {ad0 : Ro → Nat} {M0 : wM}
def wp_B_copyFrom (post : wM → Prop) (x0 : Option Ro) (x1 : Option Ro) (M : wM) : Prop := gR M x1 6 0 (fun a1 => gR M x0 6 0 (fun a6 => cpL M a1 0 a6 0 32 (fun M12 => cV M12 x0 6 (wp_B_copyCells (fun M17 => post M17) x0 x1 M12))))
set_option maxRecDepth 100000 in
set_option maxHeartbeats 4000000 in
theorem sd_B_copyFrom_0 (X : Cx p s m args meth c b_B_copyFrom 2 R_B TBL D dA B zE) (hr : meth.sig.returnType = none) (hin : meth.name = y_B_copyFrom.name) {post : wM → Prop} {x0 : Option Ro} {x1 : Option Ro} {M : wM} (h : wp_B_copyFrom post x0 x1 M) : AW p l e (headSpec w_B_copyFrom rm_B_copyFrom).room s m args below meth c (MQ below (QV D dA B zE M0 ad0 post) args s 0 0 (wA B)) D dA B zE 2 ad0 M0 M 0 0 0 [(0, vR x0), (1, vR x1)] [] := by
  unfold wp_B_copyFrom at h
  refine aw_aload_n X 1 rfl d_B_copyFrom_0 rfl ?_
  refine aw_gR X hc_6 in_6 0 (by decide) LK_16 (fun _ _ _ _ h => h) d_B_copyFrom_1 (h.mono (fun a1 h => ?_))
  refine aw_iconst X (0) (by decide) d_B_copyFrom_4 ?_
  refine aw_aload_n X 0 rfl d_B_copyFrom_5 rfl ?_
  refine aw_gR X hc_6 in_6 0 (by decide) LK_16 (fun _ _ _ _ h => h) d_B_copyFrom_6 (h.mono (fun a6 h => ?_))
  refine aw_iconst X (0) (by decide) d_B_copyFrom_9 ?_
  refine aw_bipush X (32) (by decide) d_B_copyFrom_10 ?_
  refine aw_cpL X LK_260 LK_138 LK_139 LK_140 (Nat.le_of_ble_eq_true rfl) (Nat.le_of_ble_eq_true rfl) d_B_copyFrom_12 (h.mono (fun M12 h => ?_))
  refine aw_aload_n X 0 rfl d_B_copyFrom_15 rfl ?_
  refine aw_aload_n X 1 rfl d_B_copyFrom_16 rfl ?_
  obtain ⟨⟨r17, f17, e17, g17⟩, h⟩ := h
  cases e17
  refine aw_cVv X [_] (fun ad hlv => t_B_copyCells l hlv h) (cwV 1 X.hts (gd_V LK_261 LK_262 LK_263 LK_27 LK_code_B_copyCells) rfl rfl rfl (by decide +kernel) ⟨(Nat.le_of_ble_eq_true rfl), (Nat.le_of_ble_eq_true rfl)⟩) ⟨6, f17, _, g17, hc_6, rfl⟩ rfl rfl (Nat.le_of_ble_eq_true rfl) d_B_copyFrom_17 ⟨(Nat.le_of_ble_eq_true rfl), (Nat.le_of_ble_eq_true rfl)⟩ (fun M17 h => ?_)
  exact aw_vret X hr (Nat.le_of_ble_eq_true rfl) (Nat.le_of_ble_eq_true rfl) d_B_copyFrom_20 h
end
theorem t_B_copyFrom (l : Launch) {D : va_G} {dA : Nat → ClassId} {B : Nat} {zE : ZT} {M : wM} {ad : Ro → Nat} {post : wM → Prop} {x0 : Option Ro} {x1 : Option Ro} (hlv : lvS M [vR x0, vR x1]) (h : wp_B_copyFrom post x0 x1 M) : Met l y_B_copyFrom w_B_copyFrom rm_B_copyFrom (PA D dA B zE M ad [vR x0, vR x1]) (QV D dA B zE M ad post) 0 0 (wA B) :=
  AW_start [vR x0, vR x1] [(0, vR x0), (1, vR x1)] hlv (by decide +kernel) rfl (fun _ hw => List.mem_cons_of_mem _ hw) rfl (Nat.le_of_ble_eq_true rfl) (fun p e s m args below meth c X hr hin => sd_B_copyFrom_0 X hr hin h)
abbrev rm_S_dropLogUpTo : Room := { frames := 3, cells := 0, slots := 0, locals := 106 }
section
variable {p : Program} {l : Launch} {e : Env} {s : State} {m : MethodId} {args : Array Value} {below : List Frame} {meth : Method} {c : Code} {D : va_G} {dA : Nat → ClassId} {B : Nat} {zE : ZT} {ad0 : Ro → Nat} {M0 : wM}
def wp_S_dropLogUpTo_45 (post : wM → Prop) (x0 : Option Ro) (x1 : Int32) (x2 : Int32) (M : wM) : Prop := post M
set_option maxRecDepth 100000 in
set_option maxHeartbeats 4000000 in
theorem sd_S_dropLogUpTo_45 (X : Cx p s m args meth c b_S_dropLogUpTo 3 R_S TBL D dA B zE) (hr : meth.sig.returnType = none) (hin : meth.name = y_S_dropLogUpTo.name) {post : wM → Prop} {x0 : Option Ro} {x1 : Int32} {x2 : Int32} {M : wM} (h : wp_S_dropLogUpTo_45 post x0 x1 x2 M) : AW p l e (headSpec w_S_dropLogUpTo rm_S_dropLogUpTo).room s m args below meth c (MQ below (QV D dA B zE M0 ad0 post) args s 0 0 (wA B)) D dA B zE 3 ad0 M0 M 0 0 45 [(0, vR x0), (1, vI x1), (2, vI x2)] [] := by
  unfold wp_S_dropLogUpTo_45 at h
  exact aw_vret X hr (Nat.le_of_ble_eq_true rfl) (Nat.le_of_ble_eq_true rfl) d_S_dropLogUpTo_45 h
def wp_S_dropLogUpTo_8 (post : wM → Prop) : Nat → Option Ro → Int32 → Int32 → wM → Prop
  | 0, _, _, _, _ => False
  | n + 1, x0, x1, x2, M => (x2 ≤ 0 → wp_S_dropLogUpTo_45 post x0 x1 x2 M) ∧ (¬ x2 ≤ 0 → gR M x0 0 5 (fun a13 => cV M a13 8 (wp_A_get (fun a17 M17 => ck M17 a17 7 (gI M17 a17 7 0 (fun a23 => (x1 < a23 → wp_S_dropLogUpTo_45 post x0 x1 x2 M17) ∧ (¬ x1 < a23 → gR M17 x0 0 5 (fun a31 => cV M17 a31 8 (wp_A_remove (fun a35 M35 => wp_S_dropLogUpTo_8 post n x0 x1 (x2 + (-1)) M35) a31 0 M17)))))) a13 0 M)))
set_option maxRecDepth 100000 in
set_option maxHeartbeats 4000000 in
theorem sd_S_dropLogUpTo_8 (X : Cx p s m args meth c b_S_dropLogUpTo 3 R_S TBL D dA B zE) (hr : meth.sig.returnType = none) (hin : meth.name = y_S_dropLogUpTo.name) {post : wM → Prop} : ∀ (n : Nat) (x0 : Option Ro) (x1 : Int32) (x2 : Int32) (M : wM), wp_S_dropLogUpTo_8 post n x0 x1 x2 M → AW p l e (headSpec w_S_dropLogUpTo rm_S_dropLogUpTo).room s m args below meth c (MQ below (QV D dA B zE M0 ad0 post) args s 0 0 (wA B)) D dA B zE 3 ad0 M0 M 0 0 8 [(0, vR x0), (1, vI x1), (2, vI x2)] [] := by
  intro n
  induction n with
  | zero => intro x0 x1 x2 M h; exact h.elim
  | succ n ih =>
    intro x0 x1 x2 M h
    unfold wp_S_dropLogUpTo_8 at h
    refine aw_iload_n X 2 rfl d_S_dropLogUpTo_8 rfl ?_
    refine aw_if_le (tgt := 45) X d_S_dropLogUpTo_9 (by decide) (fun c => ?_) (fun c => ?_)
    · have h := h.1 c
      exact sd_S_dropLogUpTo_45 X hr hin h
    · have h := h.2 c
      refine aw_aload_n X 0 rfl d_S_dropLogUpTo_12 rfl ?_
      refine aw_gR X hc_0 in_0 5 (by decide) LK_85 (fun _ _ _ _ h => h) d_S_dropLogUpTo_13 (h.mono (fun a13 h => ?_))
      refine aw_iconst X (0) (by decide) d_S_dropLogUpTo_16 ?_
      obtain ⟨⟨r17, f17, e17, g17⟩, h⟩ := h
      cases e17
      refine aw_cVr X [_] (fun ad hlv => t_A_get l hlv h) (cwV 1 X.hts (gd_V LK_265 LK_203 LK_204 LK_42 LK_code_A_get) rfl rfl rfl (by decide +kernel) ⟨(Nat.le_of_ble_eq_true rfl), (Nat.le_of_ble_eq_true rfl)⟩) ⟨8, f17, _, g17, hc_8, rfl⟩ rfl rfl (Nat.le_of_ble_eq_true rfl) d_S_dropLogUpTo_17 ⟨(Nat.le_of_ble_eq_true rfl), (Nat.le_of_ble_eq_true rfl)⟩ (fun a17 M17 h => ?_)
      refine aw_ck X hc_7 LK_225 d_S_dropLogUpTo_20 ⟨h.1, ?_⟩
      have h := h.2
      refine aw_gI X hc_7 in_7 0 (by decide) LK_266 (fun _ _ _ _ h => h) d_S_dropLogUpTo_23 (h.mono (fun a23 h => ?_))
      refine aw_iload_n X 1 rfl d_S_dropLogUpTo_26 rfl ?_
      refine aw_icmp_gt (tgt := 45) X d_S_dropLogUpTo_27 (by decide) (fun c => ?_) (fun c => ?_)
      · have h := h.1 c
        exact sd_S_dropLogUpTo_45 X hr hin h
      · have h := h.2 c
        refine aw_aload_n X 0 rfl d_S_dropLogUpTo_30 rfl ?_
        refine aw_gR X hc_0 in_0 5 (by decide) LK_85 (fun _ _ _ _ h => h) d_S_dropLogUpTo_31 (h.mono (fun a31 h => ?_))
        refine aw_iconst X (0) (by decide) d_S_dropLogUpTo_34 ?_
        obtain ⟨⟨r35, f35, e35, g35⟩, h⟩ := h
        cases e35
        refine aw_cVr X [_] (fun ad hlv => t_A_remove l hlv h) (cwV 1 X.hts (gd_V LK_267 LK_257 LK_258 LK_42 LK_code_A_remove) rfl rfl rfl (by decide +kernel) ⟨(Nat.le_of_ble_eq_true rfl), (Nat.le_of_ble_eq_true rfl)⟩) ⟨8, f35, _, g35, hc_8, rfl⟩ rfl rfl (Nat.le_of_ble_eq_true rfl) d_S_dropLogUpTo_35 ⟨(Nat.le_of_ble_eq_true rfl), (Nat.le_of_ble_eq_true rfl)⟩ (fun a35 M35 h => ?_)
        refine aw_pop X rfl d_S_dropLogUpTo_38 ?_
        refine aw_iinc (y := x2 + (-1)) (lvn := [(2, _), (0, _), (1, _)]) X 2 rfl d_S_dropLogUpTo_39 rfl (by decide) rfl ?_
        refine aw_goto (tgt := 8) X d_S_dropLogUpTo_42 (by decide) ?_
        refine aw_lv [1, 2, 0] rfl ?_
        exact ih _ _ _ _ h
def wp_S_dropLogUpTo (post : wM → Prop) (x0 : Option Ro) (x1 : Int32) (M : wM) : Prop := gR M x0 0 5 (fun a1 => cV M a1 8 (wp_A_size (fun a4 M4 => (∃ n, wp_S_dropLogUpTo_8 post n x0 x1 a4 M4)) a1 M))
set_option maxRecDepth 100000 in
set_option maxHeartbeats 4000000 in
theorem sd_S_dropLogUpTo_0 (X : Cx p s m args meth c b_S_dropLogUpTo 3 R_S TBL D dA B zE) (hr : meth.sig.returnType = none) (hin : meth.name = y_S_dropLogUpTo.name) {post : wM → Prop} {x0 : Option Ro} {x1 : Int32} {M : wM} (h : wp_S_dropLogUpTo post x0 x1 M) : AW p l e (headSpec w_S_dropLogUpTo rm_S_dropLogUpTo).room s m args below meth c (MQ below (QV D dA B zE M0 ad0 post) args s 0 0 (wA B)) D dA B zE 3 ad0 M0 M 0 0 0 [(0, vR x0), (1, vI x1)] [] := by
  unfold wp_S_dropLogUpTo at h
  refine aw_aload_n X 0 rfl d_S_dropLogUpTo_0 rfl ?_
  refine aw_gR X hc_0 in_0 5 (by decide) LK_85 (fun _ _ _ _ h => h) d_S_dropLogUpTo_1 (h.mono (fun a1 h => ?_))
  obtain ⟨⟨r4, f4, e4, g4⟩, h⟩ := h
  cases e4
  refine aw_cVi X [] (fun ad hlv => t_A_size l hlv h) (cwV 0 X.hts (gd_V LK_175 LK_176 LK_177 LK_42 LK_code_A_size) rfl rfl rfl (by decide +kernel) ⟨(Nat.le_of_ble_eq_true rfl), (Nat.le_of_ble_eq_true rfl)⟩) ⟨8, f4, _, g4, hc_8, rfl⟩ rfl rfl (Nat.le_of_ble_eq_true rfl) d_S_dropLogUpTo_4 ⟨(Nat.le_of_ble_eq_true rfl), (Nat.le_of_ble_eq_true rfl)⟩ (fun a4 M4 h => ?_)
  refine aw_istore_n (lvn := [(2, _), (0, _), (1, _)]) X d_S_dropLogUpTo_7 rfl (by decide) rfl ?_
  refine aw_lv [1, 2, 0] rfl ?_
  obtain ⟨n, h⟩ := h
  exact sd_S_dropLogUpTo_8 X hr hin n _ _ _ _ h
end
theorem t_S_dropLogUpTo (l : Launch) {D : va_G} {dA : Nat → ClassId} {B : Nat} {zE : ZT} {M : wM} {ad : Ro → Nat} {post : wM → Prop} {x0 : Option Ro} {x1 : Int32} (hlv : lvS M [vR x0, vI x1]) (h : wp_S_dropLogUpTo post x0 x1 M) : Met l y_S_dropLogUpTo w_S_dropLogUpTo rm_S_dropLogUpTo (PA D dA B zE M ad [vR x0, vI x1]) (QV D dA B zE M ad post) 0 0 (wA B) :=
  AW_start [vR x0, vI x1] [(0, vR x0), (1, vI x1)] hlv (by decide +kernel) rfl (fun _ hw => List.mem_cons_of_mem _ hw) rfl (Nat.le_of_ble_eq_true rfl) (fun p e s m args below meth c X hr hin => sd_S_dropLogUpTo_0 X hr hin h)
abbrev rm_C_settle : Room := { frames := 0, cells := 0, slots := 0, locals := 0 }
section
variable {p : Program} {l : Launch} {e : Env} {s : State} {m : MethodId} {args : Array Value} {below : List Frame} {meth : Method} {c : Code} {D : va_G} {dA : Nat → ClassId} {B : Nat} {zE : ZT} {ad0 : Ro → Nat} {M0 : wM}
def wp_C_settle_39 (post : wM → Prop) (x0 : Option Ro) (x1 : Int32) (M : wM) : Prop := post M
set_option maxRecDepth 100000 in
set_option maxHeartbeats 4000000 in
theorem sd_C_settle_39 (X : Cx p s m args meth c b_C_settle 2 R_C TBL D dA B zE) (hr : meth.sig.returnType = none) (hin : meth.name = y_C_settle.name) {post : wM → Prop} {x0 : Option Ro} {x1 : Int32} {M : wM} (h : wp_C_settle_39 post x0 x1 M) : AW p l e (headSpec w_C_settle rm_C_settle).room s m args below meth c (MQ below (QV D dA B zE M0 ad0 post) args s 0 0 (wA B)) D dA B zE 2 ad0 M0 M 0 0 39 [(0, vR x0), (1, vI x1)] [] := by
  unfold wp_C_settle_39 at h
  exact aw_vret X hr (Nat.le_of_ble_eq_true rfl) (Nat.le_of_ble_eq_true rfl) d_C_settle_39 h
def wp_C_settle_36 (post : wM → Prop) (x0 : Option Ro) (x1 : Int32) (s0 : Int32) (s1 : Option Ro) (M : wM) : Prop := pF M s1 1 0 (vI s0) (fun M36 => wp_C_settle_39 post x0 x1 M36)
set_option maxRecDepth 100000 in
set_option maxHeartbeats 4000000 in
theorem sd_C_settle_36 (X : Cx p s m args meth c b_C_settle 2 R_C TBL D dA B zE) (hr : meth.sig.returnType = none) (hin : meth.name = y_C_settle.name) {post : wM → Prop} {x0 : Option Ro} {x1 : Int32} {s0 : Int32} {s1 : Option Ro} {M : wM} (h : wp_C_settle_36 post x0 x1 s0 s1 M) : AW p l e (headSpec w_C_settle rm_C_settle).room s m args below meth c (MQ below (QV D dA B zE M0 ad0 post) args s 0 0 (wA B)) D dA B zE 2 ad0 M0 M 0 0 36 [(0, vR x0), (1, vI x1)] [vI s0, vR s1] := by
  unfold wp_C_settle_36 at h
  refine aw_pF (ty := .int) X hc_1 in_1 0 (by decide) ty_1 tyok_1 nm_1 LK_50 (fun _ _ _ _ h => h) rfl (by decide +kernel) (fun _ => ⟨rfl, rfl⟩) d_C_settle_36 (h.mono (fun M36 h => ?_))
  exact sd_C_settle_39 X hr hin h
def wp_C_settle (post : wM → Prop) (x0 : Option Ro) (x1 : Int32) (M : wM) : Prop := gI M x0 1 0 (fun a1 => (¬ a1 = (1 : Int32) → wp_C_settle_39 post x0 x1 M) ∧ (a1 = (1 : Int32) → gI M x0 1 2 (fun a9 => (a9 = 0 → wp_C_settle_39 post x0 x1 M) ∧ (¬ a9 = 0 → gI M x0 1 1 (fun a16 => (x1 < a16 → wp_C_settle_39 post x0 x1 M) ∧ (¬ x1 < a16 → gI M x0 1 3 (fun a25 => (a25 = 0 → wp_C_settle_36 post x0 x1 3 x0 M) ∧ (¬ a25 = 0 → wp_C_settle_36 post x0 x1 2 x0 M))))))))
set_option maxRecDepth 100000 in
set_option maxHeartbeats 4000000 in
theorem sd_C_settle_0 (X : Cx p s m args meth c b_C_settle 2 R_C TBL D dA B zE) (hr : meth.sig.returnType = none) (hin : meth.name = y_C_settle.name) {post : wM → Prop} {x0 : Option Ro} {x1 : Int32} {M : wM} (h : wp_C_settle post x0 x1 M) : AW p l e (headSpec w_C_settle rm_C_settle).room s m args below meth c (MQ below (QV D dA B zE M0 ad0 post) args s 0 0 (wA B)) D dA B zE 2 ad0 M0 M 0 0 0 [(0, vR x0), (1, vI x1)] [] := by
  unfold wp_C_settle at h
  refine aw_aload_n X 0 rfl d_C_settle_0 rfl ?_
  refine aw_gI X hc_1 in_1 0 (by decide) LK_50 (fun _ _ _ _ h => h) d_C_settle_1 (h.mono (fun a1 h => ?_))
  refine aw_iconst X (1) (by decide) d_C_settle_4 ?_
  refine aw_icmp_ne (tgt := 39) X d_C_settle_5 (by decide) (fun c => ?_) (fun c => ?_)
  · have h := h.1 c
    exact sd_C_settle_39 X hr hin h
  · have h := h.2 c
    refine aw_aload_n X 0 rfl d_C_settle_8 rfl ?_
    refine aw_gI X hc_1 in_1 2 (by decide) LK_52 (fun _ _ _ _ h => h) d_C_settle_9 (h.mono (fun a9 h => ?_))
    refine aw_if_eq (tgt := 39) X d_C_settle_12 (by decide) (fun c => ?_) (fun c => ?_)
    · have h := h.1 c
      exact sd_C_settle_39 X hr hin h
    · have h := h.2 c
      refine aw_aload_n X 0 rfl d_C_settle_15 rfl ?_
      refine aw_gI X hc_1 in_1 1 (by decide) LK_51 (fun _ _ _ _ h => h) d_C_settle_16 (h.mono (fun a16 h => ?_))
      refine aw_iload_n X 1 rfl d_C_settle_19 rfl ?_
      refine aw_icmp_gt (tgt := 39) X d_C_settle_20 (by decide) (fun c => ?_) (fun c => ?_)
      · have h := h.1 c
        exact sd_C_settle_39 X hr hin h
      · have h := h.2 c
        refine aw_aload_n X 0 rfl d_C_settle_23 rfl ?_
        refine aw_aload_n X 0 rfl d_C_settle_24 rfl ?_
        refine aw_gI X hc_1 in_1 3 (by decide) LK_53 (fun _ _ _ _ h => h) d_C_settle_25 (h.mono (fun a25 h => ?_))
        refine aw_if_eq (tgt := 35) X d_C_settle_28 (by decide) (fun c => ?_) (fun c => ?_)
        · have h := h.1 c
          refine aw_iconst X (3) (by decide) d_C_settle_35 ?_
          exact sd_C_settle_36 X hr hin h
        · have h := h.2 c
          refine aw_iconst X (2) (by decide) d_C_settle_31 ?_
          refine aw_goto (tgt := 36) X d_C_settle_32 (by decide) ?_
          exact sd_C_settle_36 X hr hin h
end
theorem t_C_settle (l : Launch) {D : va_G} {dA : Nat → ClassId} {B : Nat} {zE : ZT} {M : wM} {ad : Ro → Nat} {post : wM → Prop} {x0 : Option Ro} {x1 : Int32} (hlv : lvS M [vR x0, vI x1]) (h : wp_C_settle post x0 x1 M) : Met l y_C_settle w_C_settle rm_C_settle (PA D dA B zE M ad [vR x0, vI x1]) (QV D dA B zE M ad post) 0 0 (wA B) :=
  AW_start [vR x0, vI x1] [(0, vR x0), (1, vI x1)] hlv (by decide +kernel) rfl (fun _ hw => List.mem_cons_of_mem _ hw) rfl (Nat.le_of_ble_eq_true rfl) (fun p e s m args below meth c X hr hin => sd_C_settle_0 X hr hin h)
abbrev rm_S_raiseDurable : Room := { frames := 1, cells := 0, slots := 0, locals := 21 }
section
variable {p : Program} {l : Launch} {e : Env} {s : State} {m : MethodId} {args : Array Value} {below : List Frame} {meth : Method} {c : Code} {D : va_G} {dA : Nat → ClassId} {B : Nat} {zE : ZT} {ad0 : Ro → Nat} {M0 : wM}
def wp_S_raiseDurable_23 (post : wM → Prop) : Nat → Option Ro → Int32 → Option Ro → Int32 → Int32 → wM → Prop
  | 0, _, _, _, _, _, _ => False
  | n + 1, x0, x1, x2, x3, x4, M => (x3 ≤ x4 → post M) ∧ (¬ x3 ≤ x4 → lR M x2 x4 (fun a32 => gI M x0 0 12 (fun a38 => cV M a32 1 (wp_C_settle (fun M41 => wp_S_raiseDurable_23 post n x0 x1 x2 x3 (x4 + 1) M41) a32 a38 M))))
set_option maxRecDepth 100000 in
set_option maxHeartbeats 4000000 in
theorem sd_S_raiseDurable_23 (X : Cx p s m args meth c b_S_raiseDurable 6 R_S TBL D dA B zE) (hr : meth.sig.returnType = none) (hin : meth.name = y_S_raiseDurable.name) {post : wM → Prop} : ∀ (n : Nat) (x0 : Option Ro) (x1 : Int32) (x2 : Option Ro) (x3 : Int32) (x4 : Int32) (M : wM), wp_S_raiseDurable_23 post n x0 x1 x2 x3 x4 M → AW p l e (headSpec w_S_raiseDurable rm_S_raiseDurable).room s m args below meth c (MQ below (QV D dA B zE M0 ad0 post) args s 0 0 (wA B)) D dA B zE 6 ad0 M0 M 0 0 23 [(0, vR x0), (1, vI x1), (2, vR x2), (3, vI x3), (4, vI x4)] [] := by
  intro n
  induction n with
  | zero => intro x0 x1 x2 x3 x4 M h; exact h.elim
  | succ n ih =>
    intro x0 x1 x2 x3 x4 M h
    unfold wp_S_raiseDurable_23 at h
    refine aw_iload X 4 rfl d_S_raiseDurable_23 ?_
    refine aw_iload_n X 3 rfl d_S_raiseDurable_25 rfl ?_
    refine aw_icmp_ge (tgt := 50) X d_S_raiseDurable_26 (by decide) (fun c => ?_) (fun c => ?_)
    · have h := h.1 c
      exact aw_vret X hr (Nat.le_of_ble_eq_true rfl) (Nat.le_of_ble_eq_true rfl) d_S_raiseDurable_50 h
    · have h := h.2 c
      refine aw_aload_n X 2 rfl d_S_raiseDurable_29 rfl ?_
      refine aw_iload X 4 rfl d_S_raiseDurable_30 ?_
      refine aw_lR X d_S_raiseDurable_32 (h.mono (fun a32 h => ?_))
      refine aw_astore (lvn := [(5, _), (0, _), (1, _), (2, _), (3, _), (4, _)]) X d_S_raiseDurable_33 (by decide) rfl ?_
      refine aw_aload X 0 rfl d_S_raiseDurable_35 ?_
      refine aw_aload_n X 1 rfl d_S_raiseDurable_37 rfl ?_
      refine aw_gI X hc_0 in_0 12 (by decide) LK_93 (fun _ _ _ _ h => h) d_S_raiseDurable_38 (h.mono (fun a38 h => ?_))
      obtain ⟨⟨r41, f41, e41, g41⟩, h⟩ := h
      cases e41
      refine aw_cVv X [_] (fun ad hlv => t_C_settle l hlv h) (cwV 1 X.hts (gd_V LK_268 LK_269 LK_270 LK_75 LK_code_C_settle) rfl rfl rfl (by decide +kernel) ⟨(Nat.le_of_ble_eq_true rfl), (Nat.le_of_ble_eq_true rfl)⟩) ⟨1, f41, _, g41, hc_1, rfl⟩ rfl rfl (Nat.le_of_ble_eq_true rfl) d_S_raiseDurable_41 ⟨(Nat.le_of_ble_eq_true rfl), (Nat.le_of_ble_eq_true rfl)⟩ (fun M41 h => ?_)
      refine aw_iinc (y := x4 + 1) (lvn := [(4, _), (5, _), (0, _), (1, _), (2, _), (3, _)]) X 5 rfl d_S_raiseDurable_44 rfl (by decide) rfl ?_
      refine aw_goto (tgt := 23) X d_S_raiseDurable_47 (by decide) ?_
      refine aw_lv [2, 3, 4, 5, 0] rfl ?_
      exact ih _ _ _ _ _ _ h
def wp_S_raiseDurable (post : wM → Prop) (x0 : Option Ro) (x1 : Int32) (M : wM) : Prop := gI M x0 0 12 (fun a2 => wp_Ma_max (fun a6 M6 => pF M6 x0 0 12 (vI a6) (fun M9 => gR M9 x0 0 4 (fun a13 => aN M9 a13 (fun a18 => (∃ n, wp_S_raiseDurable_23 post n x0 x1 a13 a18 0 M9))))) a2 x1 M)
set_option maxRecDepth 100000 in
set_option maxHeartbeats 4000000 in
theorem sd_S_raiseDurable_0 (X : Cx p s m args meth c b_S_raiseDurable 6 R_S TBL D dA B zE) (hr : meth.sig.returnType = none) (hin : meth.name = y_S_raiseDurable.name) {post : wM → Prop} {x0 : Option Ro} {x1 : Int32} {M : wM} (h : wp_S_raiseDurable post x0 x1 M) : AW p l e (headSpec w_S_raiseDurable rm_S_raiseDurable).room s m args below meth c (MQ below (QV D dA B zE M0 ad0 post) args s 0 0 (wA B)) D dA B zE 6 ad0 M0 M 0 0 0 [(0, vR x0), (1, vI x1)] [] := by
  unfold wp_S_raiseDurable at h
  refine aw_aload_n X 0 rfl d_S_raiseDurable_0 rfl ?_
  refine aw_aload_n X 0 rfl d_S_raiseDurable_1 rfl ?_
  refine aw_gI X hc_0 in_0 12 (by decide) LK_93 (fun _ _ _ _ h => h) d_S_raiseDurable_2 (h.mono (fun a2 h => ?_))
  refine aw_iload_n X 1 rfl d_S_raiseDurable_5 rfl ?_
  refine aw_cSi X [_, _] (fun ad hlv => t_Ma_max l hlv h) (va_cwS 2 X.hts (gd_S2 LK_98 LK_99 LK_96 LK_code_Ma_max) rfl rfl rfl (by decide +kernel) ⟨(Nat.le_of_ble_eq_true rfl), (Nat.le_of_ble_eq_true rfl)⟩) rfl rfl (Nat.le_of_ble_eq_true rfl) d_S_raiseDurable_6 ⟨(Nat.le_of_ble_eq_true rfl), (Nat.le_of_ble_eq_true rfl)⟩ (fun a6 M6 h => ?_)
  refine aw_pF (ty := .int) X hc_0 in_0 12 (by decide) ty_0 tyok_0 nm_0 LK_93 (fun _ _ _ _ h => h) rfl (by decide +kernel) (fun _ => ⟨rfl, rfl⟩) d_S_raiseDurable_9 (h.mono (fun M9 h => ?_))
  refine aw_aload_n X 0 rfl d_S_raiseDurable_12 rfl ?_
  refine aw_gR X hc_0 in_0 4 (by decide) LK_72 (fun _ _ _ _ h => h) d_S_raiseDurable_13 (h.mono (fun a13 h => ?_))
  refine aw_astore_n (lvn := [(2, _), (0, _), (1, _)]) X d_S_raiseDurable_16 rfl (by decide) rfl ?_
  refine aw_aload_n X 0 rfl d_S_raiseDurable_17 rfl ?_
  refine aw_aN X d_S_raiseDurable_18 (h.mono (fun a18 h => ?_))
  refine aw_istore_n (lvn := [(3, _), (2, _), (0, _), (1, _)]) X d_S_raiseDurable_19 rfl (by decide) rfl ?_
  refine aw_iconst X (0) (by decide) d_S_raiseDurable_20 ?_
  refine aw_istore (lvn := [(4, _), (3, _), (2, _), (0, _), (1, _)]) X d_S_raiseDurable_21 (by decide) rfl ?_
  refine aw_lv [3, 4, 2, 1, 0] rfl ?_
  obtain ⟨n, h⟩ := h
  exact sd_S_raiseDurable_23 X hr hin n _ _ _ _ _ _ h
end
theorem t_S_raiseDurable (l : Launch) {D : va_G} {dA : Nat → ClassId} {B : Nat} {zE : ZT} {M : wM} {ad : Ro → Nat} {post : wM → Prop} {x0 : Option Ro} {x1 : Int32} (hlv : lvS M [vR x0, vI x1]) (h : wp_S_raiseDurable post x0 x1 M) : Met l y_S_raiseDurable w_S_raiseDurable rm_S_raiseDurable (PA D dA B zE M ad [vR x0, vI x1]) (QV D dA B zE M ad post) 0 0 (wA B) :=
  AW_start [vR x0, vI x1] [(0, vR x0), (1, vI x1)] hlv (by decide +kernel) rfl (fun _ hw => List.mem_cons_of_mem _ hw) rfl (Nat.le_of_ble_eq_true rfl) (fun p e s m args below meth c X hr hin => sd_S_raiseDurable_0 X hr hin h)
abbrev rm_S_completeSnapshotIfCopied : Room := { frames := 4, cells := 0, slots := 0, locals := 128 }
section
variable {p : Program} {l : Launch} {e : Env} {s : State} {m : MethodId} {args : Array Value} {below : List Frame} {meth : Method} {c : Code} {D : va_G} {dA : Nat → ClassId} {B : Nat} {zE : ZT} {ad0 : Ro → Nat} {M0 : wM}
def wp_S_completeSnapshotIfCopied_36 (post : wM → Prop) (x0 : Option Ro) (x1 : Option Ro) (x2 : Int32) (x3 : Int32) (x4 : Option Ro) (M : wM) : Prop := post M
set_option maxRecDepth 100000 in
set_option maxHeartbeats 4000000 in
theorem sd_S_completeSnapshotIfCopied_36 (X : Cx p s m args meth c b_S_completeSnapshotIfCopied 5 R_S TBL D dA B zE) (hr : meth.sig.returnType = none) (hin : meth.name = y_S_completeSnapshotIfCopied.name) {post : wM → Prop} {x0 : Option Ro} {x1 : Option Ro} {x2 : Int32} {x3 : Int32} {x4 : Option Ro} {M : wM} (h : wp_S_completeSnapshotIfCopied_36 post x0 x1 x2 x3 x4 M) : AW p l e (headSpec w_S_completeSnapshotIfCopied rm_S_completeSnapshotIfCopied).room s m args below meth c (MQ below (QV D dA B zE M0 ad0 post) args s 0 0 (wA B)) D dA B zE 5 ad0 M0 M 0 0 36 [(0, vR x0), (1, vR x1), (2, vI x2), (3, vI x3), (4, vR x4)] [] := by
  unfold wp_S_completeSnapshotIfCopied_36 at h
  exact aw_vret X hr (Nat.le_of_ble_eq_true rfl) (Nat.le_of_ble_eq_true rfl) d_S_completeSnapshotIfCopied_36 h
def wp_S_completeSnapshotIfCopied_10 (post : wM → Prop) : Nat → Option Ro → Option Ro → Int32 → Int32 → wM → Prop
  | 0, _, _, _, _, _ => False
  | n + 1, x0, x1, x2, x3, M => (x2 ≤ x3 → gR M x0 0 7 (fun a44 => gR M x0 0 9 (fun a48 => cV M a44 6 (wp_B_copyFrom (fun M51 => gI M51 x0 0 10 (fun a56 => pF M51 x0 0 8 (vI a56) (fun M59 => pF M59 x0 0 10 (vI 0) (fun M64 => gI M64 x0 0 8 (fun a69 => cV M64 x0 0 (wp_S_dropLogUpTo (fun M72 => gI M72 x0 0 8 (fun a77 => cV M72 x0 0 (wp_S_raiseDurable (fun M80 => post M80) x0 a77 M72))) x0 a69 M64)))))) a44 a48 M)))) ∧ (¬ x2 ≤ x3 → lR M x1 x3 (fun a17 => gI M a17 4 2 (fun a22 => (a22 = 0 → wp_S_completeSnapshotIfCopied_36 post x0 x1 x2 x3 a17 M) ∧ (¬ a22 = 0 → gI M a17 4 3 (fun a30 => (a30 ≤ 0 → wp_S_completeSnapshotIfCopied_10 post n x0 x1 x2 (x3 + 1) M) ∧ (¬ a30 ≤ 0 → wp_S_completeSnapshotIfCopied_36 post x0 x1 x2 x3 a17 M))))))
set_option maxRecDepth 100000 in
set_option maxHeartbeats 4000000 in
theorem sd_S_completeSnapshotIfCopied_10 (X : Cx p s m args meth c b_S_completeSnapshotIfCopied 5 R_S TBL D dA B zE) (hr : meth.sig.returnType = none) (hin : meth.name = y_S_completeSnapshotIfCopied.name) {post : wM → Prop} : ∀ (n : Nat) (x0 : Option Ro) (x1 : Option Ro) (x2 : Int32) (x3 : Int32) (M : wM), wp_S_completeSnapshotIfCopied_10 post n x0 x1 x2 x3 M → AW p l e (headSpec w_S_completeSnapshotIfCopied rm_S_completeSnapshotIfCopied).room s m args below meth c (MQ below (QV D dA B zE M0 ad0 post) args s 0 0 (wA B)) D dA B zE 5 ad0 M0 M 0 0 10 [(0, vR x0), (1, vR x1), (2, vI x2), (3, vI x3)] [] := by
  intro n
  induction n with
  | zero => intro x0 x1 x2 x3 M h; exact h.elim
  | succ n ih =>
    intro x0 x1 x2 x3 M h
    unfold wp_S_completeSnapshotIfCopied_10 at h
    refine aw_iload_n X 3 rfl d_S_completeSnapshotIfCopied_10 rfl ?_
    refine aw_iload_n X 2 rfl d_S_completeSnapshotIfCopied_11 rfl ?_
    refine aw_icmp_ge (tgt := 43) X d_S_completeSnapshotIfCopied_12 (by decide) (fun c => ?_) (fun c => ?_)
    · have h := h.1 c
      refine aw_aload_n X 0 rfl d_S_completeSnapshotIfCopied_43 rfl ?_
      refine aw_gR X hc_0 in_0 7 (by decide) LK_88 (fun _ _ _ _ h => h) d_S_completeSnapshotIfCopied_44 (h.mono (fun a44 h => ?_))
      refine aw_aload_n X 0 rfl d_S_completeSnapshotIfCopied_47 rfl ?_
      refine aw_gR X hc_0 in_0 9 (by decide) LK_90 (fun _ _ _ _ h => h) d_S_completeSnapshotIfCopied_48 (h.mono (fun a48 h => ?_))
      obtain ⟨⟨r51, f51, e51, g51⟩, h⟩ := h
      cases e51
      refine aw_cVv X [_] (fun ad hlv => t_B_copyFrom l hlv h) (cwV 1 X.hts (gd_V LK_272 LK_273 LK_274 LK_27 LK_code_B_copyFrom) rfl rfl rfl (by decide +kernel) ⟨(Nat.le_of_ble_eq_true rfl), (Nat.le_of_ble_eq_true rfl)⟩) ⟨6, f51, _, g51, hc_6, rfl⟩ rfl rfl (Nat.le_of_ble_eq_true rfl) d_S_completeSnapshotIfCopied_51 ⟨(Nat.le_of_ble_eq_true rfl), (Nat.le_of_ble_eq_true rfl)⟩ (fun M51 h => ?_)
      refine aw_aload_n X 0 rfl d_S_completeSnapshotIfCopied_54 rfl ?_
      refine aw_aload_n X 0 rfl d_S_completeSnapshotIfCopied_55 rfl ?_
      refine aw_gI X hc_0 in_0 10 (by decide) LK_91 (fun _ _ _ _ h => h) d_S_completeSnapshotIfCopied_56 (h.mono (fun a56 h => ?_))
      refine aw_pF (ty := .int) X hc_0 in_0 8 (by decide) ty_0 tyok_0 nm_0 LK_89 (fun _ _ _ _ h => h) rfl (by decide +kernel) (fun _ => ⟨rfl, rfl⟩) d_S_completeSnapshotIfCopied_59 (h.mono (fun M59 h => ?_))
      refine aw_aload_n X 0 rfl d_S_completeSnapshotIfCopied_62 rfl ?_
      refine aw_iconst X (0) (by decide) d_S_completeSnapshotIfCopied_63 ?_
      refine aw_pF (ty := .int) X hc_0 in_0 10 (by decide) ty_0 tyok_0 nm_0 LK_91 (fun _ _ _ _ h => h) rfl (by decide +kernel) (fun _ => ⟨rfl, rfl⟩) d_S_completeSnapshotIfCopied_64 (h.mono (fun M64 h => ?_))
      refine aw_aload_n X 0 rfl d_S_completeSnapshotIfCopied_67 rfl ?_
      refine aw_aload_n X 0 rfl d_S_completeSnapshotIfCopied_68 rfl ?_
      refine aw_gI X hc_0 in_0 8 (by decide) LK_89 (fun _ _ _ _ h => h) d_S_completeSnapshotIfCopied_69 (h.mono (fun a69 h => ?_))
      obtain ⟨⟨r72, f72, e72, g72⟩, h⟩ := h
      cases e72
      refine aw_cVv X [_] (fun ad hlv => t_S_dropLogUpTo l hlv h) (cwV 1 X.hts (gd_V LK_276 LK_277 LK_278 LK_122 LK_code_S_dropLogUpTo) rfl rfl rfl (by decide +kernel) ⟨(Nat.le_of_ble_eq_true rfl), (Nat.le_of_ble_eq_true rfl)⟩) ⟨0, f72, _, g72, hc_0, rfl⟩ rfl rfl (Nat.le_of_ble_eq_true rfl) d_S_completeSnapshotIfCopied_72 ⟨(Nat.le_of_ble_eq_true rfl), (Nat.le_of_ble_eq_true rfl)⟩ (fun M72 h => ?_)
      refine aw_aload_n X 0 rfl d_S_completeSnapshotIfCopied_75 rfl ?_
      refine aw_aload_n X 0 rfl d_S_completeSnapshotIfCopied_76 rfl ?_
      refine aw_gI X hc_0 in_0 8 (by decide) LK_89 (fun _ _ _ _ h => h) d_S_completeSnapshotIfCopied_77 (h.mono (fun a77 h => ?_))
      obtain ⟨⟨r80, f80, e80, g80⟩, h⟩ := h
      cases e80
      refine aw_cVv X [_] (fun ad hlv => t_S_raiseDurable l hlv h) (cwV 1 X.hts (gd_V LK_280 LK_281 LK_282 LK_122 LK_code_S_raiseDurable) rfl rfl rfl (by decide +kernel) ⟨(Nat.le_of_ble_eq_true rfl), (Nat.le_of_ble_eq_true rfl)⟩) ⟨0, f80, _, g80, hc_0, rfl⟩ rfl rfl (Nat.le_of_ble_eq_true rfl) d_S_completeSnapshotIfCopied_80 ⟨(Nat.le_of_ble_eq_true rfl), (Nat.le_of_ble_eq_true rfl)⟩ (fun M80 h => ?_)
      exact aw_vret X hr (Nat.le_of_ble_eq_true rfl) (Nat.le_of_ble_eq_true rfl) d_S_completeSnapshotIfCopied_83 h
    · have h := h.2 c
      refine aw_aload_n X 1 rfl d_S_completeSnapshotIfCopied_15 rfl ?_
      refine aw_iload_n X 3 rfl d_S_completeSnapshotIfCopied_16 rfl ?_
      refine aw_lR X d_S_completeSnapshotIfCopied_17 (h.mono (fun a17 h => ?_))
      refine aw_astore (lvn := [(4, _), (0, _), (1, _), (2, _), (3, _)]) X d_S_completeSnapshotIfCopied_18 (by decide) rfl ?_
      refine aw_aload X 0 rfl d_S_completeSnapshotIfCopied_20 ?_
      refine aw_gI X hc_4 in_4 2 (by decide) LK_284 (fun _ _ _ _ h => h) d_S_completeSnapshotIfCopied_22 (h.mono (fun a22 h => ?_))
      refine aw_if_eq (tgt := 36) X d_S_completeSnapshotIfCopied_25 (by decide) (fun c => ?_) (fun c => ?_)
      · have h := h.1 c
        refine aw_lv [1, 2, 3, 4, 0] rfl ?_
        exact sd_S_completeSnapshotIfCopied_36 X hr hin h
      · have h := h.2 c
        refine aw_aload X 0 rfl d_S_completeSnapshotIfCopied_28 ?_
        refine aw_gI X hc_4 in_4 3 (by decide) LK_285 (fun _ _ _ _ h => h) d_S_completeSnapshotIfCopied_30 (h.mono (fun a30 h => ?_))
        refine aw_if_le (tgt := 37) X d_S_completeSnapshotIfCopied_33 (by decide) (fun c => ?_) (fun c => ?_)
        · have h := h.1 c
          refine aw_iinc (y := x3 + 1) (lvn := [(3, _), (4, _), (0, _), (1, _), (2, _)]) X 4 rfl d_S_completeSnapshotIfCopied_37 rfl (by decide) rfl ?_
          refine aw_goto (tgt := 10) X d_S_completeSnapshotIfCopied_40 (by decide) ?_
          refine aw_lv [2, 3, 4, 0] rfl ?_
          exact ih _ _ _ _ _ h
        · have h := h.2 c
          refine aw_lv [1, 2, 3, 4, 0] rfl ?_
          exact sd_S_completeSnapshotIfCopied_36 X hr hin h
def wp_S_completeSnapshotIfCopied (post : wM → Prop) (x0 : Option Ro) (M : wM) : Prop := gR M x0 0 3 (fun a1 => aN M a1 (fun a6 => (∃ n, wp_S_completeSnapshotIfCopied_10 post n x0 a1 a6 0 M)))
set_option maxRecDepth 100000 in
set_option maxHeartbeats 4000000 in
theorem sd_S_completeSnapshotIfCopied_0 (X : Cx p s m args meth c b_S_completeSnapshotIfCopied 5 R_S TBL D dA B zE) (hr : meth.sig.returnType = none) (hin : meth.name = y_S_completeSnapshotIfCopied.name) {post : wM → Prop} {x0 : Option Ro} {M : wM} (h : wp_S_completeSnapshotIfCopied post x0 M) : AW p l e (headSpec w_S_completeSnapshotIfCopied rm_S_completeSnapshotIfCopied).room s m args below meth c (MQ below (QV D dA B zE M0 ad0 post) args s 0 0 (wA B)) D dA B zE 5 ad0 M0 M 0 0 0 [(0, vR x0)] [] := by
  unfold wp_S_completeSnapshotIfCopied at h
  refine aw_aload_n X 0 rfl d_S_completeSnapshotIfCopied_0 rfl ?_
  refine aw_gR X hc_0 in_0 3 (by decide) LK_66 (fun _ _ _ _ h => h) d_S_completeSnapshotIfCopied_1 (h.mono (fun a1 h => ?_))
  refine aw_astore_n (lvn := [(1, _), (0, _)]) X d_S_completeSnapshotIfCopied_4 rfl (by decide) rfl ?_
  refine aw_aload_n X 0 rfl d_S_completeSnapshotIfCopied_5 rfl ?_
  refine aw_aN X d_S_completeSnapshotIfCopied_6 (h.mono (fun a6 h => ?_))
  refine aw_istore_n (lvn := [(2, _), (1, _), (0, _)]) X d_S_completeSnapshotIfCopied_7 rfl (by decide) rfl ?_
  refine aw_iconst X (0) (by decide) d_S_completeSnapshotIfCopied_8 ?_
  refine aw_istore_n (lvn := [(3, _), (2, _), (1, _), (0, _)]) X d_S_completeSnapshotIfCopied_9 rfl (by decide) rfl ?_
  refine aw_lv [3, 2, 1, 0] rfl ?_
  obtain ⟨n, h⟩ := h
  exact sd_S_completeSnapshotIfCopied_10 X hr hin n _ _ _ _ _ h
end
theorem t_S_completeSnapshotIfCopied (l : Launch) {D : va_G} {dA : Nat → ClassId} {B : Nat} {zE : ZT} {M : wM} {ad : Ro → Nat} {post : wM → Prop} {x0 : Option Ro} (hlv : lvS M [vR x0]) (h : wp_S_completeSnapshotIfCopied post x0 M) : Met l y_S_completeSnapshotIfCopied w_S_completeSnapshotIfCopied rm_S_completeSnapshotIfCopied (PA D dA B zE M ad [vR x0]) (QV D dA B zE M ad post) 0 0 (wA B) :=
  AW_start [vR x0] [(0, vR x0)] hlv (by decide +kernel) rfl (fun _ hw => List.mem_cons_of_mem _ hw) rfl (Nat.le_of_ble_eq_true rfl) (fun p e s m args below meth c X hr hin => sd_S_completeSnapshotIfCopied_0 X hr hin h)
abbrev rm_S_comeToMarker : Room := { frames := 5, cells := 0, slots := 0, locals := 152 }
section
variable {p : Program} {l : Launch} {e : Env} {s : State} {m : MethodId} {args : Array Value} {below : List Frame} {meth : Method} {c : Code} {D : va_G} {dA : Nat → ClassId} {B : Nat} {zE : ZT} {ad0 : Ro → Nat} {M0 : wM}
def wp_S_comeToMarker (post : wM → Prop) (x0 : Option Ro) (x1 : Int32) (M : wM) : Prop := gR M x0 0 3 (fun a1 => lR M a1 x1 (fun a5 => cV M a5 4 (wp_Q_passOn (fun M6 => gR M6 x0 0 9 (fun a10 => gR M6 x0 0 6 (fun a14 => gR M6 a14 3 0 (fun a17 => gI M6 x0 0 0 (fun a22 => cV M6 a10 6 (wp_B_copyPart (fun M25 => gR M25 x0 0 9 (fun a29 => gR M25 x0 0 6 (fun a33 => gR M25 a33 3 0 (fun a36 => cV M25 a29 6 (wp_B_copyCells (fun M39 => gR M39 x0 0 3 (fun a43 => lR M39 a43 x1 (fun a47 => gR M39 x0 0 9 (fun a49 => gI M39 x0 0 0 (fun a54 => cV M39 a49 6 (wp_B_countPart (fun a57 M57 => cV M57 a47 4 (wp_Q_beginPart (fun M60 => cV M60 x0 0 (wp_S_completeSnapshotIfCopied (fun M64 => post M64) x0 M60)) a47 a57 M57)) a49 x1 a54 M39)))))) a29 a36 M25))))) a10 a17 x1 a22 M6)))))) a5 M)))
set_option maxRecDepth 100000 in
set_option maxHeartbeats 4000000 in
theorem sd_S_comeToMarker_0 (X : Cx p s m args meth c b_S_comeToMarker 2 R_S TBL D dA B zE) (hr : meth.sig.returnType = none) (hin : meth.name = y_S_comeToMarker.name) {post : wM → Prop} {x0 : Option Ro} {x1 : Int32} {M : wM} (h : wp_S_comeToMarker post x0 x1 M) : AW p l e (headSpec w_S_comeToMarker rm_S_comeToMarker).room s m args below meth c (MQ below (QV D dA B zE M0 ad0 post) args s 0 0 (wA B)) D dA B zE 2 ad0 M0 M 0 0 0 [(0, vR x0), (1, vI x1)] [] := by
  unfold wp_S_comeToMarker at h
  refine aw_aload_n X 0 rfl d_S_comeToMarker_0 rfl ?_
  refine aw_gR X hc_0 in_0 3 (by decide) LK_66 (fun _ _ _ _ h => h) d_S_comeToMarker_1 (h.mono (fun a1 h => ?_))
  refine aw_iload_n X 1 rfl d_S_comeToMarker_4 rfl ?_
  refine aw_lR X d_S_comeToMarker_5 (h.mono (fun a5 h => ?_))
  obtain ⟨⟨r6, f6, e6, g6⟩, h⟩ := h
  cases e6
  refine aw_cVv X [] (fun ad hlv => t_Q_passOn l hlv h) (cwV 0 X.hts (gd_V LK_286 LK_287 LK_288 LK_68 LK_code_Q_passOn) rfl rfl rfl (by decide +kernel) ⟨(Nat.le_of_ble_eq_true rfl), (Nat.le_of_ble_eq_true rfl)⟩) ⟨4, f6, _, g6, hc_4, rfl⟩ rfl rfl (Nat.le_of_ble_eq_true rfl) d_S_comeToMarker_6 ⟨(Nat.le_of_ble_eq_true rfl), (Nat.le_of_ble_eq_true rfl)⟩ (fun M6 h => ?_)
  refine aw_aload_n X 0 rfl d_S_comeToMarker_9 rfl ?_
  refine aw_gR X hc_0 in_0 9 (by decide) LK_90 (fun _ _ _ _ h => h) d_S_comeToMarker_10 (h.mono (fun a10 h => ?_))
  refine aw_aload_n X 0 rfl d_S_comeToMarker_13 rfl ?_
  refine aw_gR X hc_0 in_0 6 (by decide) LK_107 (fun _ _ _ _ h => h) d_S_comeToMarker_14 (h.mono (fun a14 h => ?_))
  refine aw_gR X hc_3 in_3 0 (by decide) LK_290 (fun _ _ _ _ h => h) d_S_comeToMarker_17 (h.mono (fun a17 h => ?_))
  refine aw_iload_n X 1 rfl d_S_comeToMarker_20 rfl ?_
  refine aw_aload_n X 0 rfl d_S_comeToMarker_21 rfl ?_
  refine aw_gI X hc_0 in_0 0 (by decide) LK_64 (fun _ _ _ _ h => h) d_S_comeToMarker_22 (h.mono (fun a22 h => ?_))
  obtain ⟨⟨r25, f25, e25, g25⟩, h⟩ := h
  cases e25
  refine aw_cVv X [_, _, _] (fun ad hlv => t_B_copyPart l hlv h) (cwV 3 X.hts (gd_V LK_291 LK_292 LK_293 LK_27 LK_code_B_copyPart) rfl rfl rfl (by decide +kernel) ⟨(Nat.le_of_ble_eq_true rfl), (Nat.le_of_ble_eq_true rfl)⟩) ⟨6, f25, _, g25, hc_6, rfl⟩ rfl rfl (Nat.le_of_ble_eq_true rfl) d_S_comeToMarker_25 ⟨(Nat.le_of_ble_eq_true rfl), (Nat.le_of_ble_eq_true rfl)⟩ (fun M25 h => ?_)
  refine aw_aload_n X 0 rfl d_S_comeToMarker_28 rfl ?_
  refine aw_gR X hc_0 in_0 9 (by decide) LK_90 (fun _ _ _ _ h => h) d_S_comeToMarker_29 (h.mono (fun a29 h => ?_))
  refine aw_aload_n X 0 rfl d_S_comeToMarker_32 rfl ?_
  refine aw_gR X hc_0 in_0 6 (by decide) LK_107 (fun _ _ _ _ h => h) d_S_comeToMarker_33 (h.mono (fun a33 h => ?_))
  refine aw_gR X hc_3 in_3 0 (by decide) LK_290 (fun _ _ _ _ h => h) d_S_comeToMarker_36 (h.mono (fun a36 h => ?_))
  obtain ⟨⟨r39, f39, e39, g39⟩, h⟩ := h
  cases e39
  refine aw_cVv X [_] (fun ad hlv => t_B_copyCells l hlv h) (cwV 1 X.hts (gd_V LK_295 LK_262 LK_263 LK_27 LK_code_B_copyCells) rfl rfl rfl (by decide +kernel) ⟨(Nat.le_of_ble_eq_true rfl), (Nat.le_of_ble_eq_true rfl)⟩) ⟨6, f39, _, g39, hc_6, rfl⟩ rfl rfl (Nat.le_of_ble_eq_true rfl) d_S_comeToMarker_39 ⟨(Nat.le_of_ble_eq_true rfl), (Nat.le_of_ble_eq_true rfl)⟩ (fun M39 h => ?_)
  refine aw_aload_n X 0 rfl d_S_comeToMarker_42 rfl ?_
  refine aw_gR X hc_0 in_0 3 (by decide) LK_66 (fun _ _ _ _ h => h) d_S_comeToMarker_43 (h.mono (fun a43 h => ?_))
  refine aw_iload_n X 1 rfl d_S_comeToMarker_46 rfl ?_
  refine aw_lR X d_S_comeToMarker_47 (h.mono (fun a47 h => ?_))
  refine aw_aload_n X 0 rfl d_S_comeToMarker_48 rfl ?_
  refine aw_gR X hc_0 in_0 9 (by decide) LK_90 (fun _ _ _ _ h => h) d_S_comeToMarker_49 (h.mono (fun a49 h => ?_))
  refine aw_iload_n X 1 rfl d_S_comeToMarker_52 rfl ?_
  refine aw_aload_n X 0 rfl d_S_comeToMarker_53 rfl ?_
  refine aw_gI X hc_0 in_0 0 (by decide) LK_64 (fun _ _ _ _ h => h) d_S_comeToMarker_54 (h.mono (fun a54 h => ?_))
  obtain ⟨⟨r57, f57, e57, g57⟩, h⟩ := h
  cases e57
  refine aw_cVi X [_, _] (fun ad hlv => t_B_countPart l hlv h) (cwV 2 X.hts (gd_V LK_296 LK_297 LK_298 LK_27 LK_code_B_countPart) rfl rfl rfl (by decide +kernel) ⟨(Nat.le_of_ble_eq_true rfl), (Nat.le_of_ble_eq_true rfl)⟩) ⟨6, f57, _, g57, hc_6, rfl⟩ rfl rfl (Nat.le_of_ble_eq_true rfl) d_S_comeToMarker_57 ⟨(Nat.le_of_ble_eq_true rfl), (Nat.le_of_ble_eq_true rfl)⟩ (fun a57 M57 h => ?_)
  obtain ⟨⟨r60, f60, e60, g60⟩, h⟩ := h
  cases e60
  refine aw_cVv X [_] (fun ad hlv => t_Q_beginPart l hlv h) (cwV 1 X.hts (gd_V LK_300 LK_301 LK_302 LK_68 LK_code_Q_beginPart) rfl rfl rfl (by decide +kernel) ⟨(Nat.le_of_ble_eq_true rfl), (Nat.le_of_ble_eq_true rfl)⟩) ⟨4, f60, _, g60, hc_4, rfl⟩ rfl rfl (Nat.le_of_ble_eq_true rfl) d_S_comeToMarker_60 ⟨(Nat.le_of_ble_eq_true rfl), (Nat.le_of_ble_eq_true rfl)⟩ (fun M60 h => ?_)
  refine aw_aload_n X 0 rfl d_S_comeToMarker_63 rfl ?_
  obtain ⟨⟨r64, f64, e64, g64⟩, h⟩ := h
  cases e64
  refine aw_cVv X [] (fun ad hlv => t_S_completeSnapshotIfCopied l hlv h) (cwV 0 X.hts (gd_V LK_304 LK_305 LK_306 LK_122 LK_code_S_completeSnapshotIfCopied) rfl rfl rfl (by decide +kernel) ⟨(Nat.le_of_ble_eq_true rfl), (Nat.le_of_ble_eq_true rfl)⟩) ⟨0, f64, _, g64, hc_0, rfl⟩ rfl rfl (Nat.le_of_ble_eq_true rfl) d_S_comeToMarker_64 ⟨(Nat.le_of_ble_eq_true rfl), (Nat.le_of_ble_eq_true rfl)⟩ (fun M64 h => ?_)
  exact aw_vret X hr (Nat.le_of_ble_eq_true rfl) (Nat.le_of_ble_eq_true rfl) d_S_comeToMarker_67 h
end
theorem t_S_comeToMarker (l : Launch) {D : va_G} {dA : Nat → ClassId} {B : Nat} {zE : ZT} {M : wM} {ad : Ro → Nat} {post : wM → Prop} {x0 : Option Ro} {x1 : Int32} (hlv : lvS M [vR x0, vI x1]) (h : wp_S_comeToMarker post x0 x1 M) : Met l y_S_comeToMarker w_S_comeToMarker rm_S_comeToMarker (PA D dA B zE M ad [vR x0, vI x1]) (QV D dA B zE M ad post) 0 0 (wA B) :=
  AW_start [vR x0, vI x1] [(0, vR x0), (1, vI x1)] hlv (by decide +kernel) rfl (fun _ hw => List.mem_cons_of_mem _ hw) rfl (Nat.le_of_ble_eq_true rfl) (fun p e s m args below meth c X hr hin => sd_S_comeToMarker_0 X hr hin h)
abbrev rm_S_areAllStalled : Room := { frames := 0, cells := 0, slots := 0, locals := 0 }
section
variable {p : Program} {l : Launch} {e : Env} {s : State} {m : MethodId} {args : Array Value} {below : List Frame} {meth : Method} {c : Code} {D : va_G} {dA : Nat → ClassId} {B : Nat} {zE : ZT} {ad0 : Ro → Nat} {M0 : wM}
def wp_S_areAllStalled_10 (post : Int32 → wM → Prop) : Nat → Option Ro → Option Ro → Int32 → Int32 → wM → Prop
  | 0, _, _, _, _, _ => False
  | n + 1, x0, x1, x2, x3, M => (x2 ≤ x3 → post 1 M) ∧ (¬ x2 ≤ x3 → lR M x1 x3 (fun a17 => gI M a17 4 1 (fun a22 => (¬ a22 = 0 → wp_S_areAllStalled_10 post n x0 x1 x2 (x3 + 1) M) ∧ (a22 = 0 → post 0 M))))
set_option maxRecDepth 100000 in
set_option maxHeartbeats 4000000 in
theorem sd_S_areAllStalled_10 (X : Cx p s m args meth c b_S_areAllStalled 5 R_S TBL D dA B zE) (hr : meth.sig.returnType = (some .boolean)) (hin : meth.name = y_S_areAllStalled.name) {post : Int32 → wM → Prop} : ∀ (n : Nat) (x0 : Option Ro) (x1 : Option Ro) (x2 : Int32) (x3 : Int32) (M : wM), wp_S_areAllStalled_10 post n x0 x1 x2 x3 M → AW p l e (headSpec w_S_areAllStalled rm_S_areAllStalled).room s m args below meth c (MQ below (QI D dA B zE M0 ad0 post) args s 0 0 (wA B)) D dA B zE 5 ad0 M0 M 0 0 10 [(0, vR x0), (1, vR x1), (2, vI x2), (3, vI x3)] [] := by
  intro n
  induction n with
  | zero => intro x0 x1 x2 x3 M h; exact h.elim
  | succ n ih =>
    intro x0 x1 x2 x3 M h
    unfold wp_S_areAllStalled_10 at h
    refine aw_iload_n X 3 rfl d_S_areAllStalled_10 rfl ?_
    refine aw_iload_n X 2 rfl d_S_areAllStalled_11 rfl ?_
    refine aw_icmp_ge (tgt := 36) X d_S_areAllStalled_12 (by decide) (fun c => ?_) (fun c => ?_)
    · have h := h.1 c
      refine aw_iconst X (1) (by decide) d_S_areAllStalled_36 ?_
      exact aw_zret X hr (Or.inr rfl) (Nat.le_of_ble_eq_true rfl) (Nat.le_of_ble_eq_true rfl) d_S_areAllStalled_37 h
    · have h := h.2 c
      refine aw_aload_n X 1 rfl d_S_areAllStalled_15 rfl ?_
      refine aw_iload_n X 3 rfl d_S_areAllStalled_16 rfl ?_
      refine aw_lR X d_S_areAllStalled_17 (h.mono (fun a17 h => ?_))
      refine aw_astore (lvn := [(4, _), (0, _), (1, _), (2, _), (3, _)]) X d_S_areAllStalled_18 (by decide) rfl ?_
      refine aw_aload X 0 rfl d_S_areAllStalled_20 ?_
      refine aw_gI X hc_4 in_4 1 (by decide) LK_308 (fun _ _ _ _ h => h) d_S_areAllStalled_22 (h.mono (fun a22 h => ?_))
      refine aw_if_ne (tgt := 30) X d_S_areAllStalled_25 (by decide) (fun c => ?_) (fun c => ?_)
      · have h := h.1 c
        refine aw_iinc (y := x3 + 1) (lvn := [(3, _), (4, _), (0, _), (1, _), (2, _)]) X 4 rfl d_S_areAllStalled_30 rfl (by decide) rfl ?_
        refine aw_goto (tgt := 10) X d_S_areAllStalled_33 (by decide) ?_
        refine aw_lv [2, 3, 4, 0] rfl ?_
        exact ih _ _ _ _ _ h
      · have h := h.2 c
        refine aw_iconst X (0) (by decide) d_S_areAllStalled_28 ?_
        exact aw_zret X hr (Or.inl rfl) (Nat.le_of_ble_eq_true rfl) (Nat.le_of_ble_eq_true rfl) d_S_areAllStalled_29 h
def wp_S_areAllStalled (post : Int32 → wM → Prop) (x0 : Option Ro) (M : wM) : Prop := gR M x0 0 3 (fun a1 => aN M a1 (fun a6 => (∃ n, wp_S_areAllStalled_10 post n x0 a1 a6 0 M)))
set_option maxRecDepth 100000 in
set_option maxHeartbeats 4000000 in
theorem sd_S_areAllStalled_0 (X : Cx p s m args meth c b_S_areAllStalled 5 R_S TBL D dA B zE) (hr : meth.sig.returnType = (some .boolean)) (hin : meth.name = y_S_areAllStalled.name) {post : Int32 → wM → Prop} {x0 : Option Ro} {M : wM} (h : wp_S_areAllStalled post x0 M) : AW p l e (headSpec w_S_areAllStalled rm_S_areAllStalled).room s m args below meth c (MQ below (QI D dA B zE M0 ad0 post) args s 0 0 (wA B)) D dA B zE 5 ad0 M0 M 0 0 0 [(0, vR x0)] [] := by
  unfold wp_S_areAllStalled at h
  refine aw_aload_n X 0 rfl d_S_areAllStalled_0 rfl ?_
  refine aw_gR X hc_0 in_0 3 (by decide) LK_66 (fun _ _ _ _ h => h) d_S_areAllStalled_1 (h.mono (fun a1 h => ?_))
  refine aw_astore_n (lvn := [(1, _), (0, _)]) X d_S_areAllStalled_4 rfl (by decide) rfl ?_
  refine aw_aload_n X 0 rfl d_S_areAllStalled_5 rfl ?_
  refine aw_aN X d_S_areAllStalled_6 (h.mono (fun a6 h => ?_))
  refine aw_istore_n (lvn := [(2, _), (1, _), (0, _)]) X d_S_areAllStalled_7 rfl (by decide) rfl ?_
  refine aw_iconst X (0) (by decide) d_S_areAllStalled_8 ?_
  refine aw_istore_n (lvn := [(3, _), (2, _), (1, _), (0, _)]) X d_S_areAllStalled_9 rfl (by decide) rfl ?_
  refine aw_lv [3, 2, 1, 0] rfl ?_
  obtain ⟨n, h⟩ := h
  exact sd_S_areAllStalled_10 X hr hin n _ _ _ _ _ h
end
theorem t_S_areAllStalled (l : Launch) {D : va_G} {dA : Nat → ClassId} {B : Nat} {zE : ZT} {M : wM} {ad : Ro → Nat} {post : Int32 → wM → Prop} {x0 : Option Ro} (hlv : lvS M [vR x0]) (h : wp_S_areAllStalled post x0 M) : Met l y_S_areAllStalled w_S_areAllStalled rm_S_areAllStalled (PA D dA B zE M ad [vR x0]) (QI D dA B zE M ad post) 0 0 (wA B) :=
  AW_start [vR x0] [(0, vR x0)] hlv (by decide +kernel) rfl (fun _ hw => List.mem_cons_of_mem _ hw) rfl (Nat.le_of_ble_eq_true rfl) (fun p e s m args below meth c X hr hin => sd_S_areAllStalled_0 X hr hin h)
abbrev rm_S_passOnAtAllSites : Room := { frames := 4, cells := 0, slots := 0, locals := 126 }
section
variable {p : Program} {l : Launch} {e : Env} {s : State} {m : MethodId} {args : Array Value} {below : List Frame} {meth : Method} {c : Code} {D : va_G} {dA : Nat → ClassId} {B : Nat} {zE : ZT} {ad0 : Ro → Nat} {M0 : wM}
def wp_S_passOnAtAllSites_10 (post : wM → Prop) : Nat → Option Ro → Option Ro → Int32 → Int32 → wM → Prop
  | 0, _, _, _, _, _ => False
  | n + 1, x0, x1, x2, x3, M => (x2 ≤ x3 → post M) ∧ (¬ x2 ≤ x3 → lR M x1 x3 (fun a17 => cV M a17 4 (wp_Q_passOn (fun M22 => wp_S_passOnAtAllSites_10 post n x0 x1 x2 (x3 + 1) M22) a17 M)))
set_option maxRecDepth 100000 in
set_option maxHeartbeats 4000000 in
theorem sd_S_passOnAtAllSites_10 (X : Cx p s m args meth c b_S_passOnAtAllSites 5 R_S TBL D dA B zE) (hr : meth.sig.returnType = none) (hin : meth.name = y_S_passOnAtAllSites.name) {post : wM → Prop} : ∀ (n : Nat) (x0 : Option Ro) (x1 : Option Ro) (x2 : Int32) (x3 : Int32) (M : wM), wp_S_passOnAtAllSites_10 post n x0 x1 x2 x3 M → AW p l e (headSpec w_S_passOnAtAllSites rm_S_passOnAtAllSites).room s m args below meth c (MQ below (QV D dA B zE M0 ad0 post) args s 0 0 (wA B)) D dA B zE 5 ad0 M0 M 0 0 10 [(0, vR x0), (1, vR x1), (2, vI x2), (3, vI x3)] [] := by
  intro n
  induction n with
  | zero => intro x0 x1 x2 x3 M h; exact h.elim
  | succ n ih =>
    intro x0 x1 x2 x3 M h
    unfold wp_S_passOnAtAllSites_10 at h
    refine aw_iload_n X 3 rfl d_S_passOnAtAllSites_10 rfl ?_
    refine aw_iload_n X 2 rfl d_S_passOnAtAllSites_11 rfl ?_
    refine aw_icmp_ge (tgt := 31) X d_S_passOnAtAllSites_12 (by decide) (fun c => ?_) (fun c => ?_)
    · have h := h.1 c
      exact aw_vret X hr (Nat.le_of_ble_eq_true rfl) (Nat.le_of_ble_eq_true rfl) d_S_passOnAtAllSites_31 h
    · have h := h.2 c
      refine aw_aload_n X 1 rfl d_S_passOnAtAllSites_15 rfl ?_
      refine aw_iload_n X 3 rfl d_S_passOnAtAllSites_16 rfl ?_
      refine aw_lR X d_S_passOnAtAllSites_17 (h.mono (fun a17 h => ?_))
      refine aw_astore (lvn := [(4, _), (0, _), (1, _), (2, _), (3, _)]) X d_S_passOnAtAllSites_18 (by decide) rfl ?_
      refine aw_aload X 0 rfl d_S_passOnAtAllSites_20 ?_
      obtain ⟨⟨r22, f22, e22, g22⟩, h⟩ := h
      cases e22
      refine aw_cVv X [] (fun ad hlv => t_Q_passOn l hlv h) (cwV 0 X.hts (gd_V LK_286 LK_287 LK_288 LK_68 LK_code_Q_passOn) rfl rfl rfl (by decide +kernel) ⟨(Nat.le_of_ble_eq_true rfl), (Nat.le_of_ble_eq_true rfl)⟩) ⟨4, f22, _, g22, hc_4, rfl⟩ rfl rfl (Nat.le_of_ble_eq_true rfl) d_S_passOnAtAllSites_22 ⟨(Nat.le_of_ble_eq_true rfl), (Nat.le_of_ble_eq_true rfl)⟩ (fun M22 h => ?_)
      refine aw_iinc (y := x3 + 1) (lvn := [(3, _), (4, _), (0, _), (1, _), (2, _)]) X 4 rfl d_S_passOnAtAllSites_25 rfl (by decide) rfl ?_
      refine aw_goto (tgt := 10) X d_S_passOnAtAllSites_28 (by decide) ?_
      refine aw_lv [2, 3, 4, 0] rfl ?_
      exact ih _ _ _ _ _ h
def wp_S_passOnAtAllSites (post : wM → Prop) (x0 : Option Ro) (M : wM) : Prop := gR M x0 0 3 (fun a1 => aN M a1 (fun a6 => (∃ n, wp_S_passOnAtAllSites_10 post n x0 a1 a6 0 M)))
set_option maxRecDepth 100000 in
set_option maxHeartbeats 4000000 in
theorem sd_S_passOnAtAllSites_0 (X : Cx p s m args meth c b_S_passOnAtAllSites 5 R_S TBL D dA B zE) (hr : meth.sig.returnType = none) (hin : meth.name = y_S_passOnAtAllSites.name) {post : wM → Prop} {x0 : Option Ro} {M : wM} (h : wp_S_passOnAtAllSites post x0 M) : AW p l e (headSpec w_S_passOnAtAllSites rm_S_passOnAtAllSites).room s m args below meth c (MQ below (QV D dA B zE M0 ad0 post) args s 0 0 (wA B)) D dA B zE 5 ad0 M0 M 0 0 0 [(0, vR x0)] [] := by
  unfold wp_S_passOnAtAllSites at h
  refine aw_aload_n X 0 rfl d_S_passOnAtAllSites_0 rfl ?_
  refine aw_gR X hc_0 in_0 3 (by decide) LK_66 (fun _ _ _ _ h => h) d_S_passOnAtAllSites_1 (h.mono (fun a1 h => ?_))
  refine aw_astore_n (lvn := [(1, _), (0, _)]) X d_S_passOnAtAllSites_4 rfl (by decide) rfl ?_
  refine aw_aload_n X 0 rfl d_S_passOnAtAllSites_5 rfl ?_
  refine aw_aN X d_S_passOnAtAllSites_6 (h.mono (fun a6 h => ?_))
  refine aw_istore_n (lvn := [(2, _), (1, _), (0, _)]) X d_S_passOnAtAllSites_7 rfl (by decide) rfl ?_
  refine aw_iconst X (0) (by decide) d_S_passOnAtAllSites_8 ?_
  refine aw_istore_n (lvn := [(3, _), (2, _), (1, _), (0, _)]) X d_S_passOnAtAllSites_9 rfl (by decide) rfl ?_
  refine aw_lv [3, 2, 1, 0] rfl ?_
  obtain ⟨n, h⟩ := h
  exact sd_S_passOnAtAllSites_10 X hr hin n _ _ _ _ _ h
end
theorem t_S_passOnAtAllSites (l : Launch) {D : va_G} {dA : Nat → ClassId} {B : Nat} {zE : ZT} {M : wM} {ad : Ro → Nat} {post : wM → Prop} {x0 : Option Ro} (hlv : lvS M [vR x0]) (h : wp_S_passOnAtAllSites post x0 M) : Met l y_S_passOnAtAllSites w_S_passOnAtAllSites rm_S_passOnAtAllSites (PA D dA B zE M ad [vR x0]) (QV D dA B zE M ad post) 0 0 (wA B) :=
  AW_start [vR x0] [(0, vR x0)] hlv (by decide +kernel) rfl (fun _ hw => List.mem_cons_of_mem _ hw) rfl (Nat.le_of_ble_eq_true rfl) (fun p e s m args below meth c X hr hin => sd_S_passOnAtAllSites_0 X hr hin h)
abbrev rm_Ar_fill1 : Room := { frames := 0, cells := 0, slots := 0, locals := 0 }
section
variable {p : Program} {l : Launch} {e : Env} {s : State} {m : MethodId} {args : Array Value} {below : List Frame} {meth : Method} {c : Code} {D : va_G} {dA : Nat → ClassId} {B : Nat} {zE : ZT} {ad0 : Ro → Nat} {M0 : wM}
def wp_Ar_fill1_5 (post : wM → Prop) : Nat → Option Ro → Int32 → Int32 → Int32 → wM → Prop
  | 0, _, _, _, _, _ => False
  | n + 1, x0, x1, x2, x3, M => (x3 ≤ x2 → post M) ∧ (¬ x3 ≤ x2 → sI M x0 x2 x1 (fun M13 => wp_Ar_fill1_5 post n x0 x1 (x2 + 1) x3 M13))
set_option maxRecDepth 100000 in
set_option maxHeartbeats 4000000 in
theorem sd_Ar_fill1_5 (X : Cx p s m args meth c b_Ar_fill1 4 R_Ar TBL D dA B zE) (hr : meth.sig.returnType = none) (hin : meth.name = y_Ar_fill1.name) {post : wM → Prop} : ∀ (n : Nat) (x0 : Option Ro) (x1 : Int32) (x2 : Int32) (x3 : Int32) (M : wM), wp_Ar_fill1_5 post n x0 x1 x2 x3 M → AW p l e (headSpec w_Ar_fill1 rm_Ar_fill1).room s m args below meth c (MQ below (QV D dA B zE M0 ad0 post) args s 0 0 (wA B)) D dA B zE 4 ad0 M0 M 0 0 5 [(0, vR x0), (1, vI x1), (2, vI x2), (3, vI x3)] [] := by
  intro n
  induction n with
  | zero => intro x0 x1 x2 x3 M h; exact h.elim
  | succ n ih =>
    intro x0 x1 x2 x3 M h
    unfold wp_Ar_fill1_5 at h
    refine aw_iload_n X 2 rfl d_Ar_fill1_5 rfl ?_
    refine aw_iload_n X 3 rfl d_Ar_fill1_6 rfl ?_
    refine aw_icmp_ge (tgt := 20) X d_Ar_fill1_7 (by decide) (fun c => ?_) (fun c => ?_)
    · have h := h.1 c
      exact aw_vret X hr (Nat.le_of_ble_eq_true rfl) (Nat.le_of_ble_eq_true rfl) d_Ar_fill1_20 h
    · have h := h.2 c
      refine aw_aload_n X 0 rfl d_Ar_fill1_10 rfl ?_
      refine aw_iload_n X 2 rfl d_Ar_fill1_11 rfl ?_
      refine aw_iload_n X 1 rfl d_Ar_fill1_12 rfl ?_
      refine aw_sI X d_Ar_fill1_13 (h.mono (fun M13 h => ?_))
      refine aw_iinc (y := x2 + 1) (lvn := [(2, _), (0, _), (1, _), (3, _)]) X 2 rfl d_Ar_fill1_14 rfl (by decide) rfl ?_
      refine aw_goto (tgt := 5) X d_Ar_fill1_17 (by decide) ?_
      refine aw_lv [1, 2, 0, 3] rfl ?_
      exact ih _ _ _ _ _ h
def wp_Ar_fill1 (post : wM → Prop) (x0 : Option Ro) (x1 : Int32) (M : wM) : Prop := aN M x0 (fun a3 => (∃ n, wp_Ar_fill1_5 post n x0 x1 0 a3 M))
set_option maxRecDepth 100000 in
set_option maxHeartbeats 4000000 in
theorem sd_Ar_fill1_0 (X : Cx p s m args meth c b_Ar_fill1 4 R_Ar TBL D dA B zE) (hr : meth.sig.returnType = none) (hin : meth.name = y_Ar_fill1.name) {post : wM → Prop} {x0 : Option Ro} {x1 : Int32} {M : wM} (h : wp_Ar_fill1 post x0 x1 M) : AW p l e (headSpec w_Ar_fill1 rm_Ar_fill1).room s m args below meth c (MQ below (QV D dA B zE M0 ad0 post) args s 0 0 (wA B)) D dA B zE 4 ad0 M0 M 0 0 0 [(0, vR x0), (1, vI x1)] [] := by
  unfold wp_Ar_fill1 at h
  refine aw_iconst X (0) (by decide) d_Ar_fill1_0 ?_
  refine aw_istore_n (lvn := [(2, _), (0, _), (1, _)]) X d_Ar_fill1_1 rfl (by decide) rfl ?_
  refine aw_aload_n X 1 rfl d_Ar_fill1_2 rfl ?_
  refine aw_aN X d_Ar_fill1_3 (h.mono (fun a3 h => ?_))
  refine aw_istore_n (lvn := [(3, _), (2, _), (0, _), (1, _)]) X d_Ar_fill1_4 rfl (by decide) rfl ?_
  refine aw_lv [2, 3, 1, 0] rfl ?_
  obtain ⟨n, h⟩ := h
  exact sd_Ar_fill1_5 X hr hin n _ _ _ _ _ h
end
theorem t_Ar_fill1 (l : Launch) {D : va_G} {dA : Nat → ClassId} {B : Nat} {zE : ZT} {M : wM} {ad : Ro → Nat} {post : wM → Prop} {x0 : Option Ro} {x1 : Int32} (hlv : lvS M [vR x0, vI x1]) (h : wp_Ar_fill1 post x0 x1 M) : Met l y_Ar_fill1 w_Ar_fill1 rm_Ar_fill1 (PA D dA B zE M ad [vR x0, vI x1]) (QV D dA B zE M ad post) 0 0 (wA B) :=
  AW_start [vR x0, vI x1] [(0, vR x0), (1, vI x1)] hlv (by decide +kernel) rfl (fun _ hw => List.mem_cons_of_mem _ hw) rfl (Nat.le_of_ble_eq_true rfl) (fun p e s m args below meth c X hr hin => sd_Ar_fill1_0 X hr hin h)
abbrev rm_R_begin : Room := { frames := 3, cells := 0, slots := 0, locals := 102 }
section
variable {p : Program} {l : Launch} {e : Env} {s : State} {m : MethodId} {args : Array Value} {below : List Frame} {meth : Method} {c : Code} {D : va_G} {dA : Nat → ClassId} {B : Nat} {zE : ZT} {ad0 : Ro → Nat} {M0 : wM}
def wp_R_begin_34 (post : wM → Prop) (x0 : Option Ro) (x1 : Option Ro) (s0 : Int32) (s1 : Option Ro) (M : wM) : Prop := pF M s1 3 4 (vI s0) (fun M34 => gR M34 x0 3 3 (fun a38 => wp_Ar_fill1 (fun M42 => gR M42 x0 3 3 (fun a46 => gI M42 x1 7 3 (fun a51 => sI M42 a46 0 a51 (fun M54 => gR M54 x0 3 3 (fun a56 => gI M54 x1 7 4 (fun a61 => sI M54 a56 1 a61 (fun M64 => gR M64 x0 3 3 (fun a66 => gI M64 x1 7 5 (fun a71 => sI M64 a66 2 a71 (fun M74 => pF M74 x0 3 6 (vI 0) (fun M77 => post M77))))))))))) a38 0 M34))
set_option maxRecDepth 100000 in
set_option maxHeartbeats 4000000 in
theorem sd_R_begin_34 (X : Cx p s m args meth c b_R_begin 2 R_R TBL D dA B zE) (hr : meth.sig.returnType = none) (hin : meth.name = y_R_begin.name) {post : wM → Prop} {x0 : Option Ro} {x1 : Option Ro} {s0 : Int32} {s1 : Option Ro} {M : wM} (h : wp_R_begin_34 post x0 x1 s0 s1 M) : AW p l e (headSpec w_R_begin rm_R_begin).room s m args below meth c (MQ below (QV D dA B zE M0 ad0 post) args s 0 0 (wA B)) D dA B zE 2 ad0 M0 M 0 0 34 [(0, vR x0), (1, vR x1)] [vI s0, vR s1] := by
  unfold wp_R_begin_34 at h
  refine aw_pF (ty := .int) X hc_3 in_3 4 (by decide) ty_3 tyok_3 nm_3 LK_34 (fun _ _ _ _ h => h) rfl (by decide +kernel) (fun _ => ⟨rfl, rfl⟩) d_R_begin_34 (h.mono (fun M34 h => ?_))
  refine aw_aload_n X 0 rfl d_R_begin_37 rfl ?_
  refine aw_gR X hc_3 in_3 3 (by decide) LK_33 (fun _ _ _ _ h => h) d_R_begin_38 (h.mono (fun a38 h => ?_))
  refine aw_iconst X (0) (by decide) d_R_begin_41 ?_
  refine aw_cSv X [_, _] (fun ad hlv => t_Ar_fill1 l hlv h) (va_cwS 2 X.hts (gd_S2 LK_309 LK_310 LK_22 LK_code_Ar_fill1) rfl rfl rfl (by decide +kernel) ⟨(Nat.le_of_ble_eq_true rfl), (Nat.le_of_ble_eq_true rfl)⟩) rfl rfl (Nat.le_of_ble_eq_true rfl) d_R_begin_42 ⟨(Nat.le_of_ble_eq_true rfl), (Nat.le_of_ble_eq_true rfl)⟩ (fun M42 h => ?_)
  refine aw_aload_n X 0 rfl d_R_begin_45 rfl ?_
  refine aw_gR X hc_3 in_3 3 (by decide) LK_33 (fun _ _ _ _ h => h) d_R_begin_46 (h.mono (fun a46 h => ?_))
  refine aw_iconst X (0) (by decide) d_R_begin_49 ?_
  refine aw_aload_n X 1 rfl d_R_begin_50 rfl ?_
  refine aw_gI X hc_7 in_7 3 (by decide) LK_312 (fun _ _ _ _ h => h) d_R_begin_51 (h.mono (fun a51 h => ?_))
  refine aw_sI X d_R_begin_54 (h.mono (fun M54 h => ?_))
  refine aw_aload_n X 0 rfl d_R_begin_55 rfl ?_
  refine aw_gR X hc_3 in_3 3 (by decide) LK_33 (fun _ _ _ _ h => h) d_R_begin_56 (h.mono (fun a56 h => ?_))
  refine aw_iconst X (1) (by decide) d_R_begin_59 ?_
  refine aw_aload_n X 1 rfl d_R_begin_60 rfl ?_
  refine aw_gI X hc_7 in_7 4 (by decide) LK_313 (fun _ _ _ _ h => h) d_R_begin_61 (h.mono (fun a61 h => ?_))
  refine aw_sI X d_R_begin_64 (h.mono (fun M64 h => ?_))
  refine aw_aload_n X 0 rfl d_R_begin_65 rfl ?_
  refine aw_gR X hc_3 in_3 3 (by decide) LK_33 (fun _ _ _ _ h => h) d_R_begin_66 (h.mono (fun a66 h => ?_))
  refine aw_iconst X (2) (by decide) d_R_begin_69 ?_
  refine aw_aload_n X 1 rfl d_R_begin_70 rfl ?_
  refine aw_gI X hc_7 in_7 5 (by decide) LK_314 (fun _ _ _ _ h => h) d_R_begin_71 (h.mono (fun a71 h => ?_))
  refine aw_sI X d_R_begin_74 (h.mono (fun M74 h => ?_))
  refine aw_aload_n X 0 rfl d_R_begin_75 rfl ?_
  refine aw_iconst X (0) (by decide) d_R_begin_76 ?_
  refine aw_pF (ty := .int) X hc_3 in_3 6 (by decide) ty_3 tyok_3 nm_3 LK_36 (fun _ _ _ _ h => h) rfl (by decide +kernel) (fun _ => ⟨rfl, rfl⟩) d_R_begin_77 (h.mono (fun M77 h => ?_))
  exact aw_vret X hr (Nat.le_of_ble_eq_true rfl) (Nat.le_of_ble_eq_true rfl) d_R_begin_80 h
def wp_R_begin (post : wM → Prop) (x0 : Option Ro) (x1 : Option Ro) (M : wM) : Prop := gR M x0 3 2 (fun a1 => gR M x0 3 0 (fun a5 => cV M a1 6 (wp_B_copyFrom (fun M8 => gR M8 x1 7 2 (fun a13 => gI M8 a13 2 1 (fun a16 => (a16 = 0 → gI M8 x0 3 1 (fun a28 => cV M8 x1 7 (wp_K_home (fun a31 M31 => wp_R_begin_34 post x0 x1 a31 x0 M31) x1 a28 M8))) ∧ (¬ a16 = 0 → wp_R_begin_34 post x0 x1 (-1) x0 M8)))) a1 a5 M)))
set_option maxRecDepth 100000 in
set_option maxHeartbeats 4000000 in
theorem sd_R_begin_0 (X : Cx p s m args meth c b_R_begin 2 R_R TBL D dA B zE) (hr : meth.sig.returnType = none) (hin : meth.name = y_R_begin.name) {post : wM → Prop} {x0 : Option Ro} {x1 : Option Ro} {M : wM} (h : wp_R_begin post x0 x1 M) : AW p l e (headSpec w_R_begin rm_R_begin).room s m args below meth c (MQ below (QV D dA B zE M0 ad0 post) args s 0 0 (wA B)) D dA B zE 2 ad0 M0 M 0 0 0 [(0, vR x0), (1, vR x1)] [] := by
  unfold wp_R_begin at h
  refine aw_aload_n X 0 rfl d_R_begin_0 rfl ?_
  refine aw_gR X hc_3 in_3 2 (by decide) LK_32 (fun _ _ _ _ h => h) d_R_begin_1 (h.mono (fun a1 h => ?_))
  refine aw_aload_n X 0 rfl d_R_begin_4 rfl ?_
  refine aw_gR X hc_3 in_3 0 (by decide) LK_31 (fun _ _ _ _ h => h) d_R_begin_5 (h.mono (fun a5 h => ?_))
  obtain ⟨⟨r8, f8, e8, g8⟩, h⟩ := h
  cases e8
  refine aw_cVv X [_] (fun ad hlv => t_B_copyFrom l hlv h) (cwV 1 X.hts (gd_V LK_315 LK_273 LK_274 LK_27 LK_code_B_copyFrom) rfl rfl rfl (by decide +kernel) ⟨(Nat.le_of_ble_eq_true rfl), (Nat.le_of_ble_eq_true rfl)⟩) ⟨6, f8, _, g8, hc_6, rfl⟩ rfl rfl (Nat.le_of_ble_eq_true rfl) d_R_begin_8 ⟨(Nat.le_of_ble_eq_true rfl), (Nat.le_of_ble_eq_true rfl)⟩ (fun M8 h => ?_)
  refine aw_aload_n X 0 rfl d_R_begin_11 rfl ?_
  refine aw_aload_n X 1 rfl d_R_begin_12 rfl ?_
  refine aw_gR X hc_7 in_7 2 (by decide) LK_316 (fun _ _ _ _ h => h) d_R_begin_13 (h.mono (fun a13 h => ?_))
  refine aw_gI X hc_2 in_2 1 (by decide) LK_317 (fun _ _ _ _ h => h) d_R_begin_16 (h.mono (fun a16 h => ?_))
  refine aw_if_eq (tgt := 26) X d_R_begin_19 (by decide) (fun c => ?_) (fun c => ?_)
  · have h := h.1 c
    refine aw_aload_n X 1 rfl d_R_begin_26 rfl ?_
    refine aw_aload_n X 0 rfl d_R_begin_27 rfl ?_
    refine aw_gI X hc_3 in_3 1 (by decide) LK_38 (fun _ _ _ _ h => h) d_R_begin_28 (h.mono (fun a28 h => ?_))
    obtain ⟨⟨r31, f31, e31, g31⟩, h⟩ := h
    cases e31
    refine aw_cVi X [_] (fun ad hlv => t_K_home l hlv h) (cwV 1 X.hts (gd_V LK_318 LK_238 LK_239 LK_227 LK_code_K_home) rfl rfl rfl (by decide +kernel) ⟨(Nat.le_of_ble_eq_true rfl), (Nat.le_of_ble_eq_true rfl)⟩) ⟨7, f31, _, g31, hc_7, rfl⟩ rfl rfl (Nat.le_of_ble_eq_true rfl) d_R_begin_31 ⟨(Nat.le_of_ble_eq_true rfl), (Nat.le_of_ble_eq_true rfl)⟩ (fun a31 M31 h => ?_)
    exact sd_R_begin_34 X hr hin h
  · have h := h.2 c
    refine aw_iconst X (-1) (by decide) d_R_begin_22 ?_
    refine aw_goto (tgt := 34) X d_R_begin_23 (by decide) ?_
    exact sd_R_begin_34 X hr hin h
end
theorem t_R_begin (l : Launch) {D : va_G} {dA : Nat → ClassId} {B : Nat} {zE : ZT} {M : wM} {ad : Ro → Nat} {post : wM → Prop} {x0 : Option Ro} {x1 : Option Ro} (hlv : lvS M [vR x0, vR x1]) (h : wp_R_begin post x0 x1 M) : Met l y_R_begin w_R_begin rm_R_begin (PA D dA B zE M ad [vR x0, vR x1]) (QV D dA B zE M ad post) 0 0 (wA B) :=
  AW_start [vR x0, vR x1] [(0, vR x0), (1, vR x1)] hlv (by decide +kernel) rfl (fun _ hw => List.mem_cons_of_mem _ hw) rfl (Nat.le_of_ble_eq_true rfl) (fun p e s m args below meth c X hr hin => sd_R_begin_0 X hr hin h)
abbrev rm_R_isReachable : Room := { frames := 0, cells := 0, slots := 0, locals := 0 }
section
variable {p : Program} {l : Launch} {e : Env} {s : State} {m : MethodId} {args : Array Value} {below : List Frame} {meth : Method} {c : Code} {D : va_G} {dA : Nat → ClassId} {B : Nat} {zE : ZT} {ad0 : Ro → Nat} {M0 : wM}
def wp_R_isReachable_36 (post : Int32 → wM → Prop) (x0 : Option Ro) (x1 : Int32) (s0 : Int32) (M : wM) : Prop := (s0 = 0 ∨ s0 = 1) ∧ post s0 M
set_option maxRecDepth 100000 in
set_option maxHeartbeats 4000000 in
theorem sd_R_isReachable_36 (X : Cx p s m args meth c b_R_isReachable 2 R_R TBL D dA B zE) (hr : meth.sig.returnType = (some .boolean)) (hin : meth.name = y_R_isReachable.name) {post : Int32 → wM → Prop} {x0 : Option Ro} {x1 : Int32} {s0 : Int32} {M : wM} (h : wp_R_isReachable_36 post x0 x1 s0 M) : AW p l e (headSpec w_R_isReachable rm_R_isReachable).room s m args below meth c (MQ below (QI D dA B zE M0 ad0 post) args s 0 0 (wA B)) D dA B zE 2 ad0 M0 M 0 0 36 [(0, vR x0), (1, vI x1)] [vI s0] := by
  unfold wp_R_isReachable_36 at h
  exact aw_zret X hr h.1 (Nat.le_of_ble_eq_true rfl) (Nat.le_of_ble_eq_true rfl) d_R_isReachable_36 h.2
def wp_R_isReachable_35 (post : Int32 → wM → Prop) (x0 : Option Ro) (x1 : Int32) (M : wM) : Prop := wp_R_isReachable_36 post x0 x1 0 M
set_option maxRecDepth 100000 in
set_option maxHeartbeats 4000000 in
theorem sd_R_isReachable_35 (X : Cx p s m args meth c b_R_isReachable 2 R_R TBL D dA B zE) (hr : meth.sig.returnType = (some .boolean)) (hin : meth.name = y_R_isReachable.name) {post : Int32 → wM → Prop} {x0 : Option Ro} {x1 : Int32} {M : wM} (h : wp_R_isReachable_35 post x0 x1 M) : AW p l e (headSpec w_R_isReachable rm_R_isReachable).room s m args below meth c (MQ below (QI D dA B zE M0 ad0 post) args s 0 0 (wA B)) D dA B zE 2 ad0 M0 M 0 0 35 [(0, vR x0), (1, vI x1)] [] := by
  unfold wp_R_isReachable_35 at h
  refine aw_iconst X (0) (by decide) d_R_isReachable_35 ?_
  exact sd_R_isReachable_36 X hr hin h
def wp_R_isReachable_31 (post : Int32 → wM → Prop) (x0 : Option Ro) (x1 : Int32) (M : wM) : Prop := wp_R_isReachable_36 post x0 x1 1 M
set_option maxRecDepth 100000 in
set_option maxHeartbeats 4000000 in
theorem sd_R_isReachable_31 (X : Cx p s m args meth c b_R_isReachable 2 R_R TBL D dA B zE) (hr : meth.sig.returnType = (some .boolean)) (hin : meth.name = y_R_isReachable.name) {post : Int32 → wM → Prop} {x0 : Option Ro} {x1 : Int32} {M : wM} (h : wp_R_isReachable_31 post x0 x1 M) : AW p l e (headSpec w_R_isReachable rm_R_isReachable).room s m args below meth c (MQ below (QI D dA B zE M0 ad0 post) args s 0 0 (wA B)) D dA B zE 2 ad0 M0 M 0 0 31 [(0, vR x0), (1, vI x1)] [] := by
  unfold wp_R_isReachable_31 at h
  refine aw_iconst X (1) (by decide) d_R_isReachable_31 ?_
  refine aw_goto (tgt := 36) X d_R_isReachable_32 (by decide) ?_
  exact sd_R_isReachable_36 X hr hin h
def wp_R_isReachable (post : Int32 → wM → Prop) (x0 : Option Ro) (x1 : Int32) (M : wM) : Prop := (x1 < 0 → wp_R_isReachable_35 post x0 x1 M) ∧ (¬ x1 < 0 → ((32 : Int32) ≤ x1 → wp_R_isReachable_35 post x0 x1 M) ∧ (¬ (32 : Int32) ≤ x1 → gI M x0 3 4 (fun a11 => (a11 = ((-1) : Int32) → wp_R_isReachable_31 post x0 x1 M) ∧ (¬ a11 = ((-1) : Int32) → gI M x0 3 1 (fun a20 => (¬ a20 = 0) ∧ (gI M x0 3 4 (fun a25 => (¬ (x1 - x1 / a20 * a20) = a25 → wp_R_isReachable_35 post x0 x1 M) ∧ ((x1 - x1 / a20 * a20) = a25 → wp_R_isReachable_31 post x0 x1 M))))))))
set_option maxRecDepth 100000 in
set_option maxHeartbeats 4000000 in
theorem sd_R_isReachable_0 (X : Cx p s m args meth c b_R_isReachable 2 R_R TBL D dA B zE) (hr : meth.sig.returnType = (some .boolean)) (hin : meth.name = y_R_isReachable.name) {post : Int32 → wM → Prop} {x0 : Option Ro} {x1 : Int32} {M : wM} (h : wp_R_isReachable post x0 x1 M) : AW p l e (headSpec w_R_isReachable rm_R_isReachable).room s m args below meth c (MQ below (QI D dA B zE M0 ad0 post) args s 0 0 (wA B)) D dA B zE 2 ad0 M0 M 0 0 0 [(0, vR x0), (1, vI x1)] [] := by
  unfold wp_R_isReachable at h
  refine aw_iload_n X 1 rfl d_R_isReachable_0 rfl ?_
  refine aw_if_lt (tgt := 35) X d_R_isReachable_1 (by decide) (fun c => ?_) (fun c => ?_)
  · have h := h.1 c
    exact sd_R_isReachable_35 X hr hin h
  · have h := h.2 c
    refine aw_iload_n X 1 rfl d_R_isReachable_4 rfl ?_
    refine aw_bipush X (32) (by decide) d_R_isReachable_5 ?_
    refine aw_icmp_ge (tgt := 35) X d_R_isReachable_7 (by decide) (fun c => ?_) (fun c => ?_)
    · have h := h.1 c
      exact sd_R_isReachable_35 X hr hin h
    · have h := h.2 c
      refine aw_aload_n X 0 rfl d_R_isReachable_10 rfl ?_
      refine aw_gI X hc_3 in_3 4 (by decide) LK_34 (fun _ _ _ _ h => h) d_R_isReachable_11 (h.mono (fun a11 h => ?_))
      refine aw_iconst X (-1) (by decide) d_R_isReachable_14 ?_
      refine aw_icmp_eq (tgt := 31) X d_R_isReachable_15 (by decide) (fun c => ?_) (fun c => ?_)
      · have h := h.1 c
        exact sd_R_isReachable_31 X hr hin h
      · have h := h.2 c
        refine aw_iload_n X 1 rfl d_R_isReachable_18 rfl ?_
        refine aw_aload_n X 0 rfl d_R_isReachable_19 rfl ?_
        refine aw_gI X hc_3 in_3 1 (by decide) LK_38 (fun _ _ _ _ h => h) d_R_isReachable_20 (h.mono (fun a20 h => ?_))
        refine aw_irem X h.1 d_R_isReachable_23 ?_
        have h := h.2
        refine aw_aload_n X 0 rfl d_R_isReachable_24 rfl ?_
        refine aw_gI X hc_3 in_3 4 (by decide) LK_34 (fun _ _ _ _ h => h) d_R_isReachable_25 (h.mono (fun a25 h => ?_))
        refine aw_icmp_ne (tgt := 35) X d_R_isReachable_28 (by decide) (fun c => ?_) (fun c => ?_)
        · have h := h.1 c
          exact sd_R_isReachable_35 X hr hin h
        · have h := h.2 c
          exact sd_R_isReachable_31 X hr hin h
end
theorem t_R_isReachable (l : Launch) {D : va_G} {dA : Nat → ClassId} {B : Nat} {zE : ZT} {M : wM} {ad : Ro → Nat} {post : Int32 → wM → Prop} {x0 : Option Ro} {x1 : Int32} (hlv : lvS M [vR x0, vI x1]) (h : wp_R_isReachable post x0 x1 M) : Met l y_R_isReachable w_R_isReachable rm_R_isReachable (PA D dA B zE M ad [vR x0, vI x1]) (QI D dA B zE M ad post) 0 0 (wA B) :=
  AW_start [vR x0, vI x1] [(0, vR x0), (1, vI x1)] hlv (by decide +kernel) rfl (fun _ hw => List.mem_cons_of_mem _ hw) rfl (Nat.le_of_ble_eq_true rfl) (fun p e s m args below meth c X hr hin => sd_R_isReachable_0 X hr hin h)
