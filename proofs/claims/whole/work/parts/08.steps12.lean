abbrev rm_M_rows : Room := { frames := 1, cells := 0, slots := 0, locals := 23 }
section
variable {p : Program} {l : Launch} {e : Env} {s : State} {m : MethodId} {args : Array Value} {below : List Frame} {meth : Method} {c : Code} {D : va_G} {dA : Nat → ClassId} {B : Nat} {zE : ZT} {ad0 : Ro → Nat} {M0 : wM}
def wp_M_rows_20 (post : Int32 → wM → Prop) (x0 : Option Ro) (x1 : Int32) (s0 : Int32) (M : wM) : Prop := post s0 M
set_option maxRecDepth 100000 in
set_option maxHeartbeats 4000000 in
theorem sd_M_rows_20 (X : Cx p s m args meth c b_M_rows 2 R_M TBL D dA B zE) (hr : meth.sig.returnType = (some .int)) (hin : meth.name = y_M_rows.name) {post : Int32 → wM → Prop} {x0 : Option Ro} {x1 : Int32} {s0 : Int32} {M : wM} (h : wp_M_rows_20 post x0 x1 s0 M) : AW p l e (headSpec w_M_rows rm_M_rows).room s m args below meth c (MQ below (QI D dA B zE M0 ad0 post) args s 0 0 (wA B)) D dA B zE 2 ad0 M0 M 0 0 20 [(0, vR x0), (1, vI x1)] [vI s0] := by
  unfold wp_M_rows_20 at h
  exact aw_iret X hr (Nat.le_of_ble_eq_true rfl) (Nat.le_of_ble_eq_true rfl) d_M_rows_20 h
def wp_M_rows (post : Int32 → wM → Prop) (x0 : Option Ro) (x1 : Int32) (M : wM) : Prop := gI M x0 9 0 (fun a2 => wp_M_outside (fun a5 M5 => (a5 = 0 → cV M5 x0 9 (wp_M_rowsOf (fun a17 M17 => wp_M_rows_20 post x0 x1 a17 M17) x0 x1 M5)) ∧ (¬ a5 = 0 → wp_M_rows_20 post x0 x1 (-1) M5)) x1 a2 M)
set_option maxRecDepth 100000 in
set_option maxHeartbeats 4000000 in
theorem sd_M_rows_0 (X : Cx p s m args meth c b_M_rows 2 R_M TBL D dA B zE) (hr : meth.sig.returnType = (some .int)) (hin : meth.name = y_M_rows.name) {post : Int32 → wM → Prop} {x0 : Option Ro} {x1 : Int32} {M : wM} (h : wp_M_rows post x0 x1 M) : AW p l e (headSpec w_M_rows rm_M_rows).room s m args below meth c (MQ below (QI D dA B zE M0 ad0 post) args s 0 0 (wA B)) D dA B zE 2 ad0 M0 M 0 0 0 [(0, vR x0), (1, vI x1)] [] := by
  unfold wp_M_rows at h
  refine aw_iload_n X 1 rfl d_M_rows_0 rfl ?_
  refine aw_aload_n X 0 rfl d_M_rows_1 rfl ?_
  refine aw_gI X hc_9 in_9 0 (by decide) LK_430 (fun _ _ _ _ h => h) d_M_rows_2 (h.mono (fun a2 h => ?_))
  refine aw_cSi X [_, _] (fun ad hlv => t_M_outside l hlv h) (cwS 2 X.hts (gd_S LK_461 LK_462 LK_463 LK_code_M_outside) rfl rfl rfl (by decide +kernel) ⟨(Nat.le_of_ble_eq_true rfl), (Nat.le_of_ble_eq_true rfl)⟩) rfl rfl (Nat.le_of_ble_eq_true rfl) d_M_rows_5 ⟨(Nat.le_of_ble_eq_true rfl), (Nat.le_of_ble_eq_true rfl)⟩ (fun a5 M5 h => ?_)
  refine aw_if_eq (tgt := 15) X d_M_rows_8 (by decide) (fun c => ?_) (fun c => ?_)
  · have h := h.1 c
    refine aw_aload_n X 0 rfl d_M_rows_15 rfl ?_
    refine aw_iload_n X 1 rfl d_M_rows_16 rfl ?_
    obtain ⟨⟨r17, f17, e17, g17⟩, h⟩ := h
    cases e17
    refine aw_cVi X [_] (fun ad hlv => t_M_rowsOf l hlv h) (cwV 1 X.hts (gd_V LK_509 LK_510 LK_511 LK_463 LK_code_M_rowsOf) rfl rfl rfl (by decide +kernel) ⟨(Nat.le_of_ble_eq_true rfl), (Nat.le_of_ble_eq_true rfl)⟩) ⟨9, f17, _, g17, hc_9, rfl⟩ rfl rfl (Nat.le_of_ble_eq_true rfl) d_M_rows_17 ⟨(Nat.le_of_ble_eq_true rfl), (Nat.le_of_ble_eq_true rfl)⟩ (fun a17 M17 h => ?_)
    exact sd_M_rows_20 X hr hin h
  · have h := h.2 c
    refine aw_iconst X (-1) (by decide) d_M_rows_11 ?_
    refine aw_goto (tgt := 20) X d_M_rows_12 (by decide) ?_
    exact sd_M_rows_20 X hr hin h
end
theorem t_M_rows (l : Launch) {D : va_G} {dA : Nat → ClassId} {B : Nat} {zE : ZT} {M : wM} {ad : Ro → Nat} {post : Int32 → wM → Prop} {x0 : Option Ro} {x1 : Int32} (hlv : lvS M [vR x0, vI x1]) (h : wp_M_rows post x0 x1 M) : Met l y_M_rows w_M_rows rm_M_rows (PA D dA B zE M ad [vR x0, vI x1]) (QI D dA B zE M ad post) 0 0 (wA B) :=
  AW_start [vR x0, vI x1] [(0, vR x0), (1, vI x1)] hlv (by decide +kernel) rfl (fun _ hw => List.mem_cons_of_mem _ hw) rfl (Nat.le_of_ble_eq_true rfl) (fun p e s m args below meth c X hr hin => sd_M_rows_0 X hr hin h)
abbrev rm_M_stalledAt : Room := { frames := 0, cells := 0, slots := 0, locals := 0 }
section
variable {p : Program} {l : Launch} {e : Env} {s : State} {m : MethodId} {args : Array Value} {below : List Frame} {meth : Method} {c : Code} {D : va_G} {dA : Nat → ClassId} {B : Nat} {zE : ZT} {ad0 : Ro → Nat} {M0 : wM}
def wp_M_stalledAt_53 (post : Int32 → wM → Prop) (k2 : Option Ro → Int32 → wM → Prop) (x0 : Option Ro) (x1 : Int32) (M : wM) : Prop := k2 x0 (x1 + 1) M
set_option maxRecDepth 100000 in
set_option maxHeartbeats 4000000 in
theorem sd_M_stalledAt_53 (X : Cx p s m args meth c b_M_stalledAt 2 R_M TBL D dA B zE) (hr : meth.sig.returnType = (some .int)) (hin : meth.name = y_M_stalledAt.name) {post : Int32 → wM → Prop} {k2 : Option Ro → Int32 → wM → Prop} (hk2 : ∀ (x0 : Option Ro) (x1 : Int32) (M : wM), k2 x0 x1 M → AW p l e (headSpec w_M_stalledAt rm_M_stalledAt).room s m args below meth c (MQ below (QI D dA B zE M0 ad0 post) args s 0 0 (wA B)) D dA B zE 2 ad0 M0 M 0 0 2 [(0, vR x0), (1, vI x1)] []) {x0 : Option Ro} {x1 : Int32} {M : wM} (h : wp_M_stalledAt_53 post k2 x0 x1 M) : AW p l e (headSpec w_M_stalledAt rm_M_stalledAt).room s m args below meth c (MQ below (QI D dA B zE M0 ad0 post) args s 0 0 (wA B)) D dA B zE 2 ad0 M0 M 0 0 53 [(0, vR x0), (1, vI x1)] [] := by
  unfold wp_M_stalledAt_53 at h
  refine aw_iinc (y := x1 + 1) (lvn := [(1, _), (0, _)]) X 1 rfl d_M_stalledAt_53 rfl (by decide) rfl ?_
  refine aw_goto (tgt := 2) X d_M_stalledAt_56 (by decide) ?_
  refine aw_lv [1, 0] rfl ?_
  exact hk2 _ _ _ h
def wp_M_stalledAt_2 (post : Int32 → wM → Prop) : Nat → Option Ro → Int32 → wM → Prop
  | 0, _, _, _ => False
  | n + 1, x0, x1, M => gI M x0 9 15 (fun a4 => (a4 < x1 → post 0 M) ∧ (¬ a4 < x1 → gR M x0 9 16 (fun a11 => lI M a11 x1 (fun a15 => (a15 < 0 → wp_M_stalledAt_53 post (fun x0 x1 M => wp_M_stalledAt_2 post n x0 x1 M) x0 x1 M) ∧ (¬ a15 < 0 → gR M x0 9 8 (fun a20 => gR M x0 9 16 (fun a24 => lI M a24 x1 (fun a28 => lZ M a20 a28 (fun a29 => (a29 = 0 → wp_M_stalledAt_53 post (fun x0 x1 M => wp_M_stalledAt_2 post n x0 x1 M) x0 x1 M) ∧ (¬ a29 = 0 → gR M x0 9 18 (fun a34 => lZ M a34 x1 (fun a38 => (¬ a38 = 0 → wp_M_stalledAt_53 post (fun x0 x1 M => wp_M_stalledAt_2 post n x0 x1 M) x0 x1 M) ∧ (a38 = 0 → gR M x0 9 19 (fun a43 => lI M a43 x1 (fun a47 => (a47 = 0 → wp_M_stalledAt_53 post (fun x0 x1 M => wp_M_stalledAt_2 post n x0 x1 M) x0 x1 M) ∧ (¬ a47 = 0 → post x1 M))))))))))))))))
set_option maxRecDepth 100000 in
set_option maxHeartbeats 4000000 in
theorem sd_M_stalledAt_2 (X : Cx p s m args meth c b_M_stalledAt 2 R_M TBL D dA B zE) (hr : meth.sig.returnType = (some .int)) (hin : meth.name = y_M_stalledAt.name) {post : Int32 → wM → Prop} : ∀ (n : Nat) (x0 : Option Ro) (x1 : Int32) (M : wM), wp_M_stalledAt_2 post n x0 x1 M → AW p l e (headSpec w_M_stalledAt rm_M_stalledAt).room s m args below meth c (MQ below (QI D dA B zE M0 ad0 post) args s 0 0 (wA B)) D dA B zE 2 ad0 M0 M 0 0 2 [(0, vR x0), (1, vI x1)] [] := by
  intro n
  induction n with
  | zero => intro x0 x1 M h; exact h.elim
  | succ n ih =>
    intro x0 x1 M h
    unfold wp_M_stalledAt_2 at h
    refine aw_iload_n X 1 rfl d_M_stalledAt_2 rfl ?_
    refine aw_aload_n X 0 rfl d_M_stalledAt_3 rfl ?_
    refine aw_gI X hc_9 in_9 15 (by decide) LK_465 (fun _ _ _ _ h => h) d_M_stalledAt_4 (h.mono (fun a4 h => ?_))
    refine aw_icmp_gt (tgt := 59) X d_M_stalledAt_7 (by decide) (fun c => ?_) (fun c => ?_)
    · have h := h.1 c
      refine aw_iconst X (0) (by decide) d_M_stalledAt_59 ?_
      exact aw_iret X hr (Nat.le_of_ble_eq_true rfl) (Nat.le_of_ble_eq_true rfl) d_M_stalledAt_60 h
    · have h := h.2 c
      refine aw_aload_n X 0 rfl d_M_stalledAt_10 rfl ?_
      refine aw_gR X hc_9 in_9 16 (by decide) LK_447 (fun _ _ _ _ h => h) d_M_stalledAt_11 (h.mono (fun a11 h => ?_))
      refine aw_iload_n X 1 rfl d_M_stalledAt_14 rfl ?_
      refine aw_lI X d_M_stalledAt_15 (h.mono (fun a15 h => ?_))
      refine aw_if_lt (tgt := 53) X d_M_stalledAt_16 (by decide) (fun c => ?_) (fun c => ?_)
      · have h := h.1 c
        exact sd_M_stalledAt_53 X hr hin ih h
      · have h := h.2 c
        refine aw_aload_n X 0 rfl d_M_stalledAt_19 rfl ?_
        refine aw_gR X hc_9 in_9 8 (by decide) LK_440 (fun _ _ _ _ h => h) d_M_stalledAt_20 (h.mono (fun a20 h => ?_))
        refine aw_aload_n X 0 rfl d_M_stalledAt_23 rfl ?_
        refine aw_gR X hc_9 in_9 16 (by decide) LK_447 (fun _ _ _ _ h => h) d_M_stalledAt_24 (h.mono (fun a24 h => ?_))
        refine aw_iload_n X 1 rfl d_M_stalledAt_27 rfl ?_
        refine aw_lI X d_M_stalledAt_28 (h.mono (fun a28 h => ?_))
        refine aw_lZ X d_M_stalledAt_29 (h.mono (fun a29 h => ?_))
        refine aw_if_eq (tgt := 53) X d_M_stalledAt_30 (by decide) (fun c => ?_) (fun c => ?_)
        · have h := h.1 c
          exact sd_M_stalledAt_53 X hr hin ih h
        · have h := h.2 c
          refine aw_aload_n X 0 rfl d_M_stalledAt_33 rfl ?_
          refine aw_gR X hc_9 in_9 18 (by decide) LK_449 (fun _ _ _ _ h => h) d_M_stalledAt_34 (h.mono (fun a34 h => ?_))
          refine aw_iload_n X 1 rfl d_M_stalledAt_37 rfl ?_
          refine aw_lZ X d_M_stalledAt_38 (h.mono (fun a38 h => ?_))
          refine aw_if_ne (tgt := 53) X d_M_stalledAt_39 (by decide) (fun c => ?_) (fun c => ?_)
          · have h := h.1 c
            exact sd_M_stalledAt_53 X hr hin ih h
          · have h := h.2 c
            refine aw_aload_n X 0 rfl d_M_stalledAt_42 rfl ?_
            refine aw_gR X hc_9 in_9 19 (by decide) LK_450 (fun _ _ _ _ h => h) d_M_stalledAt_43 (h.mono (fun a43 h => ?_))
            refine aw_iload_n X 1 rfl d_M_stalledAt_46 rfl ?_
            refine aw_lI X d_M_stalledAt_47 (h.mono (fun a47 h => ?_))
            refine aw_if_eq (tgt := 53) X d_M_stalledAt_48 (by decide) (fun c => ?_) (fun c => ?_)
            · have h := h.1 c
              exact sd_M_stalledAt_53 X hr hin ih h
            · have h := h.2 c
              refine aw_iload_n X 1 rfl d_M_stalledAt_51 rfl ?_
              exact aw_iret X hr (Nat.le_of_ble_eq_true rfl) (Nat.le_of_ble_eq_true rfl) d_M_stalledAt_52 h
def wp_M_stalledAt (post : Int32 → wM → Prop) (x0 : Option Ro) (M : wM) : Prop := (∃ n, wp_M_stalledAt_2 post n x0 1 M)
set_option maxRecDepth 100000 in
set_option maxHeartbeats 4000000 in
theorem sd_M_stalledAt_0 (X : Cx p s m args meth c b_M_stalledAt 2 R_M TBL D dA B zE) (hr : meth.sig.returnType = (some .int)) (hin : meth.name = y_M_stalledAt.name) {post : Int32 → wM → Prop} {x0 : Option Ro} {M : wM} (h : wp_M_stalledAt post x0 M) : AW p l e (headSpec w_M_stalledAt rm_M_stalledAt).room s m args below meth c (MQ below (QI D dA B zE M0 ad0 post) args s 0 0 (wA B)) D dA B zE 2 ad0 M0 M 0 0 0 [(0, vR x0)] [] := by
  unfold wp_M_stalledAt at h
  refine aw_iconst X (1) (by decide) d_M_stalledAt_0 ?_
  refine aw_istore_n (lvn := [(1, _), (0, _)]) X d_M_stalledAt_1 rfl (by decide) rfl ?_
  refine aw_lv [1, 0] rfl ?_
  obtain ⟨n, h⟩ := h
  exact sd_M_stalledAt_2 X hr hin n _ _ _ h
end
theorem t_M_stalledAt (l : Launch) {D : va_G} {dA : Nat → ClassId} {B : Nat} {zE : ZT} {M : wM} {ad : Ro → Nat} {post : Int32 → wM → Prop} {x0 : Option Ro} (hlv : lvS M [vR x0]) (h : wp_M_stalledAt post x0 M) : Met l y_M_stalledAt w_M_stalledAt rm_M_stalledAt (PA D dA B zE M ad [vR x0]) (QI D dA B zE M ad post) 0 0 (wA B) :=
  AW_start [vR x0] [(0, vR x0)] hlv (by decide +kernel) rfl (fun _ hw => List.mem_cons_of_mem _ hw) rfl (Nat.le_of_ble_eq_true rfl) (fun p e s m args below meth c X hr hin => sd_M_stalledAt_0 X hr hin h)
abbrev rm_M_count : Room := { frames := 1, cells := 0, slots := 0, locals := 22 }
section
variable {p : Program} {l : Launch} {e : Env} {s : State} {m : MethodId} {args : Array Value} {below : List Frame} {meth : Method} {c : Code} {D : va_G} {dA : Nat → ClassId} {B : Nat} {zE : ZT} {ad0 : Ro → Nat} {M0 : wM}
def wp_M_count (post : Int32 → wM → Prop) (x0 : Option Ro) (x1 : Int32) (M : wM) : Prop := (x1 = 0 → gI M x0 9 15 (fun a41 => post a41 M)) ∧ (¬ x1 = 0 → (x1 = 1 → gI M x0 9 23 (fun a46 => post a46 M)) ∧ (¬ x1 = 1 → (x1 = 2 → cV M x0 9 (wp_M_logged (fun a51 M51 => post a51 M51) x0 M)) ∧ (¬ x1 = 2 → (x1 = 3 → gI M x0 9 24 (fun a56 => post a56 M)) ∧ (¬ x1 = 3 → (x1 = 4 → gI M x0 9 25 (fun a61 => post a61 M)) ∧ (¬ x1 = 4 → (x1 = 5 → cV M x0 9 (wp_M_stalledAt (fun a66 M66 => post a66 M66) x0 M)) ∧ (¬ x1 = 5 → post (-1) M))))))
set_option maxRecDepth 100000 in
set_option maxHeartbeats 4000000 in
theorem sd_M_count_0 (X : Cx p s m args meth c b_M_count 2 R_M TBL D dA B zE) (hr : meth.sig.returnType = (some .int)) (hin : meth.name = y_M_count.name) {post : Int32 → wM → Prop} {x0 : Option Ro} {x1 : Int32} {M : wM} (h : wp_M_count post x0 x1 M) : AW p l e (headSpec w_M_count rm_M_count).room s m args below meth c (MQ below (QI D dA B zE M0 ad0 post) args s 0 0 (wA B)) D dA B zE 2 ad0 M0 M 0 0 0 [(0, vR x0), (1, vI x1)] [] := by
  unfold wp_M_count at h
  refine aw_iload_n X 1 rfl d_M_count_0 rfl ?_
  rcases Decidable.em (x1 = 0) with c0 | c0
  · have h := h.1 c0
    refine aw_tableIn (off := 39) (tgt := 40) X d_M_count_1 c0 (by decide) (by decide) (by decide) (by decide) ?_
    refine aw_aload_n X 0 rfl d_M_count_40 rfl ?_
    refine aw_gI X hc_9 in_9 15 (by decide) LK_465 (fun _ _ _ _ h => h) d_M_count_41 (h.mono (fun a41 h => ?_))
    exact aw_iret X hr (Nat.le_of_ble_eq_true rfl) (Nat.le_of_ble_eq_true rfl) d_M_count_44 h
  · have h := h.2 c0
    rcases Decidable.em (x1 = 1) with c1 | c1
    · have h := h.1 c1
      refine aw_tableIn (off := 44) (tgt := 45) X d_M_count_1 c1 (by decide) (by decide) (by decide) (by decide) ?_
      refine aw_aload_n X 0 rfl d_M_count_45 rfl ?_
      refine aw_gI X hc_9 in_9 23 (by decide) LK_495 (fun _ _ _ _ h => h) d_M_count_46 (h.mono (fun a46 h => ?_))
      exact aw_iret X hr (Nat.le_of_ble_eq_true rfl) (Nat.le_of_ble_eq_true rfl) d_M_count_49 h
    · have h := h.2 c1
      rcases Decidable.em (x1 = 2) with c2 | c2
      · have h := h.1 c2
        refine aw_tableIn (off := 49) (tgt := 50) X d_M_count_1 c2 (by decide) (by decide) (by decide) (by decide) ?_
        refine aw_aload_n X 0 rfl d_M_count_50 rfl ?_
        obtain ⟨⟨r51, f51, e51, g51⟩, h⟩ := h
        cases e51
        refine aw_cVi X [] (fun ad hlv => t_M_logged l hlv h) (cwV 0 X.hts (gd_V LK_467 LK_468 LK_469 LK_463 LK_code_M_logged) rfl rfl rfl (by decide +kernel) ⟨(Nat.le_of_ble_eq_true rfl), (Nat.le_of_ble_eq_true rfl)⟩) ⟨9, f51, _, g51, hc_9, rfl⟩ rfl rfl (Nat.le_of_ble_eq_true rfl) d_M_count_51 ⟨(Nat.le_of_ble_eq_true rfl), (Nat.le_of_ble_eq_true rfl)⟩ (fun a51 M51 h => ?_)
        exact aw_iret X hr (Nat.le_of_ble_eq_true rfl) (Nat.le_of_ble_eq_true rfl) d_M_count_54 h
      · have h := h.2 c2
        rcases Decidable.em (x1 = 3) with c3 | c3
        · have h := h.1 c3
          refine aw_tableIn (off := 54) (tgt := 55) X d_M_count_1 c3 (by decide) (by decide) (by decide) (by decide) ?_
          refine aw_aload_n X 0 rfl d_M_count_55 rfl ?_
          refine aw_gI X hc_9 in_9 24 (by decide) LK_466 (fun _ _ _ _ h => h) d_M_count_56 (h.mono (fun a56 h => ?_))
          exact aw_iret X hr (Nat.le_of_ble_eq_true rfl) (Nat.le_of_ble_eq_true rfl) d_M_count_59 h
        · have h := h.2 c3
          rcases Decidable.em (x1 = 4) with c4 | c4
          · have h := h.1 c4
            refine aw_tableIn (off := 59) (tgt := 60) X d_M_count_1 c4 (by decide) (by decide) (by decide) (by decide) ?_
            refine aw_aload_n X 0 rfl d_M_count_60 rfl ?_
            refine aw_gI X hc_9 in_9 25 (by decide) LK_500 (fun _ _ _ _ h => h) d_M_count_61 (h.mono (fun a61 h => ?_))
            exact aw_iret X hr (Nat.le_of_ble_eq_true rfl) (Nat.le_of_ble_eq_true rfl) d_M_count_64 h
          · have h := h.2 c4
            rcases Decidable.em (x1 = 5) with c5 | c5
            · have h := h.1 c5
              refine aw_tableIn (off := 64) (tgt := 65) X d_M_count_1 c5 (by decide) (by decide) (by decide) (by decide) ?_
              refine aw_aload_n X 0 rfl d_M_count_65 rfl ?_
              obtain ⟨⟨r66, f66, e66, g66⟩, h⟩ := h
              cases e66
              refine aw_cVi X [] (fun ad hlv => t_M_stalledAt l hlv h) (cwV 0 X.hts (gd_V LK_518 LK_519 LK_520 LK_463 LK_code_M_stalledAt) rfl rfl rfl (by decide +kernel) ⟨(Nat.le_of_ble_eq_true rfl), (Nat.le_of_ble_eq_true rfl)⟩) ⟨9, f66, _, g66, hc_9, rfl⟩ rfl rfl (Nat.le_of_ble_eq_true rfl) d_M_count_66 ⟨(Nat.le_of_ble_eq_true rfl), (Nat.le_of_ble_eq_true rfl)⟩ (fun a66 M66 h => ?_)
              exact aw_iret X hr (Nat.le_of_ble_eq_true rfl) (Nat.le_of_ble_eq_true rfl) d_M_count_69 h
            · have h := h.2 c5
              have z0 := lv_neT (a := 0) c0 (by decide)
              have z1 := lv_neT (a := 1) c1 (by decide)
              have z2 := lv_neT (a := 2) c2 (by decide)
              have z3 := lv_neT (a := 3) c3 (by decide)
              have z4 := lv_neT (a := 4) c4 (by decide)
              have z5 := lv_neT (a := 5) c5 (by decide)
              refine aw_tableOut (tgt := 70) X d_M_count_1 (by omega) (by decide) ?_
              refine aw_iconst X (-1) (by decide) d_M_count_70 ?_
              exact aw_iret X hr (Nat.le_of_ble_eq_true rfl) (Nat.le_of_ble_eq_true rfl) d_M_count_71 h
end
theorem t_M_count (l : Launch) {D : va_G} {dA : Nat → ClassId} {B : Nat} {zE : ZT} {M : wM} {ad : Ro → Nat} {post : Int32 → wM → Prop} {x0 : Option Ro} {x1 : Int32} (hlv : lvS M [vR x0, vI x1]) (h : wp_M_count post x0 x1 M) : Met l y_M_count w_M_count rm_M_count (PA D dA B zE M ad [vR x0, vI x1]) (QI D dA B zE M ad post) 0 0 (wA B) :=
  AW_start [vR x0, vI x1] [(0, vR x0), (1, vI x1)] hlv (by decide +kernel) rfl (fun _ hw => List.mem_cons_of_mem _ hw) rfl (Nat.le_of_ble_eq_true rfl) (fun p e s m args below meth c X hr hin => sd_M_count_0 X hr hin h)
