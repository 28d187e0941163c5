abbrev rm_R_isPresent : Room := { frames := 1, cells := 0, slots := 0, locals := 21 }
section
variable {p : Program} {l : Launch} {e : Env} {s : State} {m : MethodId} {args : Array Value} {below : List Frame} {meth : Method} {c : Code} {D : va_G} {dA : Nat → ClassId} {B : Nat} {zE : ZT} {ad0 : Ro → Nat} {M0 : wM}
def wp_R_isPresent_29 (post : Int32 → wM → Prop) (x0 : Option Ro) (x1 : Int32) (s0 : Int32) (M : wM) : Prop := (s0 = 0 ∨ s0 = 1) ∧ post s0 M
set_option maxRecDepth 100000 in
set_option maxHeartbeats 4000000 in
theorem sd_R_isPresent_29 (X : Cx p s m args meth c b_R_isPresent 2 R_R TBL D dA B zE) (hr : meth.sig.returnType = (some .boolean)) (hin : meth.name = y_R_isPresent.name) {post : Int32 → wM → Prop} {x0 : Option Ro} {x1 : Int32} {s0 : Int32} {M : wM} (h : wp_R_isPresent_29 post x0 x1 s0 M) : AW p l e (headSpec w_R_isPresent rm_R_isPresent).room s m args below meth c (MQ below (QI D dA B zE M0 ad0 post) args s 0 0 (wA B)) D dA B zE 2 ad0 M0 M 0 0 29 [(0, vR x0), (1, vI x1)] [vI s0] := by
  unfold wp_R_isPresent_29 at h
  exact aw_zret X hr h.1 (Nat.le_of_ble_eq_true rfl) (Nat.le_of_ble_eq_true rfl) d_R_isPresent_29 h.2
def wp_R_isPresent_28 (post : Int32 → wM → Prop) (x0 : Option Ro) (x1 : Int32) (M : wM) : Prop := wp_R_isPresent_29 post x0 x1 0 M
set_option maxRecDepth 100000 in
set_option maxHeartbeats 4000000 in
theorem sd_R_isPresent_28 (X : Cx p s m args meth c b_R_isPresent 2 R_R TBL D dA B zE) (hr : meth.sig.returnType = (some .boolean)) (hin : meth.name = y_R_isPresent.name) {post : Int32 → wM → Prop} {x0 : Option Ro} {x1 : Int32} {M : wM} (h : wp_R_isPresent_28 post x0 x1 M) : AW p l e (headSpec w_R_isPresent rm_R_isPresent).room s m args below meth c (MQ below (QI D dA B zE M0 ad0 post) args s 0 0 (wA B)) D dA B zE 2 ad0 M0 M 0 0 28 [(0, vR x0), (1, vI x1)] [] := by
  unfold wp_R_isPresent_28 at h
  refine aw_iconst X (0) (by decide) d_R_isPresent_28 ?_
  exact sd_R_isPresent_29 X hr hin h
def wp_R_isPresent (post : Int32 → wM → Prop) (x0 : Option Ro) (x1 : Int32) (M : wM) : Prop := cV M x0 3 (wp_R_isReachable (fun a2 M2 => (a2 = 0 → wp_R_isPresent_28 post x0 x1 M2) ∧ (¬ a2 = 0 → gR M2 x0 3 0 (fun a9 => gR M2 a9 6 0 (fun a12 => lL M2 a12 x1 (fun a16 => ((lg_cmp a16 (1000000000000)) = 0 → wp_R_isPresent_28 post x0 x1 M2) ∧ (¬ (lg_cmp a16 (1000000000000)) = 0 → wp_R_isPresent_29 post x0 x1 1 M2)))))) x0 x1 M)
set_option maxRecDepth 100000 in
set_option maxHeartbeats 4000000 in
theorem sd_R_isPresent_0 (X : Cx p s m args meth c b_R_isPresent 2 R_R TBL D dA B zE) (hr : meth.sig.returnType = (some .boolean)) (hin : meth.name = y_R_isPresent.name) {post : Int32 → wM → Prop} {x0 : Option Ro} {x1 : Int32} {M : wM} (h : wp_R_isPresent post x0 x1 M) : AW p l e (headSpec w_R_isPresent rm_R_isPresent).room s m args below meth c (MQ below (QI D dA B zE M0 ad0 post) args s 0 0 (wA B)) D dA B zE 2 ad0 M0 M 0 0 0 [(0, vR x0), (1, vI x1)] [] := by
  unfold wp_R_isPresent at h
  refine aw_aload_n X 0 rfl d_R_isPresent_0 rfl ?_
  refine aw_iload_n X 1 rfl d_R_isPresent_1 rfl ?_
  obtain ⟨⟨r2, f2, e2, g2⟩, h⟩ := h
  cases e2
  refine aw_cVi X [_] (fun ad hlv => t_R_isReachable l hlv h) (cwV 1 X.hts (gd_V LK_319 LK_320 LK_321 LK_103 LK_code_R_isReachable) rfl rfl rfl (by decide +kernel) ⟨(Nat.le_of_ble_eq_true rfl), (Nat.le_of_ble_eq_true rfl)⟩) ⟨3, f2, _, g2, hc_3, rfl⟩ rfl rfl (Nat.le_of_ble_eq_true rfl) d_R_isPresent_2 ⟨(Nat.le_of_ble_eq_true rfl), (Nat.le_of_ble_eq_true rfl)⟩ (fun a2 M2 h => ?_)
  refine aw_if_eq (tgt := 28) X d_R_isPresent_5 (by decide) (fun c => ?_) (fun c => ?_)
  · have h := h.1 c
    exact sd_R_isPresent_28 X hr hin h
  · have h := h.2 c
    refine aw_aload_n X 0 rfl d_R_isPresent_8 rfl ?_
    refine aw_gR X hc_3 in_3 0 (by decide) LK_31 (fun _ _ _ _ h => h) d_R_isPresent_9 (h.mono (fun a9 h => ?_))
    refine aw_gR X hc_6 in_6 0 (by decide) LK_323 (fun _ _ _ _ h => h) d_R_isPresent_12 (h.mono (fun a12 h => ?_))
    refine aw_iload_n X 1 rfl d_R_isPresent_15 rfl ?_
    refine aw_lL X d_R_isPresent_16 (h.mono (fun a16 h => ?_))
    refine aw_ldc2 X LK_324 d_R_isPresent_17 ?_
    refine aw_lcmp X d_R_isPresent_20 ?_
    refine aw_if_eq (tgt := 28) X d_R_isPresent_21 (by decide) (fun c => ?_) (fun c => ?_)
    · have h := h.1 c
      exact sd_R_isPresent_28 X hr hin h
    · have h := h.2 c
      refine aw_iconst X (1) (by decide) d_R_isPresent_24 ?_
      refine aw_goto (tgt := 29) X d_R_isPresent_25 (by decide) ?_
      exact sd_R_isPresent_29 X hr hin h
end
theorem t_R_isPresent (l : Launch) {D : va_G} {dA : Nat → ClassId} {B : Nat} {zE : ZT} {M : wM} {ad : Ro → Nat} {post : Int32 → wM → Prop} {x0 : Option Ro} {x1 : Int32} (hlv : lvS M [vR x0, vI x1]) (h : wp_R_isPresent post x0 x1 M) : Met l y_R_isPresent w_R_isPresent rm_R_isPresent (PA D dA B zE M ad [vR x0, vI x1]) (QI D dA B zE M ad post) 0 0 (wA B) :=
  AW_start [vR x0, vI x1] [(0, vR x0), (1, vI x1)] hlv (by decide +kernel) rfl (fun _ hw => List.mem_cons_of_mem _ hw) rfl (Nat.le_of_ble_eq_true rfl) (fun p e s m args below meth c X hr hin => sd_R_isPresent_0 X hr hin h)
abbrev rm_R_readRow : Room := { frames := 2, cells := 0, slots := 0, locals := 42 }
section
variable {p : Program} {l : Launch} {e : Env} {s : State} {m : MethodId} {args : Array Value} {below : List Frame} {meth : Method} {c : Code} {D : va_G} {dA : Nat → ClassId} {B : Nat} {zE : ZT} {ad0 : Ro → Nat} {M0 : wM}
def wp_R_readRow (post : Int32 → wM → Prop) (x0 : Option Ro) (x1 : Option Ro) (M : wM) : Prop := gR M x0 3 3 (fun a1 => gI M x1 5 2 (fun a5 => lI M a1 a5 (fun a8 => cV M x0 3 (wp_R_isPresent (fun a12 M12 => (¬ a12 = 0 → gR M12 x0 3 3 (fun a21 => gI M12 x1 5 1 (fun a25 => gR M12 x0 3 0 (fun a29 => gR M12 a29 6 0 (fun a32 => lL M12 a32 a8 (fun a36 => sI M12 a21 a25 a36.toInt32 (fun M38 => post 0 M38))))))) ∧ (a12 = 0 → post (-1) M12)) x0 a8 M))))
set_option maxRecDepth 100000 in
set_option maxHeartbeats 4000000 in
theorem sd_R_readRow_0 (X : Cx p s m args meth c b_R_readRow 3 R_R TBL D dA B zE) (hr : meth.sig.returnType = (some .int)) (hin : meth.name = y_R_readRow.name) {post : Int32 → wM → Prop} {x0 : Option Ro} {x1 : Option Ro} {M : wM} (h : wp_R_readRow post x0 x1 M) : AW p l e (headSpec w_R_readRow rm_R_readRow).room s m args below meth c (MQ below (QI D dA B zE M0 ad0 post) args s 0 0 (wA B)) D dA B zE 3 ad0 M0 M 0 0 0 [(0, vR x0), (1, vR x1)] [] := by
  unfold wp_R_readRow at h
  refine aw_aload_n X 0 rfl d_R_readRow_0 rfl ?_
  refine aw_gR X hc_3 in_3 3 (by decide) LK_33 (fun _ _ _ _ h => h) d_R_readRow_1 (h.mono (fun a1 h => ?_))
  refine aw_aload_n X 1 rfl d_R_readRow_4 rfl ?_
  refine aw_gI X hc_5 in_5 2 (by decide) LK_325 (fun _ _ _ _ h => h) d_R_readRow_5 (h.mono (fun a5 h => ?_))
  refine aw_lI X d_R_readRow_8 (h.mono (fun a8 h => ?_))
  refine aw_istore_n (lvn := [(2, _), (0, _), (1, _)]) X d_R_readRow_9 rfl (by decide) rfl ?_
  refine aw_aload_n X 1 rfl d_R_readRow_10 rfl ?_
  refine aw_iload_n X 0 rfl d_R_readRow_11 rfl ?_
  obtain ⟨⟨r12, f12, e12, g12⟩, h⟩ := h
  cases e12
  refine aw_cVi X [_] (fun ad hlv => t_R_isPresent l hlv h) (cwV 1 X.hts (gd_V LK_326 LK_327 LK_328 LK_103 LK_code_R_isPresent) rfl rfl rfl (by decide +kernel) ⟨(Nat.le_of_ble_eq_true rfl), (Nat.le_of_ble_eq_true rfl)⟩) ⟨3, f12, _, g12, hc_3, rfl⟩ rfl rfl (Nat.le_of_ble_eq_true rfl) d_R_readRow_12 ⟨(Nat.le_of_ble_eq_true rfl), (Nat.le_of_ble_eq_true rfl)⟩ (fun a12 M12 h => ?_)
  refine aw_if_ne (tgt := 20) X d_R_readRow_15 (by decide) (fun c => ?_) (fun c => ?_)
  · have h := h.1 c
    refine aw_aload_n X 1 rfl d_R_readRow_20 rfl ?_
    refine aw_gR X hc_3 in_3 3 (by decide) LK_33 (fun _ _ _ _ h => h) d_R_readRow_21 (h.mono (fun a21 h => ?_))
    refine aw_aload_n X 2 rfl d_R_readRow_24 rfl ?_
    refine aw_gI X hc_5 in_5 1 (by decide) LK_330 (fun _ _ _ _ h => h) d_R_readRow_25 (h.mono (fun a25 h => ?_))
    refine aw_aload_n X 1 rfl d_R_readRow_28 rfl ?_
    refine aw_gR X hc_3 in_3 0 (by decide) LK_31 (fun _ _ _ _ h => h) d_R_readRow_29 (h.mono (fun a29 h => ?_))
    refine aw_gR X hc_6 in_6 0 (by decide) LK_323 (fun _ _ _ _ h => h) d_R_readRow_32 (h.mono (fun a32 h => ?_))
    refine aw_iload_n X 0 rfl d_R_readRow_35 rfl ?_
    refine aw_lL X d_R_readRow_36 (h.mono (fun a36 h => ?_))
    refine aw_l2i X d_R_readRow_37 ?_
    refine aw_sI X d_R_readRow_38 (h.mono (fun M38 h => ?_))
    refine aw_iconst X (0) (by decide) d_R_readRow_39 ?_
    exact aw_iret X hr (Nat.le_of_ble_eq_true rfl) (Nat.le_of_ble_eq_true rfl) d_R_readRow_40 h
  · have h := h.2 c
    refine aw_iconst X (-1) (by decide) d_R_readRow_18 ?_
    exact aw_iret X hr (Nat.le_of_ble_eq_true rfl) (Nat.le_of_ble_eq_true rfl) d_R_readRow_19 h
end
theorem t_R_readRow (l : Launch) {D : va_G} {dA : Nat → ClassId} {B : Nat} {zE : ZT} {M : wM} {ad : Ro → Nat} {post : Int32 → wM → Prop} {x0 : Option Ro} {x1 : Option Ro} (hlv : lvS M [vR x0, vR x1]) (h : wp_R_readRow post x0 x1 M) : Met l y_R_readRow w_R_readRow rm_R_readRow (PA D dA B zE M ad [vR x0, vR x1]) (QI D dA B zE M ad post) 0 0 (wA B) :=
  AW_start [vR x0, vR x1] [(0, vR x0), (1, vR x1)] hlv (by decide +kernel) rfl (fun _ hw => List.mem_cons_of_mem _ hw) rfl (Nat.le_of_ble_eq_true rfl) (fun p e s m args below meth c X hr hin => sd_R_readRow_0 X hr hin h)
abbrev rm_R_writeRow : Room := { frames := 1, cells := 0, slots := 0, locals := 21 }
section
variable {p : Program} {l : Launch} {e : Env} {s : State} {m : MethodId} {args : Array Value} {below : List Frame} {meth : Method} {c : Code} {D : va_G} {dA : Nat → ClassId} {B : Nat} {zE : ZT} {ad0 : Ro → Nat} {M0 : wM}
def wp_R_writeRow (post : Int32 → wM → Prop) (x0 : Option Ro) (x1 : Int32) (x2 : Int64) (M : wM) : Prop := cV M x0 3 (wp_R_isReachable (fun a2 M2 => (¬ a2 = 0 → gR M2 x0 3 0 (fun a11 => gR M2 a11 6 0 (fun a14 => sL M2 a14 x1 x2 (fun M19 => post 0 M19)))) ∧ (a2 = 0 → post (-1) M2)) x0 x1 M)
set_option maxRecDepth 100000 in
set_option maxHeartbeats 4000000 in
theorem sd_R_writeRow_0 (X : Cx p s m args meth c b_R_writeRow 4 R_R TBL D dA B zE) (hr : meth.sig.returnType = (some .int)) (hin : meth.name = y_R_writeRow.name) {post : Int32 → wM → Prop} {x0 : Option Ro} {x1 : Int32} {x2 : Int64} {M : wM} (h : wp_R_writeRow post x0 x1 x2 M) : AW p l e (headSpec w_R_writeRow rm_R_writeRow).room s m args below meth c (MQ below (QI D dA B zE M0 ad0 post) args s 0 0 (wA B)) D dA B zE 4 ad0 M0 M 0 0 0 [(0, vR x0), (1, vI x1), (2, vL x2)] [] := by
  unfold wp_R_writeRow at h
  refine aw_aload_n X 0 rfl d_R_writeRow_0 rfl ?_
  refine aw_iload_n X 1 rfl d_R_writeRow_1 rfl ?_
  obtain ⟨⟨r2, f2, e2, g2⟩, h⟩ := h
  cases e2
  refine aw_cVi X [_] (fun ad hlv => t_R_isReachable l hlv h) (cwV 1 X.hts (gd_V LK_319 LK_320 LK_321 LK_103 LK_code_R_isReachable) rfl rfl rfl (by decide +kernel) ⟨(Nat.le_of_ble_eq_true rfl), (Nat.le_of_ble_eq_true rfl)⟩) ⟨3, f2, _, g2, hc_3, rfl⟩ rfl rfl (Nat.le_of_ble_eq_true rfl) d_R_writeRow_2 ⟨(Nat.le_of_ble_eq_true rfl), (Nat.le_of_ble_eq_true rfl)⟩ (fun a2 M2 h => ?_)
  refine aw_if_ne (tgt := 10) X d_R_writeRow_5 (by decide) (fun c => ?_) (fun c => ?_)
  · have h := h.1 c
    refine aw_aload_n X 0 rfl d_R_writeRow_10 rfl ?_
    refine aw_gR X hc_3 in_3 0 (by decide) LK_31 (fun _ _ _ _ h => h) d_R_writeRow_11 (h.mono (fun a11 h => ?_))
    refine aw_gR X hc_6 in_6 0 (by decide) LK_323 (fun _ _ _ _ h => h) d_R_writeRow_14 (h.mono (fun a14 h => ?_))
    refine aw_iload_n X 1 rfl d_R_writeRow_17 rfl ?_
    refine aw_lload_n X 2 rfl d_R_writeRow_18 rfl ?_
    refine aw_sL X d_R_writeRow_19 (h.mono (fun M19 h => ?_))
    refine aw_iconst X (0) (by decide) d_R_writeRow_20 ?_
    exact aw_iret X hr (Nat.le_of_ble_eq_true rfl) (Nat.le_of_ble_eq_true rfl) d_R_writeRow_21 h
  · have h := h.2 c
    refine aw_iconst X (-1) (by decide) d_R_writeRow_8 ?_
    exact aw_iret X hr (Nat.le_of_ble_eq_true rfl) (Nat.le_of_ble_eq_true rfl) d_R_writeRow_9 h
end
theorem t_R_writeRow (l : Launch) {D : va_G} {dA : Nat → ClassId} {B : Nat} {zE : ZT} {M : wM} {ad : Ro → Nat} {post : Int32 → wM → Prop} {x0 : Option Ro} {x1 : Int32} {x2 : Int64} (hlv : lvS M [vR x0, vI x1, vL x2]) (h : wp_R_writeRow post x0 x1 x2 M) : Met l y_R_writeRow w_R_writeRow rm_R_writeRow (PA D dA B zE M ad [vR x0, vI x1, vL x2]) (QI D dA B zE M ad post) 0 0 (wA B) :=
  AW_start [vR x0, vI x1, vL x2] [(0, vR x0), (1, vI x1), (2, vL x2)] hlv (by decide +kernel) rfl (fun _ hw => List.mem_cons_of_mem _ hw) rfl (Nat.le_of_ble_eq_true rfl) (fun p e s m args below meth c X hr hin => sd_R_writeRow_0 X hr hin h)
abbrev rm_R_loadCell : Room := { frames := 1, cells := 0, slots := 0, locals := 21 }
section
variable {p : Program} {l : Launch} {e : Env} {s : State} {m : MethodId} {args : Array Value} {below : List Frame} {meth : Method} {c : Code} {D : va_G} {dA : Nat → ClassId} {B : Nat} {zE : ZT} {ad0 : Ro → Nat} {M0 : wM}
def wp_R_loadCell (post : Int32 → wM → Prop) (x0 : Option Ro) (x1 : Option Ro) (M : wM) : Prop := gR M x0 3 3 (fun a1 => gI M x1 5 2 (fun a5 => lI M a1 a5 (fun a8 => wp_S_isWithin (fun a13 M13 => (¬ a13 = 0 → gR M13 x0 3 3 (fun a22 => gI M13 x1 5 1 (fun a26 => gR M13 x0 3 0 (fun a30 => gR M13 a30 6 1 (fun a33 => lI M13 a33 a8 (fun a37 => sI M13 a22 a26 a37 (fun M38 => post 0 M38))))))) ∧ (a13 = 0 → post (-1) M13)) a8 8 M)))
set_option maxRecDepth 100000 in
set_option maxHeartbeats 4000000 in
theorem sd_R_loadCell_0 (X : Cx p s m args meth c b_R_loadCell 3 R_R TBL D dA B zE) (hr : meth.sig.returnType = (some .int)) (hin : meth.name = y_R_loadCell.name) {post : Int32 → wM → Prop} {x0 : Option Ro} {x1 : Option Ro} {M : wM} (h : wp_R_loadCell post x0 x1 M) : AW p l e (headSpec w_R_loadCell rm_R_loadCell).room s m args below meth c (MQ below (QI D dA B zE M0 ad0 post) args s 0 0 (wA B)) D dA B zE 3 ad0 M0 M 0 0 0 [(0, vR x0), (1, vR x1)] [] := by
  unfold wp_R_loadCell at h
  refine aw_aload_n X 0 rfl d_R_loadCell_0 rfl ?_
  refine aw_gR X hc_3 in_3 3 (by decide) LK_33 (fun _ _ _ _ h => h) d_R_loadCell_1 (h.mono (fun a1 h => ?_))
  refine aw_aload_n X 1 rfl d_R_loadCell_4 rfl ?_
  refine aw_gI X hc_5 in_5 2 (by decide) LK_325 (fun _ _ _ _ h => h) d_R_loadCell_5 (h.mono (fun a5 h => ?_))
  refine aw_lI X d_R_loadCell_8 (h.mono (fun a8 h => ?_))
  refine aw_istore_n (lvn := [(2, _), (0, _), (1, _)]) X d_R_loadCell_9 rfl (by decide) rfl ?_
  refine aw_iload_n X 0 rfl d_R_loadCell_10 rfl ?_
  refine aw_bipush X (8) (by decide) d_R_loadCell_11 ?_
  refine aw_cSNi X [_, _] (fun ad hlv => t_S_isWithin l hlv h) ⟨va_cnB (host := "PartitionedProcedureStore") 2 X.hts (gd_in LK_code_S_isWithin) rfl rfl rfl (X.hG.2.2.2 _ NW_331) (X.hts _ LK_122) (by decide +kernel) ⟨(Nat.le_of_ble_eq_true rfl), (Nat.le_of_ble_eq_true rfl)⟩, X.hts _ LK_121, trivial⟩ rfl rfl (Nat.le_of_ble_eq_true rfl) d_R_loadCell_13 ⟨(Nat.le_of_ble_eq_true rfl), (Nat.le_of_ble_eq_true rfl)⟩ (fun a13 M13 h => ?_)
  refine aw_if_ne (tgt := 21) X d_R_loadCell_16 (by decide) (fun c => ?_) (fun c => ?_)
  · have h := h.1 c
    refine aw_aload_n X 1 rfl d_R_loadCell_21 rfl ?_
    refine aw_gR X hc_3 in_3 3 (by decide) LK_33 (fun _ _ _ _ h => h) d_R_loadCell_22 (h.mono (fun a22 h => ?_))
    refine aw_aload_n X 2 rfl d_R_loadCell_25 rfl ?_
    refine aw_gI X hc_5 in_5 1 (by decide) LK_330 (fun _ _ _ _ h => h) d_R_loadCell_26 (h.mono (fun a26 h => ?_))
    refine aw_aload_n X 1 rfl d_R_loadCell_29 rfl ?_
    refine aw_gR X hc_3 in_3 0 (by decide) LK_31 (fun _ _ _ _ h => h) d_R_loadCell_30 (h.mono (fun a30 h => ?_))
    refine aw_gR X hc_6 in_6 1 (by decide) LK_332 (fun _ _ _ _ h => h) d_R_loadCell_33 (h.mono (fun a33 h => ?_))
    refine aw_iload_n X 0 rfl d_R_loadCell_36 rfl ?_
    refine aw_lI X d_R_loadCell_37 (h.mono (fun a37 h => ?_))
    refine aw_sI X d_R_loadCell_38 (h.mono (fun M38 h => ?_))
    refine aw_iconst X (0) (by decide) d_R_loadCell_39 ?_
    exact aw_iret X hr (Nat.le_of_ble_eq_true rfl) (Nat.le_of_ble_eq_true rfl) d_R_loadCell_40 h
  · have h := h.2 c
    refine aw_iconst X (-1) (by decide) d_R_loadCell_19 ?_
    exact aw_iret X hr (Nat.le_of_ble_eq_true rfl) (Nat.le_of_ble_eq_true rfl) d_R_loadCell_20 h
end
theorem t_R_loadCell (l : Launch) {D : va_G} {dA : Nat → ClassId} {B : Nat} {zE : ZT} {M : wM} {ad : Ro → Nat} {post : Int32 → wM → Prop} {x0 : Option Ro} {x1 : Option Ro} (hlv : lvS M [vR x0, vR x1]) (h : wp_R_loadCell post x0 x1 M) : Met l y_R_loadCell w_R_loadCell rm_R_loadCell (PA D dA B zE M ad [vR x0, vR x1]) (QI D dA B zE M ad post) 0 0 (wA B) :=
  AW_start [vR x0, vR x1] [(0, vR x0), (1, vR x1)] hlv (by decide +kernel) rfl (fun _ hw => List.mem_cons_of_mem _ hw) rfl (Nat.le_of_ble_eq_true rfl) (fun p e s m args below meth c X hr hin => sd_R_loadCell_0 X hr hin h)
abbrev rm_R_storeCell : Room := { frames := 1, cells := 0, slots := 0, locals := 21 }
section
variable {p : Program} {l : Launch} {e : Env} {s : State} {m : MethodId} {args : Array Value} {below : List Frame} {meth : Method} {c : Code} {D : va_G} {dA : Nat → ClassId} {B : Nat} {zE : ZT} {ad0 : Ro → Nat} {M0 : wM}
def wp_R_storeCell (post : Int32 → wM → Prop) (x0 : Option Ro) (x1 : Option Ro) (M : wM) : Prop := gR M x0 3 3 (fun a1 => gI M x1 5 1 (fun a5 => lI M a1 a5 (fun a8 => wp_S_isWithin (fun a13 M13 => (¬ a13 = 0 → gR M13 x0 3 0 (fun a22 => gR M13 a22 6 1 (fun a25 => gR M13 x0 3 3 (fun a30 => gI M13 x1 5 2 (fun a34 => lI M13 a30 a34 (fun a37 => sI M13 a25 a8 a37 (fun M38 => post 0 M38))))))) ∧ (a13 = 0 → post (-1) M13)) a8 8 M)))
set_option maxRecDepth 100000 in
set_option maxHeartbeats 4000000 in
theorem sd_R_storeCell_0 (X : Cx p s m args meth c b_R_storeCell 3 R_R TBL D dA B zE) (hr : meth.sig.returnType = (some .int)) (hin : meth.name = y_R_storeCell.name) {post : Int32 → wM → Prop} {x0 : Option Ro} {x1 : Option Ro} {M : wM} (h : wp_R_storeCell post x0 x1 M) : AW p l e (headSpec w_R_storeCell rm_R_storeCell).room s m args below meth c (MQ below (QI D dA B zE M0 ad0 post) args s 0 0 (wA B)) D dA B zE 3 ad0 M0 M 0 0 0 [(0, vR x0), (1, vR x1)] [] := by
  unfold wp_R_storeCell at h
  refine aw_aload_n X 0 rfl d_R_storeCell_0 rfl ?_
  refine aw_gR X hc_3 in_3 3 (by decide) LK_33 (fun _ _ _ _ h => h) d_R_storeCell_1 (h.mono (fun a1 h => ?_))
  refine aw_aload_n X 1 rfl d_R_storeCell_4 rfl ?_
  refine aw_gI X hc_5 in_5 1 (by decide) LK_330 (fun _ _ _ _ h => h) d_R_storeCell_5 (h.mono (fun a5 h => ?_))
  refine aw_lI X d_R_storeCell_8 (h.mono (fun a8 h => ?_))
  refine aw_istore_n (lvn := [(2, _), (0, _), (1, _)]) X d_R_storeCell_9 rfl (by decide) rfl ?_
  refine aw_iload_n X 0 rfl d_R_storeCell_10 rfl ?_
  refine aw_bipush X (8) (by decide) d_R_storeCell_11 ?_
  refine aw_cSNi X [_, _] (fun ad hlv => t_S_isWithin l hlv h) ⟨va_cnB (host := "PartitionedProcedureStore") 2 X.hts (gd_in LK_code_S_isWithin) rfl rfl rfl (X.hG.2.2.2 _ NW_331) (X.hts _ LK_122) (by decide +kernel) ⟨(Nat.le_of_ble_eq_true rfl), (Nat.le_of_ble_eq_true rfl)⟩, X.hts _ LK_121, trivial⟩ rfl rfl (Nat.le_of_ble_eq_true rfl) d_R_storeCell_13 ⟨(Nat.le_of_ble_eq_true rfl), (Nat.le_of_ble_eq_true rfl)⟩ (fun a13 M13 h => ?_)
  refine aw_if_ne (tgt := 21) X d_R_storeCell_16 (by decide) (fun c => ?_) (fun c => ?_)
  · have h := h.1 c
    refine aw_aload_n X 1 rfl d_R_storeCell_21 rfl ?_
    refine aw_gR X hc_3 in_3 0 (by decide) LK_31 (fun _ _ _ _ h => h) d_R_storeCell_22 (h.mono (fun a22 h => ?_))
    refine aw_gR X hc_6 in_6 1 (by decide) LK_332 (fun _ _ _ _ h => h) d_R_storeCell_25 (h.mono (fun a25 h => ?_))
    refine aw_iload_n X 0 rfl d_R_storeCell_28 rfl ?_
    refine aw_aload_n X 1 rfl d_R_storeCell_29 rfl ?_
    refine aw_gR X hc_3 in_3 3 (by decide) LK_33 (fun _ _ _ _ h => h) d_R_storeCell_30 (h.mono (fun a30 h => ?_))
    refine aw_aload_n X 2 rfl d_R_storeCell_33 rfl ?_
    refine aw_gI X hc_5 in_5 2 (by decide) LK_325 (fun _ _ _ _ h => h) d_R_storeCell_34 (h.mono (fun a34 h => ?_))
    refine aw_lI X d_R_storeCell_37 (h.mono (fun a37 h => ?_))
    refine aw_sI X d_R_storeCell_38 (h.mono (fun M38 h => ?_))
    refine aw_iconst X (0) (by decide) d_R_storeCell_39 ?_
    exact aw_iret X hr (Nat.le_of_ble_eq_true rfl) (Nat.le_of_ble_eq_true rfl) d_R_storeCell_40 h
  · have h := h.2 c
    refine aw_iconst X (-1) (by decide) d_R_storeCell_19 ?_
    exact aw_iret X hr (Nat.le_of_ble_eq_true rfl) (Nat.le_of_ble_eq_true rfl) d_R_storeCell_20 h
end
theorem t_R_storeCell (l : Launch) {D : va_G} {dA : Nat → ClassId} {B : Nat} {zE : ZT} {M : wM} {ad : Ro → Nat} {post : Int32 → wM → Prop} {x0 : Option Ro} {x1 : Option Ro} (hlv : lvS M [vR x0, vR x1]) (h : wp_R_storeCell post x0 x1 M) : Met l y_R_storeCell w_R_storeCell rm_R_storeCell (PA D dA B zE M ad [vR x0, vR x1]) (QI D dA B zE M ad post) 0 0 (wA B) :=
  AW_start [vR x0, vR x1] [(0, vR x0), (1, vR x1)] hlv (by decide +kernel) rfl (fun _ hw => List.mem_cons_of_mem _ hw) rfl (Nat.le_of_ble_eq_true rfl) (fun p e s m args below meth c X hr hin => sd_R_storeCell_0 X hr hin h)
abbrev rm_R_putOut : Room := { frames := 0, cells := 0, slots := 0, locals := 0 }
section
variable {p : Program} {l : Launch} {e : Env} {s : State} {m : MethodId} {args : Array Value} {below : List Frame} {meth : Method} {c : Code} {D : va_G} {dA : Nat → ClassId} {B : Nat} {zE : ZT} {ad0 : Ro → Nat} {M0 : wM}
def wp_R_putOut (post : Int32 → wM → Prop) (x0 : Option Ro) (x1 : Int32) (M : wM) : Prop := gI M x0 3 6 (fun a1 => (a1 < (4 : Int32) → gR M x0 3 5 (fun a11 => gI M x0 3 6 (fun a15 => sI M a11 a15 x1 (fun M19 => gI M19 x0 3 6 (fun a22 => pF M19 x0 3 6 (vI (a22 + 1)) (fun M27 => post 0 M27)))))) ∧ (¬ a1 < (4 : Int32) → post (-1) M))
set_option maxRecDepth 100000 in
set_option maxHeartbeats 4000000 in
theorem sd_R_putOut_0 (X : Cx p s m args meth c b_R_putOut 2 R_R TBL D dA B zE) (hr : meth.sig.returnType = (some .int)) (hin : meth.name = y_R_putOut.name) {post : Int32 → wM → Prop} {x0 : Option Ro} {x1 : Int32} {M : wM} (h : wp_R_putOut post x0 x1 M) : AW p l e (headSpec w_R_putOut rm_R_putOut).room s m args below meth c (MQ below (QI D dA B zE M0 ad0 post) args s 0 0 (wA B)) D dA B zE 2 ad0 M0 M 0 0 0 [(0, vR x0), (1, vI x1)] [] := by
  unfold wp_R_putOut at h
  refine aw_aload_n X 0 rfl d_R_putOut_0 rfl ?_
  refine aw_gI X hc_3 in_3 6 (by decide) LK_36 (fun _ _ _ _ h => h) d_R_putOut_1 (h.mono (fun a1 h => ?_))
  refine aw_iconst X (4) (by decide) d_R_putOut_4 ?_
  refine aw_icmp_lt (tgt := 10) X d_R_putOut_5 (by decide) (fun c => ?_) (fun c => ?_)
  · have h := h.1 c
    refine aw_aload_n X 0 rfl d_R_putOut_10 rfl ?_
    refine aw_gR X hc_3 in_3 5 (by decide) LK_35 (fun _ _ _ _ h => h) d_R_putOut_11 (h.mono (fun a11 h => ?_))
    refine aw_aload_n X 0 rfl d_R_putOut_14 rfl ?_
    refine aw_gI X hc_3 in_3 6 (by decide) LK_36 (fun _ _ _ _ h => h) d_R_putOut_15 (h.mono (fun a15 h => ?_))
    refine aw_iload_n X 1 rfl d_R_putOut_18 rfl ?_
    refine aw_sI X d_R_putOut_19 (h.mono (fun M19 h => ?_))
    refine aw_aload_n X 0 rfl d_R_putOut_20 rfl ?_
    refine aw_dup X rfl d_R_putOut_21 ?_
    refine aw_gI X hc_3 in_3 6 (by decide) LK_36 (fun _ _ _ _ h => h) d_R_putOut_22 (h.mono (fun a22 h => ?_))
    refine aw_iconst X (1) (by decide) d_R_putOut_25 ?_
    refine aw_iadd X d_R_putOut_26 ?_
    refine aw_pF (ty := .int) X hc_3 in_3 6 (by decide) ty_3 tyok_3 nm_3 LK_36 (fun _ _ _ _ h => h) rfl (by decide +kernel) (fun _ => ⟨rfl, rfl⟩) d_R_putOut_27 (h.mono (fun M27 h => ?_))
    refine aw_iconst X (0) (by decide) d_R_putOut_30 ?_
    exact aw_iret X hr (Nat.le_of_ble_eq_true rfl) (Nat.le_of_ble_eq_true rfl) d_R_putOut_31 h
  · have h := h.2 c
    refine aw_iconst X (-1) (by decide) d_R_putOut_8 ?_
    exact aw_iret X hr (Nat.le_of_ble_eq_true rfl) (Nat.le_of_ble_eq_true rfl) d_R_putOut_9 h
end
theorem t_R_putOut (l : Launch) {D : va_G} {dA : Nat → ClassId} {B : Nat} {zE : ZT} {M : wM} {ad : Ro → Nat} {post : Int32 → wM → Prop} {x0 : Option Ro} {x1 : Int32} (hlv : lvS M [vR x0, vI x1]) (h : wp_R_putOut post x0 x1 M) : Met l y_R_putOut w_R_putOut rm_R_putOut (PA D dA B zE M ad [vR x0, vI x1]) (QI D dA B zE M ad post) 0 0 (wA B) :=
  AW_start [vR x0, vI x1] [(0, vR x0), (1, vI x1)] hlv (by decide +kernel) rfl (fun _ hw => List.mem_cons_of_mem _ hw) rfl (Nat.le_of_ble_eq_true rfl) (fun p e s m args below meth c X hr hin => sd_R_putOut_0 X hr hin h)
abbrev rm_R_execute : Room := { frames := 3, cells := 0, slots := 0, locals := 64 }
section
variable {p : Program} {l : Launch} {e : Env} {s : State} {m : MethodId} {args : Array Value} {below : List Frame} {meth : Method} {c : Code} {D : va_G} {dA : Nat → ClassId} {B : Nat} {zE : ZT} {ad0 : Ro → Nat} {M0 : wM}
def wp_R_execute_267 (post : Int32 → wM → Prop) (x0 : Option Ro) (x1 : Option Ro) (s0 : Int32) (M : wM) : Prop := post s0 M
set_option maxRecDepth 100000 in
set_option maxHeartbeats 4000000 in
theorem sd_R_execute_267 (X : Cx p s m args meth c b_R_execute 2 R_R TBL D dA B zE) (hr : meth.sig.returnType = (some .int)) (hin : meth.name = y_R_execute.name) {post : Int32 → wM → Prop} {x0 : Option Ro} {x1 : Option Ro} {s0 : Int32} {M : wM} (h : wp_R_execute_267 post x0 x1 s0 M) : AW p l e (headSpec w_R_execute rm_R_execute).room s m args below meth c (MQ below (QI D dA B zE M0 ad0 post) args s 0 0 (wA B)) D dA B zE 2 ad0 M0 M 0 0 267 [(0, vR x0), (1, vR x1)] [vI s0] := by
  unfold wp_R_execute_267 at h
  exact aw_iret X hr (Nat.le_of_ble_eq_true rfl) (Nat.le_of_ble_eq_true rfl) d_R_execute_267 h
def wp_R_execute_246 (post : Int32 → wM → Prop) (x0 : Option Ro) (x1 : Option Ro) (s0 : Int32) (M : wM) : Prop := post s0 M
set_option maxRecDepth 100000 in
set_option maxHeartbeats 4000000 in
theorem sd_R_execute_246 (X : Cx p s m args meth c b_R_execute 2 R_R TBL D dA B zE) (hr : meth.sig.returnType = (some .int)) (hin : meth.name = y_R_execute.name) {post : Int32 → wM → Prop} {x0 : Option Ro} {x1 : Option Ro} {s0 : Int32} {M : wM} (h : wp_R_execute_246 post x0 x1 s0 M) : AW p l e (headSpec w_R_execute rm_R_execute).room s m args below meth c (MQ below (QI D dA B zE M0 ad0 post) args s 0 0 (wA B)) D dA B zE 2 ad0 M0 M 0 0 246 [(0, vR x0), (1, vR x1)] [vI s0] := by
  unfold wp_R_execute_246 at h
  exact aw_iret X hr (Nat.le_of_ble_eq_true rfl) (Nat.le_of_ble_eq_true rfl) d_R_execute_246 h
def wp_R_execute_174 (post : Int32 → wM → Prop) (x0 : Option Ro) (x1 : Option Ro) (s0 : Int32) (M : wM) : Prop := post s0 M
set_option maxRecDepth 100000 in
set_option maxHeartbeats 4000000 in
theorem sd_R_execute_174 (X : Cx p s m args meth c b_R_execute 2 R_R TBL D dA B zE) (hr : meth.sig.returnType = (some .int)) (hin : meth.name = y_R_execute.name) {post : Int32 → wM → Prop} {x0 : Option Ro} {x1 : Option Ro} {s0 : Int32} {M : wM} (h : wp_R_execute_174 post x0 x1 s0 M) : AW p l e (headSpec w_R_execute rm_R_execute).room s m args below meth c (MQ below (QI D dA B zE M0 ad0 post) args s 0 0 (wA B)) D dA B zE 2 ad0 M0 M 0 0 174 [(0, vR x0), (1, vR x1)] [vI s0] := by
  unfold wp_R_execute_174 at h
  exact aw_iret X hr (Nat.le_of_ble_eq_true rfl) (Nat.le_of_ble_eq_true rfl) d_R_execute_174 h
def wp_R_execute_137 (post : Int32 → wM → Prop) (x0 : Option Ro) (x1 : Option Ro) (s0 : Int32) (M : wM) : Prop := post s0 M
set_option maxRecDepth 100000 in
set_option maxHeartbeats 4000000 in
theorem sd_R_execute_137 (X : Cx p s m args meth c b_R_execute 2 R_R TBL D dA B zE) (hr : meth.sig.returnType = (some .int)) (hin : meth.name = y_R_execute.name) {post : Int32 → wM → Prop} {x0 : Option Ro} {x1 : Option Ro} {s0 : Int32} {M : wM} (h : wp_R_execute_137 post x0 x1 s0 M) : AW p l e (headSpec w_R_execute rm_R_execute).room s m args below meth c (MQ below (QI D dA B zE M0 ad0 post) args s 0 0 (wA B)) D dA B zE 2 ad0 M0 M 0 0 137 [(0, vR x0), (1, vR x1)] [vI s0] := by
  unfold wp_R_execute_137 at h
  exact aw_iret X hr (Nat.le_of_ble_eq_true rfl) (Nat.le_of_ble_eq_true rfl) d_R_execute_137 h
def wp_R_execute (post : Int32 → wM → Prop) (x0 : Option Ro) (x1 : Option Ro) (M : wM) : Prop := gI M x1 5 0 (fun a1 => (a1 = 0 → cV M x0 3 (wp_R_readRow (fun a66 M66 => post a66 M66) x0 x1 M)) ∧ (¬ a1 = 0 → (a1 = 1 → gR M x0 3 3 (fun a72 => gI M x1 5 1 (fun a76 => lI M a72 a76 (fun a79 => gR M x0 3 3 (fun a81 => gI M x1 5 2 (fun a85 => lI M a81 a85 (fun a88 => cV M x0 3 (wp_R_writeRow (fun a90 M90 => post a90 M90) x0 a79 a88.toInt64 M)))))))) ∧ (¬ a1 = 1 → (a1 = 2 → gR M x0 3 3 (fun a96 => gI M x1 5 1 (fun a100 => lI M a96 a100 (fun a103 => cV M x0 3 (wp_R_isPresent (fun a104 M104 => (a104 = 0 → gR M104 x0 3 3 (fun a116 => gI M104 x1 5 1 (fun a120 => lI M104 a116 a120 (fun a123 => gR M104 x0 3 3 (fun a125 => gI M104 x1 5 2 (fun a129 => lI M104 a125 a129 (fun a132 => cV M104 x0 3 (wp_R_writeRow (fun a134 M134 => wp_R_execute_137 post x0 x1 a134 M134) x0 a123 a132.toInt64 M104)))))))) ∧ (¬ a104 = 0 → wp_R_execute_137 post x0 x1 (-1) M104)) x0 a103 M))))) ∧ (¬ a1 = 2 → (a1 = 3 → gR M x0 3 3 (fun a140 => gI M x1 5 1 (fun a144 => lI M a140 a144 (fun a147 => cV M x0 3 (wp_R_isPresent (fun a148 M148 => (a148 = 0 → wp_R_execute_174 post x0 x1 (-1) M148) ∧ (¬ a148 = 0 → gR M148 x0 3 3 (fun a156 => gI M148 x1 5 1 (fun a160 => lI M148 a156 a160 (fun a163 => cV M148 x0 3 (wp_R_writeRow (fun a167 M167 => wp_R_execute_174 post x0 x1 a167 M167) x0 a163 (1000000000000) M148)))))) x0 a147 M))))) ∧ (¬ a1 = 3 → (a1 = 4 → gR M x0 3 3 (fun a176 => gI M x1 5 1 (fun a180 => gR M x0 3 3 (fun a184 => gI M x1 5 2 (fun a188 => lI M a184 a188 (fun a191 => gR M x0 3 3 (fun a193 => gI M x1 5 3 (fun a197 => lI M a193 a197 (fun a200 => sI M a176 a180 (a191 + a200) (fun M202 => post 0 M202)))))))))) ∧ (¬ a1 = 4 → (a1 = 5 → gR M x0 3 3 (fun a206 => gI M x1 5 1 (fun a210 => gI M x1 5 2 (fun a214 => sI M a206 a210 a214 (fun M217 => post 0 M217))))) ∧ (¬ a1 = 5 → (a1 = 6 → gR M x0 3 3 (fun a221 => gI M x1 5 1 (fun a225 => lI M a221 a225 (fun a228 => gR M x0 3 3 (fun a230 => gI M x1 5 2 (fun a234 => lI M a230 a234 (fun a237 => (a237 ≤ a228 → wp_R_execute_246 post x0 x1 0 M) ∧ (¬ a237 ≤ a228 → wp_R_execute_246 post x0 x1 (-1) M)))))))) ∧ (¬ a1 = 6 → (a1 = 7 → gR M x0 3 3 (fun a248 => gI M x1 5 1 (fun a252 => lI M a248 a252 (fun a255 => (¬ a255 = 0 → wp_R_execute_267 post x0 x1 0 M) ∧ (a255 = 0 → gI M x1 5 2 (fun a260 => wp_R_execute_267 post x0 x1 a260 M)))))) ∧ (¬ a1 = 7 → (a1 = 8 → cV M x0 3 (wp_R_loadCell (fun a270 M270 => post a270 M270) x0 x1 M)) ∧ (¬ a1 = 8 → (a1 = 9 → cV M x0 3 (wp_R_storeCell (fun a276 M276 => post a276 M276) x0 x1 M)) ∧ (¬ a1 = 9 → (a1 = 10 → gR M x0 3 3 (fun a282 => gI M x1 5 1 (fun a286 => lI M a282 a286 (fun a289 => cV M x0 3 (wp_R_putOut (fun a290 M290 => post a290 M290) x0 a289 M))))) ∧ (¬ a1 = 10 → post (-1) M))))))))))))
set_option maxRecDepth 100000 in
set_option maxHeartbeats 4000000 in
theorem sd_R_execute_0 (X : Cx p s m args meth c b_R_execute 2 R_R TBL D dA B zE) (hr : meth.sig.returnType = (some .int)) (hin : meth.name = y_R_execute.name) {post : Int32 → wM → Prop} {x0 : Option Ro} {x1 : Option Ro} {M : wM} (h : wp_R_execute post x0 x1 M) : AW p l e (headSpec w_R_execute rm_R_execute).room s m args below meth c (MQ below (QI D dA B zE M0 ad0 post) args s 0 0 (wA B)) D dA B zE 2 ad0 M0 M 0 0 0 [(0, vR x0), (1, vR x1)] [] := by
  unfold wp_R_execute at h
  refine aw_aload_n X 1 rfl d_R_execute_0 rfl ?_
  refine aw_gI X hc_5 in_5 0 (by decide) LK_333 (fun _ _ _ _ h => h) d_R_execute_1 (h.mono (fun a1 h => ?_))
  rcases Decidable.em (a1 = 0) with c0 | c0
  · have h := h.1 c0
    refine aw_tableIn (off := 60) (tgt := 64) X d_R_execute_4 c0 (by decide) (by decide) (by decide) (by decide) ?_
    refine aw_aload_n X 0 rfl d_R_execute_64 rfl ?_
    refine aw_aload_n X 1 rfl d_R_execute_65 rfl ?_
    obtain ⟨⟨r66, f66, e66, g66⟩, h⟩ := h
    cases e66
    refine aw_cVi X [_] (fun ad hlv => t_R_readRow l hlv h) (cwV 1 X.hts (gd_V LK_334 LK_335 LK_336 LK_103 LK_code_R_readRow) rfl rfl rfl (by decide +kernel) ⟨(Nat.le_of_ble_eq_true rfl), (Nat.le_of_ble_eq_true rfl)⟩) ⟨3, f66, _, g66, hc_3, rfl⟩ rfl rfl (Nat.le_of_ble_eq_true rfl) d_R_execute_66 ⟨(Nat.le_of_ble_eq_true rfl), (Nat.le_of_ble_eq_true rfl)⟩ (fun a66 M66 h => ?_)
    exact aw_iret X hr (Nat.le_of_ble_eq_true rfl) (Nat.le_of_ble_eq_true rfl) d_R_execute_69 h
  · have h := h.2 c0
    rcases Decidable.em (a1 = 1) with c1 | c1
    · have h := h.1 c1
      refine aw_tableIn (off := 66) (tgt := 70) X d_R_execute_4 c1 (by decide) (by decide) (by decide) (by decide) ?_
      refine aw_aload_n X 0 rfl d_R_execute_70 rfl ?_
      refine aw_aload_n X 0 rfl d_R_execute_71 rfl ?_
      refine aw_gR X hc_3 in_3 3 (by decide) LK_33 (fun _ _ _ _ h => h) d_R_execute_72 (h.mono (fun a72 h => ?_))
      refine aw_aload_n X 1 rfl d_R_execute_75 rfl ?_
      refine aw_gI X hc_5 in_5 1 (by decide) LK_330 (fun _ _ _ _ h => h) d_R_execute_76 (h.mono (fun a76 h => ?_))
      refine aw_lI X d_R_execute_79 (h.mono (fun a79 h => ?_))
      refine aw_aload_n X 0 rfl d_R_execute_80 rfl ?_
      refine aw_gR X hc_3 in_3 3 (by decide) LK_33 (fun _ _ _ _ h => h) d_R_execute_81 (h.mono (fun a81 h => ?_))
      refine aw_aload_n X 1 rfl d_R_execute_84 rfl ?_
      refine aw_gI X hc_5 in_5 2 (by decide) LK_325 (fun _ _ _ _ h => h) d_R_execute_85 (h.mono (fun a85 h => ?_))
      refine aw_lI X d_R_execute_88 (h.mono (fun a88 h => ?_))
      refine aw_i2l X d_R_execute_89 ?_
      obtain ⟨⟨r90, f90, e90, g90⟩, h⟩ := h
      cases e90
      refine aw_cVi X [_, _] (fun ad hlv => t_R_writeRow l hlv h) (cwV 2 X.hts (gd_V LK_338 LK_339 LK_340 LK_103 LK_code_R_writeRow) rfl rfl rfl (by decide +kernel) ⟨(Nat.le_of_ble_eq_true rfl), (Nat.le_of_ble_eq_true rfl)⟩) ⟨3, f90, _, g90, hc_3, rfl⟩ rfl rfl (Nat.le_of_ble_eq_true rfl) d_R_execute_90 ⟨(Nat.le_of_ble_eq_true rfl), (Nat.le_of_ble_eq_true rfl)⟩ (fun a90 M90 h => ?_)
      exact aw_iret X hr (Nat.le_of_ble_eq_true rfl) (Nat.le_of_ble_eq_true rfl) d_R_execute_93 h
    · have h := h.2 c1
      rcases Decidable.em (a1 = 2) with c2 | c2
      · have h := h.1 c2
        refine aw_tableIn (off := 90) (tgt := 94) X d_R_execute_4 c2 (by decide) (by decide) (by decide) (by decide) ?_
        refine aw_aload_n X 0 rfl d_R_execute_94 rfl ?_
        refine aw_aload_n X 0 rfl d_R_execute_95 rfl ?_
        refine aw_gR X hc_3 in_3 3 (by decide) LK_33 (fun _ _ _ _ h => h) d_R_execute_96 (h.mono (fun a96 h => ?_))
        refine aw_aload_n X 1 rfl d_R_execute_99 rfl ?_
        refine aw_gI X hc_5 in_5 1 (by decide) LK_330 (fun _ _ _ _ h => h) d_R_execute_100 (h.mono (fun a100 h => ?_))
        refine aw_lI X d_R_execute_103 (h.mono (fun a103 h => ?_))
        obtain ⟨⟨r104, f104, e104, g104⟩, h⟩ := h
        cases e104
        refine aw_cVi X [_] (fun ad hlv => t_R_isPresent l hlv h) (cwV 1 X.hts (gd_V LK_326 LK_327 LK_328 LK_103 LK_code_R_isPresent) rfl rfl rfl (by decide +kernel) ⟨(Nat.le_of_ble_eq_true rfl), (Nat.le_of_ble_eq_true rfl)⟩) ⟨3, f104, _, g104, hc_3, rfl⟩ rfl rfl (Nat.le_of_ble_eq_true rfl) d_R_execute_104 ⟨(Nat.le_of_ble_eq_true rfl), (Nat.le_of_ble_eq_true rfl)⟩ (fun a104 M104 h => ?_)
        refine aw_if_eq (tgt := 114) X d_R_execute_107 (by decide) (fun c => ?_) (fun c => ?_)
        · have h := h.1 c
          refine aw_aload_n X 0 rfl d_R_execute_114 rfl ?_
          refine aw_aload_n X 0 rfl d_R_execute_115 rfl ?_
          refine aw_gR X hc_3 in_3 3 (by decide) LK_33 (fun _ _ _ _ h => h) d_R_execute_116 (h.mono (fun a116 h => ?_))
          refine aw_aload_n X 1 rfl d_R_execute_119 rfl ?_
          refine aw_gI X hc_5 in_5 1 (by decide) LK_330 (fun _ _ _ _ h => h) d_R_execute_120 (h.mono (fun a120 h => ?_))
          refine aw_lI X d_R_execute_123 (h.mono (fun a123 h => ?_))
          refine aw_aload_n X 0 rfl d_R_execute_124 rfl ?_
          refine aw_gR X hc_3 in_3 3 (by decide) LK_33 (fun _ _ _ _ h => h) d_R_execute_125 (h.mono (fun a125 h => ?_))
          refine aw_aload_n X 1 rfl d_R_execute_128 rfl ?_
          refine aw_gI X hc_5 in_5 2 (by decide) LK_325 (fun _ _ _ _ h => h) d_R_execute_129 (h.mono (fun a129 h => ?_))
          refine aw_lI X d_R_execute_132 (h.mono (fun a132 h => ?_))
          refine aw_i2l X d_R_execute_133 ?_
          obtain ⟨⟨r134, f134, e134, g134⟩, h⟩ := h
          cases e134
          refine aw_cVi X [_, _] (fun ad hlv => t_R_writeRow l hlv h) (cwV 2 X.hts (gd_V LK_338 LK_339 LK_340 LK_103 LK_code_R_writeRow) rfl rfl rfl (by decide +kernel) ⟨(Nat.le_of_ble_eq_true rfl), (Nat.le_of_ble_eq_true rfl)⟩) ⟨3, f134, _, g134, hc_3, rfl⟩ rfl rfl (Nat.le_of_ble_eq_true rfl) d_R_execute_134 ⟨(Nat.le_of_ble_eq_true rfl), (Nat.le_of_ble_eq_true rfl)⟩ (fun a134 M134 h => ?_)
          exact sd_R_execute_137 X hr hin h
        · have h := h.2 c
          refine aw_iconst X (-1) (by decide) d_R_execute_110 ?_
          refine aw_goto (tgt := 137) X d_R_execute_111 (by decide) ?_
          exact sd_R_execute_137 X hr hin h
      · have h := h.2 c2
        rcases Decidable.em (a1 = 3) with c3 | c3
        · have h := h.1 c3
          refine aw_tableIn (off := 134) (tgt := 138) X d_R_execute_4 c3 (by decide) (by decide) (by decide) (by decide) ?_
          refine aw_aload_n X 0 rfl d_R_execute_138 rfl ?_
          refine aw_aload_n X 0 rfl d_R_execute_139 rfl ?_
          refine aw_gR X hc_3 in_3 3 (by decide) LK_33 (fun _ _ _ _ h => h) d_R_execute_140 (h.mono (fun a140 h => ?_))
          refine aw_aload_n X 1 rfl d_R_execute_143 rfl ?_
          refine aw_gI X hc_5 in_5 1 (by decide) LK_330 (fun _ _ _ _ h => h) d_R_execute_144 (h.mono (fun a144 h => ?_))
          refine aw_lI X d_R_execute_147 (h.mono (fun a147 h => ?_))
          obtain ⟨⟨r148, f148, e148, g148⟩, h⟩ := h
          cases e148
          refine aw_cVi X [_] (fun ad hlv => t_R_isPresent l hlv h) (cwV 1 X.hts (gd_V LK_326 LK_327 LK_328 LK_103 LK_code_R_isPresent) rfl rfl rfl (by decide +kernel) ⟨(Nat.le_of_ble_eq_true rfl), (Nat.le_of_ble_eq_true rfl)⟩) ⟨3, f148, _, g148, hc_3, rfl⟩ rfl rfl (Nat.le_of_ble_eq_true rfl) d_R_execute_148 ⟨(Nat.le_of_ble_eq_true rfl), (Nat.le_of_ble_eq_true rfl)⟩ (fun a148 M148 h => ?_)
          refine aw_if_eq (tgt := 173) X d_R_execute_151 (by decide) (fun c => ?_) (fun c => ?_)
          · have h := h.1 c
            refine aw_iconst X (-1) (by decide) d_R_execute_173 ?_
            exact sd_R_execute_174 X hr hin h
          · have h := h.2 c
            refine aw_aload_n X 0 rfl d_R_execute_154 rfl ?_
            refine aw_aload_n X 0 rfl d_R_execute_155 rfl ?_
            refine aw_gR X hc_3 in_3 3 (by decide) LK_33 (fun _ _ _ _ h => h) d_R_execute_156 (h.mono (fun a156 h => ?_))
            refine aw_aload_n X 1 rfl d_R_execute_159 rfl ?_
            refine aw_gI X hc_5 in_5 1 (by decide) LK_330 (fun _ _ _ _ h => h) d_R_execute_160 (h.mono (fun a160 h => ?_))
            refine aw_lI X d_R_execute_163 (h.mono (fun a163 h => ?_))
            refine aw_ldc2 X LK_324 d_R_execute_164 ?_
            obtain ⟨⟨r167, f167, e167, g167⟩, h⟩ := h
            cases e167
            refine aw_cVi X [_, _] (fun ad hlv => t_R_writeRow l hlv h) (cwV 2 X.hts (gd_V LK_338 LK_339 LK_340 LK_103 LK_code_R_writeRow) rfl rfl rfl (by decide +kernel) ⟨(Nat.le_of_ble_eq_true rfl), (Nat.le_of_ble_eq_true rfl)⟩) ⟨3, f167, _, g167, hc_3, rfl⟩ rfl rfl (Nat.le_of_ble_eq_true rfl) d_R_execute_167 ⟨(Nat.le_of_ble_eq_true rfl), (Nat.le_of_ble_eq_true rfl)⟩ (fun a167 M167 h => ?_)
            refine aw_goto (tgt := 174) X d_R_execute_170 (by decide) ?_
            exact sd_R_execute_174 X hr hin h
        · have h := h.2 c3
          rcases Decidable.em (a1 = 4) with c4 | c4
          · have h := h.1 c4
            refine aw_tableIn (off := 171) (tgt := 175) X d_R_execute_4 c4 (by decide) (by decide) (by decide) (by decide) ?_
            refine aw_aload_n X 0 rfl d_R_execute_175 rfl ?_
            refine aw_gR X hc_3 in_3 3 (by decide) LK_33 (fun _ _ _ _ h => h) d_R_execute_176 (h.mono (fun a176 h => ?_))
            refine aw_aload_n X 1 rfl d_R_execute_179 rfl ?_
            refine aw_gI X hc_5 in_5 1 (by decide) LK_330 (fun _ _ _ _ h => h) d_R_execute_180 (h.mono (fun a180 h => ?_))
            refine aw_aload_n X 0 rfl d_R_execute_183 rfl ?_
            refine aw_gR X hc_3 in_3 3 (by decide) LK_33 (fun _ _ _ _ h => h) d_R_execute_184 (h.mono (fun a184 h => ?_))
            refine aw_aload_n X 1 rfl d_R_execute_187 rfl ?_
            refine aw_gI X hc_5 in_5 2 (by decide) LK_325 (fun _ _ _ _ h => h) d_R_execute_188 (h.mono (fun a188 h => ?_))
            refine aw_lI X d_R_execute_191 (h.mono (fun a191 h => ?_))
            refine aw_aload_n X 0 rfl d_R_execute_192 rfl ?_
            refine aw_gR X hc_3 in_3 3 (by decide) LK_33 (fun _ _ _ _ h => h) d_R_execute_193 (h.mono (fun a193 h => ?_))
            refine aw_aload_n X 1 rfl d_R_execute_196 rfl ?_
            refine aw_gI X hc_5 in_5 3 (by decide) LK_342 (fun _ _ _ _ h => h) d_R_execute_197 (h.mono (fun a197 h => ?_))
            refine aw_lI X d_R_execute_200 (h.mono (fun a200 h => ?_))
            refine aw_iadd X d_R_execute_201 ?_
            refine aw_sI X d_R_execute_202 (h.mono (fun M202 h => ?_))
            refine aw_iconst X (0) (by decide) d_R_execute_203 ?_
            exact aw_iret X hr (Nat.le_of_ble_eq_true rfl) (Nat.le_of_ble_eq_true rfl) d_R_execute_204 h
          · have h := h.2 c4
            rcases Decidable.em (a1 = 5) with c5 | c5
            · have h := h.1 c5
              refine aw_tableIn (off := 201) (tgt := 205) X d_R_execute_4 c5 (by decide) (by decide) (by decide) (by decide) ?_
              refine aw_aload_n X 0 rfl d_R_execute_205 rfl ?_
              refine aw_gR X hc_3 in_3 3 (by decide) LK_33 (fun _ _ _ _ h => h) d_R_execute_206 (h.mono (fun a206 h => ?_))
              refine aw_aload_n X 1 rfl d_R_execute_209 rfl ?_
              refine aw_gI X hc_5 in_5 1 (by decide) LK_330 (fun _ _ _ _ h => h) d_R_execute_210 (h.mono (fun a210 h => ?_))
              refine aw_aload_n X 1 rfl d_R_execute_213 rfl ?_
              refine aw_gI X hc_5 in_5 2 (by decide) LK_325 (fun _ _ _ _ h => h) d_R_execute_214 (h.mono (fun a214 h => ?_))
              refine aw_sI X d_R_execute_217 (h.mono (fun M217 h => ?_))
              refine aw_iconst X (0) (by decide) d_R_execute_218 ?_
              exact aw_iret X hr (Nat.le_of_ble_eq_true rfl) (Nat.le_of_ble_eq_true rfl) d_R_execute_219 h
            · have h := h.2 c5
              rcases Decidable.em (a1 = 6) with c6 | c6
              · have h := h.1 c6
                refine aw_tableIn (off := 216) (tgt := 220) X d_R_execute_4 c6 (by decide) (by decide) (by decide) (by decide) ?_
                refine aw_aload_n X 0 rfl d_R_execute_220 rfl ?_
                refine aw_gR X hc_3 in_3 3 (by decide) LK_33 (fun _ _ _ _ h => h) d_R_execute_221 (h.mono (fun a221 h => ?_))
                refine aw_aload_n X 1 rfl d_R_execute_224 rfl ?_
                refine aw_gI X hc_5 in_5 1 (by decide) LK_330 (fun _ _ _ _ h => h) d_R_execute_225 (h.mono (fun a225 h => ?_))
                refine aw_lI X d_R_execute_228 (h.mono (fun a228 h => ?_))
                refine aw_aload_n X 0 rfl d_R_execute_229 rfl ?_
                refine aw_gR X hc_3 in_3 3 (by decide) LK_33 (fun _ _ _ _ h => h) d_R_execute_230 (h.mono (fun a230 h => ?_))
                refine aw_aload_n X 1 rfl d_R_execute_233 rfl ?_
                refine aw_gI X hc_5 in_5 2 (by decide) LK_325 (fun _ _ _ _ h => h) d_R_execute_234 (h.mono (fun a234 h => ?_))
                refine aw_lI X d_R_execute_237 (h.mono (fun a237 h => ?_))
                refine aw_icmp_ge (tgt := 245) X d_R_execute_238 (by decide) (fun c => ?_) (fun c => ?_)
                · have h := h.1 c
                  refine aw_iconst X (0) (by decide) d_R_execute_245 ?_
                  exact sd_R_execute_246 X hr hin h
                · have h := h.2 c
                  refine aw_iconst X (-1) (by decide) d_R_execute_241 ?_
                  refine aw_goto (tgt := 246) X d_R_execute_242 (by decide) ?_
                  exact sd_R_execute_246 X hr hin h
              · have h := h.2 c6
                rcases Decidable.em (a1 = 7) with c7 | c7
                · have h := h.1 c7
                  refine aw_tableIn (off := 243) (tgt := 247) X d_R_execute_4 c7 (by decide) (by decide) (by decide) (by decide) ?_
                  refine aw_aload_n X 0 rfl d_R_execute_247 rfl ?_
                  refine aw_gR X hc_3 in_3 3 (by decide) LK_33 (fun _ _ _ _ h => h) d_R_execute_248 (h.mono (fun a248 h => ?_))
                  refine aw_aload_n X 1 rfl d_R_execute_251 rfl ?_
                  refine aw_gI X hc_5 in_5 1 (by decide) LK_330 (fun _ _ _ _ h => h) d_R_execute_252 (h.mono (fun a252 h => ?_))
                  refine aw_lI X d_R_execute_255 (h.mono (fun a255 h => ?_))
                  refine aw_if_ne (tgt := 266) X d_R_execute_256 (by decide) (fun c => ?_) (fun c => ?_)
                  · have h := h.1 c
                    refine aw_iconst X (0) (by decide) d_R_execute_266 ?_
                    exact sd_R_execute_267 X hr hin h
                  · have h := h.2 c
                    refine aw_aload_n X 1 rfl d_R_execute_259 rfl ?_
                    refine aw_gI X hc_5 in_5 2 (by decide) LK_325 (fun _ _ _ _ h => h) d_R_execute_260 (h.mono (fun a260 h => ?_))
                    refine aw_goto (tgt := 267) X d_R_execute_263 (by decide) ?_
                    exact sd_R_execute_267 X hr hin h
                · have h := h.2 c7
                  rcases Decidable.em (a1 = 8) with c8 | c8
                  · have h := h.1 c8
                    refine aw_tableIn (off := 264) (tgt := 268) X d_R_execute_4 c8 (by decide) (by decide) (by decide) (by decide) ?_
                    refine aw_aload_n X 0 rfl d_R_execute_268 rfl ?_
                    refine aw_aload_n X 1 rfl d_R_execute_269 rfl ?_
                    obtain ⟨⟨r270, f270, e270, g270⟩, h⟩ := h
                    cases e270
                    refine aw_cVi X [_] (fun ad hlv => t_R_loadCell l hlv h) (cwV 1 X.hts (gd_V LK_343 LK_344 LK_345 LK_103 LK_code_R_loadCell) rfl rfl rfl (by decide +kernel) ⟨(Nat.le_of_ble_eq_true rfl), (Nat.le_of_ble_eq_true rfl)⟩) ⟨3, f270, _, g270, hc_3, rfl⟩ rfl rfl (Nat.le_of_ble_eq_true rfl) d_R_execute_270 ⟨(Nat.le_of_ble_eq_true rfl), (Nat.le_of_ble_eq_true rfl)⟩ (fun a270 M270 h => ?_)
                    exact aw_iret X hr (Nat.le_of_ble_eq_true rfl) (Nat.le_of_ble_eq_true rfl) d_R_execute_273 h
                  · have h := h.2 c8
                    rcases Decidable.em (a1 = 9) with c9 | c9
                    · have h := h.1 c9
                      refine aw_tableIn (off := 270) (tgt := 274) X d_R_execute_4 c9 (by decide) (by decide) (by decide) (by decide) ?_
                      refine aw_aload_n X 0 rfl d_R_execute_274 rfl ?_
                      refine aw_aload_n X 1 rfl d_R_execute_275 rfl ?_
                      obtain ⟨⟨r276, f276, e276, g276⟩, h⟩ := h
                      cases e276
                      refine aw_cVi X [_] (fun ad hlv => t_R_storeCell l hlv h) (cwV 1 X.hts (gd_V LK_347 LK_348 LK_349 LK_103 LK_code_R_storeCell) rfl rfl rfl (by decide +kernel) ⟨(Nat.le_of_ble_eq_true rfl), (Nat.le_of_ble_eq_true rfl)⟩) ⟨3, f276, _, g276, hc_3, rfl⟩ rfl rfl (Nat.le_of_ble_eq_true rfl) d_R_execute_276 ⟨(Nat.le_of_ble_eq_true rfl), (Nat.le_of_ble_eq_true rfl)⟩ (fun a276 M276 h => ?_)
                      exact aw_iret X hr (Nat.le_of_ble_eq_true rfl) (Nat.le_of_ble_eq_true rfl) d_R_execute_279 h
                    · have h := h.2 c9
                      rcases Decidable.em (a1 = 10) with c10 | c10
                      · have h := h.1 c10
                        refine aw_tableIn (off := 276) (tgt := 280) X d_R_execute_4 c10 (by decide) (by decide) (by decide) (by decide) ?_
                        refine aw_aload_n X 0 rfl d_R_execute_280 rfl ?_
                        refine aw_aload_n X 0 rfl d_R_execute_281 rfl ?_
                        refine aw_gR X hc_3 in_3 3 (by decide) LK_33 (fun _ _ _ _ h => h) d_R_execute_282 (h.mono (fun a282 h => ?_))
                        refine aw_aload_n X 1 rfl d_R_execute_285 rfl ?_
                        refine aw_gI X hc_5 in_5 1 (by decide) LK_330 (fun _ _ _ _ h => h) d_R_execute_286 (h.mono (fun a286 h => ?_))
                        refine aw_lI X d_R_execute_289 (h.mono (fun a289 h => ?_))
                        obtain ⟨⟨r290, f290, e290, g290⟩, h⟩ := h
                        cases e290
                        refine aw_cVi X [_] (fun ad hlv => t_R_putOut l hlv h) (cwV 1 X.hts (gd_V LK_351 LK_352 LK_353 LK_103 LK_code_R_putOut) rfl rfl rfl (by decide +kernel) ⟨(Nat.le_of_ble_eq_true rfl), (Nat.le_of_ble_eq_true rfl)⟩) ⟨3, f290, _, g290, hc_3, rfl⟩ rfl rfl (Nat.le_of_ble_eq_true rfl) d_R_execute_290 ⟨(Nat.le_of_ble_eq_true rfl), (Nat.le_of_ble_eq_true rfl)⟩ (fun a290 M290 h => ?_)
                        exact aw_iret X hr (Nat.le_of_ble_eq_true rfl) (Nat.le_of_ble_eq_true rfl) d_R_execute_293 h
                      · have h := h.2 c10
                        have z0 := lv_neT (a := 0) c0 (by decide)
                        have z1 := lv_neT (a := 1) c1 (by decide)
                        have z2 := lv_neT (a := 2) c2 (by decide)
                        have z3 := lv_neT (a := 3) c3 (by decide)
                        have z4 := lv_neT (a := 4) c4 (by decide)
                        have z5 := lv_neT (a := 5) c5 (by decide)
                        have z6 := lv_neT (a := 6) c6 (by decide)
                        have z7 := lv_neT (a := 7) c7 (by decide)
                        have z8 := lv_neT (a := 8) c8 (by decide)
                        have z9 := lv_neT (a := 9) c9 (by decide)
                        have z10 := lv_neT (a := 10) c10 (by decide)
                        refine aw_tableOut (tgt := 294) X d_R_execute_4 (by omega) (by decide) ?_
                        refine aw_iconst X (-1) (by decide) d_R_execute_294 ?_
                        exact aw_iret X hr (Nat.le_of_ble_eq_true rfl) (Nat.le_of_ble_eq_true rfl) d_R_execute_295 h
end
theorem t_R_execute (l : Launch) {D : va_G} {dA : Nat → ClassId} {B : Nat} {zE : ZT} {M : wM} {ad : Ro → Nat} {post : Int32 → wM → Prop} {x0 : Option Ro} {x1 : Option Ro} (hlv : lvS M [vR x0, vR x1]) (h : wp_R_execute post x0 x1 M) : Met l y_R_execute w_R_execute rm_R_execute (PA D dA B zE M ad [vR x0, vR x1]) (QI D dA B zE M ad post) 0 0 (wA B) :=
  AW_start [vR x0, vR x1] [(0, vR x0), (1, vR x1)] hlv (by decide +kernel) rfl (fun _ hw => List.mem_cons_of_mem _ hw) rfl (Nat.le_of_ble_eq_true rfl) (fun p e s m args below meth c X hr hin => sd_R_execute_0 X hr hin h)
abbrev rm_R_abort : Room := { frames := 3, cells := 0, slots := 0, locals := 102 }
section
variable {p : Program} {l : Launch} {e : Env} {s : State} {m : MethodId} {args : Array Value} {below : List Frame} {meth : Method} {c : Code} {D : va_G} {dA : Nat → ClassId} {B : Nat} {zE : ZT} {ad0 : Ro → Nat} {M0 : wM}
def wp_R_abort (post : wM → Prop) (x0 : Option Ro) (x1 : Int32) (M : wM) : Prop := gR M x0 3 0 (fun a1 => gR M x0 3 2 (fun a5 => cV M a1 6 (wp_B_copyFrom (fun M8 => pF M8 x0 3 6 (vI 0) (fun M13 => pF M13 x0 3 7 (vI x1) (fun M18 => post M18))) a1 a5 M)))
set_option maxRecDepth 100000 in
set_option maxHeartbeats 4000000 in
theorem sd_R_abort_0 (X : Cx p s m args meth c b_R_abort 2 R_R TBL D dA B zE) (hr : meth.sig.returnType = none) (hin : meth.name = y_R_abort.name) {post : wM → Prop} {x0 : Option Ro} {x1 : Int32} {M : wM} (h : wp_R_abort post x0 x1 M) : AW p l e (headSpec w_R_abort rm_R_abort).room s m args below meth c (MQ below (QV D dA B zE M0 ad0 post) args s 0 0 (wA B)) D dA B zE 2 ad0 M0 M 0 0 0 [(0, vR x0), (1, vI x1)] [] := by
  unfold wp_R_abort at h
  refine aw_aload_n X 0 rfl d_R_abort_0 rfl ?_
  refine aw_gR X hc_3 in_3 0 (by decide) LK_31 (fun _ _ _ _ h => h) d_R_abort_1 (h.mono (fun a1 h => ?_))
  refine aw_aload_n X 0 rfl d_R_abort_4 rfl ?_
  refine aw_gR X hc_3 in_3 2 (by decide) LK_32 (fun _ _ _ _ h => h) d_R_abort_5 (h.mono (fun a5 h => ?_))
  obtain ⟨⟨r8, f8, e8, g8⟩, h⟩ := h
  cases e8
  refine aw_cVv X [_] (fun ad hlv => t_B_copyFrom l hlv h) (cwV 1 X.hts (gd_V LK_315 LK_273 LK_274 LK_27 LK_code_B_copyFrom) rfl rfl rfl (by decide +kernel) ⟨(Nat.le_of_ble_eq_true rfl), (Nat.le_of_ble_eq_true rfl)⟩) ⟨6, f8, _, g8, hc_6, rfl⟩ rfl rfl (Nat.le_of_ble_eq_true rfl) d_R_abort_8 ⟨(Nat.le_of_ble_eq_true rfl), (Nat.le_of_ble_eq_true rfl)⟩ (fun M8 h => ?_)
  refine aw_aload_n X 0 rfl d_R_abort_11 rfl ?_
  refine aw_iconst X (0) (by decide) d_R_abort_12 ?_
  refine aw_pF (ty := .int) X hc_3 in_3 6 (by decide) ty_3 tyok_3 nm_3 LK_36 (fun _ _ _ _ h => h) rfl (by decide +kernel) (fun _ => ⟨rfl, rfl⟩) d_R_abort_13 (h.mono (fun M13 h => ?_))
  refine aw_aload_n X 0 rfl d_R_abort_16 rfl ?_
  refine aw_iload_n X 1 rfl d_R_abort_17 rfl ?_
  refine aw_pF (ty := .int) X hc_3 in_3 7 (by decide) ty_3 tyok_3 nm_3 LK_37 (fun _ _ _ _ h => h) rfl (by decide +kernel) (fun _ => ⟨rfl, rfl⟩) d_R_abort_18 (h.mono (fun M18 h => ?_))
  exact aw_vret X hr (Nat.le_of_ble_eq_true rfl) (Nat.le_of_ble_eq_true rfl) d_R_abort_21 h
end
theorem t_R_abort (l : Launch) {D : va_G} {dA : Nat → ClassId} {B : Nat} {zE : ZT} {M : wM} {ad : Ro → Nat} {post : wM → Prop} {x0 : Option Ro} {x1 : Int32} (hlv : lvS M [vR x0, vI x1]) (h : wp_R_abort post x0 x1 M) : Met l y_R_abort w_R_abort rm_R_abort (PA D dA B zE M ad [vR x0, vI x1]) (QV D dA B zE M ad post) 0 0 (wA B) :=
  AW_start [vR x0, vI x1] [(0, vR x0), (1, vI x1)] hlv (by decide +kernel) rfl (fun _ hw => List.mem_cons_of_mem _ hw) rfl (Nat.le_of_ble_eq_true rfl) (fun p e s m args below meth c X hr hin => sd_R_abort_0 X hr hin h)
abbrev rm_R_run : Room := { frames := 4, cells := 0, slots := 0, locals := 123 }
section
variable {p : Program} {l : Launch} {e : Env} {s : State} {m : MethodId} {args : Array Value} {below : List Frame} {meth : Method} {c : Code} {D : va_G} {dA : Nat → ClassId} {B : Nat} {zE : ZT} {ad0 : Ro → Nat} {M0 : wM}
def wp_R_run_73 (post : Int32 → wM → Prop) (k18 : Option Ro → Option Ro → Option Ro → Int32 → Int32 → wM → Prop) (x0 : Option Ro) (x1 : Option Ro) (x2 : Option Ro) (x3 : Int32) (x4 : Int32) (M : wM) : Prop := k18 x0 x1 x2 x3 (x4 + 1) M
set_option maxRecDepth 100000 in
set_option maxHeartbeats 4000000 in
theorem sd_R_run_73 (X : Cx p s m args meth c b_R_run 6 R_R TBL D dA B zE) (hr : meth.sig.returnType = (some .boolean)) (hin : meth.name = y_R_run.name) {post : Int32 → wM → Prop} {k18 : Option Ro → Option Ro → Option Ro → Int32 → Int32 → wM → Prop} (hk18 : ∀ (x0 : Option Ro) (x1 : Option Ro) (x2 : Option Ro) (x3 : Int32) (x4 : Int32) (M : wM), k18 x0 x1 x2 x3 x4 M → AW p l e (headSpec w_R_run rm_R_run).room s m args below meth c (MQ below (QI D dA B zE M0 ad0 post) args s 0 0 (wA B)) D dA B zE 6 ad0 M0 M 0 0 18 [(0, vR x0), (1, vR x1), (2, vR x2), (3, vI x3), (4, vI x4)] []) {x0 : Option Ro} {x1 : Option Ro} {x2 : Option Ro} {x3 : Int32} {x4 : Int32} {M : wM} (h : wp_R_run_73 post k18 x0 x1 x2 x3 x4 M) : AW p l e (headSpec w_R_run rm_R_run).room s m args below meth c (MQ below (QI D dA B zE M0 ad0 post) args s 0 0 (wA B)) D dA B zE 6 ad0 M0 M 0 0 73 [(0, vR x0), (1, vR x1), (2, vR x2), (3, vI x3), (4, vI x4)] [] := by
  unfold wp_R_run_73 at h
  refine aw_iinc (y := x4 + 1) (lvn := [(4, _), (0, _), (1, _), (2, _), (3, _)]) X 4 rfl d_R_run_73 rfl (by decide) rfl ?_
  refine aw_goto (tgt := 18) X d_R_run_76 (by decide) ?_
  refine aw_lv [1, 2, 3, 4, 0] rfl ?_
  exact hk18 _ _ _ _ _ _ h
def wp_R_run_18 (post : Int32 → wM → Prop) : Nat → Option Ro → Option Ro → Option Ro → Int32 → Int32 → wM → Prop
  | 0, _, _, _, _, _, _ => False
  | n + 1, x0, x1, x2, x3, x4, M => cV M x2 8 (wp_A_size (fun a21 M21 => (a21 ≤ x4 → post 1 M21) ∧ (¬ a21 ≤ x4 → (x3 ≤ x4 → cV M21 x2 8 (wp_A_get (fun a40 M40 => ck M40 a40 5 (cV M40 x0 3 (wp_R_execute (fun a46 M46 => (¬ a46 = ((-1) : Int32) → wp_R_run_73 post (fun x0 x1 x2 x3 x4 M => wp_R_run_18 post n x0 x1 x2 x3 x4 M) x0 x1 x2 ((x4 + 1) + a46) x4 M46) ∧ (a46 = ((-1) : Int32) → cV M46 x0 3 (wp_R_abort (fun M60 => post 0 M60) x0 x4 M46))) x0 a40 M40))) x2 x4 M21)) ∧ (¬ x3 ≤ x4 → wp_R_run_73 post (fun x0 x1 x2 x3 x4 M => wp_R_run_18 post n x0 x1 x2 x3 x4 M) x0 x1 x2 x3 x4 M21))) x2 M)
set_option maxRecDepth 100000 in
set_option maxHeartbeats 4000000 in
theorem sd_R_run_18 (X : Cx p s m args meth c b_R_run 6 R_R TBL D dA B zE) (hr : meth.sig.returnType = (some .boolean)) (hin : meth.name = y_R_run.name) {post : Int32 → wM → Prop} : ∀ (n : Nat) (x0 : Option Ro) (x1 : Option Ro) (x2 : Option Ro) (x3 : Int32) (x4 : Int32) (M : wM), wp_R_run_18 post n x0 x1 x2 x3 x4 M → AW p l e (headSpec w_R_run rm_R_run).room s m args below meth c (MQ below (QI D dA B zE M0 ad0 post) args s 0 0 (wA B)) D dA B zE 6 ad0 M0 M 0 0 18 [(0, vR x0), (1, vR x1), (2, vR x2), (3, vI x3), (4, vI x4)] [] := by
  intro n
  induction n with
  | zero => intro x0 x1 x2 x3 x4 M h; exact h.elim
  | succ n ih =>
    intro x0 x1 x2 x3 x4 M h
    unfold wp_R_run_18 at h
    refine aw_iload X 4 rfl d_R_run_18 ?_
    refine aw_aload_n X 2 rfl d_R_run_20 rfl ?_
    obtain ⟨⟨r21, f21, e21, g21⟩, h⟩ := h
    cases e21
    refine aw_cVi X [] (fun ad hlv => t_A_size l hlv h) (cwV 0 X.hts (gd_V LK_355 LK_176 LK_177 LK_42 LK_code_A_size) rfl rfl rfl (by decide +kernel) ⟨(Nat.le_of_ble_eq_true rfl), (Nat.le_of_ble_eq_true rfl)⟩) ⟨8, f21, _, g21, hc_8, rfl⟩ rfl rfl (Nat.le_of_ble_eq_true rfl) d_R_run_21 ⟨(Nat.le_of_ble_eq_true rfl), (Nat.le_of_ble_eq_true rfl)⟩ (fun a21 M21 h => ?_)
    refine aw_icmp_ge (tgt := 79) X d_R_run_24 (by decide) (fun c => ?_) (fun c => ?_)
    · have h := h.1 c
      refine aw_iconst X (1) (by decide) d_R_run_79 ?_
      exact aw_zret X hr (Or.inr rfl) (Nat.le_of_ble_eq_true rfl) (Nat.le_of_ble_eq_true rfl) d_R_run_80 h
    · have h := h.2 c
      refine aw_iload X 4 rfl d_R_run_27 ?_
      refine aw_iload_n X 3 rfl d_R_run_29 rfl ?_
      refine aw_icmp_ge (tgt := 36) X d_R_run_30 (by decide) (fun c => ?_) (fun c => ?_)
      · have h := h.1 c
        refine aw_aload_n X 0 rfl d_R_run_36 rfl ?_
        refine aw_aload_n X 2 rfl d_R_run_37 rfl ?_
        refine aw_iload X 4 rfl d_R_run_38 ?_
        obtain ⟨⟨r40, f40, e40, g40⟩, h⟩ := h
        cases e40
        refine aw_cVr X [_] (fun ad hlv => t_A_get l hlv h) (cwV 1 X.hts (gd_V LK_356 LK_203 LK_204 LK_42 LK_code_A_get) rfl rfl rfl (by decide +kernel) ⟨(Nat.le_of_ble_eq_true rfl), (Nat.le_of_ble_eq_true rfl)⟩) ⟨8, f40, _, g40, hc_8, rfl⟩ rfl rfl (Nat.le_of_ble_eq_true rfl) d_R_run_40 ⟨(Nat.le_of_ble_eq_true rfl), (Nat.le_of_ble_eq_true rfl)⟩ (fun a40 M40 h => ?_)
        refine aw_ck X hc_5 LK_357 d_R_run_43 ⟨h.1, ?_⟩
        have h := h.2
        obtain ⟨⟨r46, f46, e46, g46⟩, h⟩ := h
        cases e46
        refine aw_cVi X [_] (fun ad hlv => t_R_execute l hlv h) (cwV 1 X.hts (gd_V LK_358 LK_359 LK_360 LK_103 LK_code_R_execute) rfl rfl rfl (by decide +kernel) ⟨(Nat.le_of_ble_eq_true rfl), (Nat.le_of_ble_eq_true rfl)⟩) ⟨3, f46, _, g46, hc_3, rfl⟩ rfl rfl (Nat.le_of_ble_eq_true rfl) d_R_run_46 ⟨(Nat.le_of_ble_eq_true rfl), (Nat.le_of_ble_eq_true rfl)⟩ (fun a46 M46 h => ?_)
        refine aw_istore (lvn := [(5, _), (0, _), (1, _), (2, _), (3, _), (4, _)]) X d_R_run_49 (by decide) rfl ?_
        refine aw_iload X 0 rfl d_R_run_51 ?_
        refine aw_iconst X (-1) (by decide) d_R_run_53 ?_
        refine aw_icmp_ne (tgt := 65) X d_R_run_54 (by decide) (fun c => ?_) (fun c => ?_)
        · have h := h.1 c
          refine aw_iload X 5 rfl d_R_run_65 ?_
          refine aw_iconst X (1) (by decide) d_R_run_67 ?_
          refine aw_iadd X d_R_run_68 ?_
          refine aw_iload X 0 rfl d_R_run_69 ?_
          refine aw_iadd X d_R_run_71 ?_
          refine aw_istore_n (lvn := [(3, _), (5, _), (0, _), (1, _), (2, _), (4, _)]) X d_R_run_72 rfl (by decide) rfl ?_
          refine aw_lv [2, 3, 4, 0, 5] rfl ?_
          exact sd_R_run_73 X hr hin ih h
        · have h := h.2 c
          refine aw_aload_n X 1 rfl d_R_run_57 rfl ?_
          refine aw_iload X 5 rfl d_R_run_58 ?_
          obtain ⟨⟨r60, f60, e60, g60⟩, h⟩ := h
          cases e60
          refine aw_cVv X [_] (fun ad hlv => t_R_abort l hlv h) (cwV 1 X.hts (gd_V LK_362 LK_363 LK_364 LK_103 LK_code_R_abort) rfl rfl rfl (by decide +kernel) ⟨(Nat.le_of_ble_eq_true rfl), (Nat.le_of_ble_eq_true rfl)⟩) ⟨3, f60, _, g60, hc_3, rfl⟩ rfl rfl (Nat.le_of_ble_eq_true rfl) d_R_run_60 ⟨(Nat.le_of_ble_eq_true rfl), (Nat.le_of_ble_eq_true rfl)⟩ (fun M60 h => ?_)
          refine aw_iconst X (0) (by decide) d_R_run_63 ?_
          exact aw_zret X hr (Or.inl rfl) (Nat.le_of_ble_eq_true rfl) (Nat.le_of_ble_eq_true rfl) d_R_run_64 h
      · have h := h.2 c
        refine aw_goto (tgt := 73) X d_R_run_33 (by decide) ?_
        exact sd_R_run_73 X hr hin ih h
def wp_R_run (post : Int32 → wM → Prop) (x0 : Option Ro) (x1 : Option Ro) (M : wM) : Prop := cV M x0 3 (wp_R_begin (fun M2 => gR M2 x1 7 2 (fun a6 => gR M2 a6 2 0 (fun a9 => (∃ n, wp_R_run_18 post n x0 x1 a9 0 0 M2)))) x0 x1 M)
set_option maxRecDepth 100000 in
set_option maxHeartbeats 4000000 in
theorem sd_R_run_0 (X : Cx p s m args meth c b_R_run 6 R_R TBL D dA B zE) (hr : meth.sig.returnType = (some .boolean)) (hin : meth.name = y_R_run.name) {post : Int32 → wM → Prop} {x0 : Option Ro} {x1 : Option Ro} {M : wM} (h : wp_R_run post x0 x1 M) : AW p l e (headSpec w_R_run rm_R_run).room s m args below meth c (MQ below (QI D dA B zE M0 ad0 post) args s 0 0 (wA B)) D dA B zE 6 ad0 M0 M 0 0 0 [(0, vR x0), (1, vR x1)] [] := by
  unfold wp_R_run at h
  refine aw_aload_n X 0 rfl d_R_run_0 rfl ?_
  refine aw_aload_n X 1 rfl d_R_run_1 rfl ?_
  obtain ⟨⟨r2, f2, e2, g2⟩, h⟩ := h
  cases e2
  refine aw_cVv X [_] (fun ad hlv => t_R_begin l hlv h) (cwV 1 X.hts (gd_V LK_366 LK_367 LK_368 LK_103 LK_code_R_begin) rfl rfl rfl (by decide +kernel) ⟨(Nat.le_of_ble_eq_true rfl), (Nat.le_of_ble_eq_true rfl)⟩) ⟨3, f2, _, g2, hc_3, rfl⟩ rfl rfl (Nat.le_of_ble_eq_true rfl) d_R_run_2 ⟨(Nat.le_of_ble_eq_true rfl), (Nat.le_of_ble_eq_true rfl)⟩ (fun M2 h => ?_)
  refine aw_aload_n X 1 rfl d_R_run_5 rfl ?_
  refine aw_gR X hc_7 in_7 2 (by decide) LK_316 (fun _ _ _ _ h => h) d_R_run_6 (h.mono (fun a6 h => ?_))
  refine aw_gR X hc_2 in_2 0 (by decide) LK_370 (fun _ _ _ _ h => h) d_R_run_9 (h.mono (fun a9 h => ?_))
  refine aw_astore_n (lvn := [(2, _), (0, _), (1, _)]) X d_R_run_12 rfl (by decide) rfl ?_
  refine aw_iconst X (0) (by decide) d_R_run_13 ?_
  refine aw_istore_n (lvn := [(3, _), (2, _), (0, _), (1, _)]) X d_R_run_14 rfl (by decide) rfl ?_
  refine aw_iconst X (0) (by decide) d_R_run_15 ?_
  refine aw_istore (lvn := [(4, _), (3, _), (2, _), (0, _), (1, _)]) X d_R_run_16 (by decide) rfl ?_
  refine aw_lv [3, 4, 2, 1, 0] rfl ?_
  obtain ⟨n, h⟩ := h
  exact sd_R_run_18 X hr hin n _ _ _ _ _ _ h
end
theorem t_R_run (l : Launch) {D : va_G} {dA : Nat → ClassId} {B : Nat} {zE : ZT} {M : wM} {ad : Ro → Nat} {post : Int32 → wM → Prop} {x0 : Option Ro} {x1 : Option Ro} (hlv : lvS M [vR x0, vR x1]) (h : wp_R_run post x0 x1 M) : Met l y_R_run w_R_run rm_R_run (PA D dA B zE M ad [vR x0, vR x1]) (QI D dA B zE M ad post) 0 0 (wA B) :=
  AW_start [vR x0, vR x1] [(0, vR x0), (1, vR x1)] hlv (by decide +kernel) rfl (fun _ hw => List.mem_cons_of_mem _ hw) rfl (Nat.le_of_ble_eq_true rfl) (fun p e s m args below meth c X hr hin => sd_R_run_0 X hr hin h)
