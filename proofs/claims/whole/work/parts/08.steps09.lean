abbrev rm_M_partitionOf : Room := { frames := 0, cells := 0, slots := 0, locals := 0 }
section
variable {p : Program} {l : Launch} {e : Env} {s : State} {m : MethodId} {args : Array Value} {below : List Frame} {meth : Method} {c : Code} {D : va_G} {dA : Nat → ClassId} {B : Nat} {zE : ZT} {ad0 : Ro → Nat} {M0 : wM}
def wp_M_partitionOf_28 (post : Int32 → wM → Prop) (x0 : Option Ro) (x1 : Int32) (x2 : Int32) (s0 : Int32) (M : wM) : Prop := post s0 M
set_option maxRecDepth 100000 in
set_option maxHeartbeats 4000000 in
theorem sd_M_partitionOf_28 (X : Cx p s m args meth c b_M_partitionOf 3 R_M TBL D dA B zE) (hr : meth.sig.returnType = (some .int)) (hin : meth.name = y_M_partitionOf.name) {post : Int32 → wM → Prop} {x0 : Option Ro} {x1 : Int32} {x2 : Int32} {s0 : Int32} {M : wM} (h : wp_M_partitionOf_28 post x0 x1 x2 s0 M) : AW p l e (headSpec w_M_partitionOf rm_M_partitionOf).room s m args below meth c (MQ below (QI D dA B zE M0 ad0 post) args s 0 0 (wA B)) D dA B zE 3 ad0 M0 M 0 0 28 [(0, vR x0), (1, vI x1), (2, vI x2)] [vI s0] := by
  unfold wp_M_partitionOf_28 at h
  exact aw_iret X hr (Nat.le_of_ble_eq_true rfl) (Nat.le_of_ble_eq_true rfl) d_M_partitionOf_28 h
def wp_M_partitionOf (post : Int32 → wM → Prop) (x0 : Option Ro) (x1 : Int32) (M : wM) : Prop := gR M x0 9 17 (fun a1 => lI M a1 (3 * x1) (fun a7 => gI M x0 9 0 (fun a9 => (¬ a9 = 0) ∧ ((0 ≤ (a7 - a7 / a9 * a9) → wp_M_partitionOf_28 post x0 x1 (a7 - a7 / a9 * a9) (a7 - a7 / a9 * a9) M) ∧ (¬ 0 ≤ (a7 - a7 / a9 * a9) → gI M x0 9 0 (fun a20 => wp_M_partitionOf_28 post x0 x1 (a7 - a7 / a9 * a9) ((a7 - a7 / a9 * a9) + a20) M))))))
set_option maxRecDepth 100000 in
set_option maxHeartbeats 4000000 in
theorem sd_M_partitionOf_0 (X : Cx p s m args meth c b_M_partitionOf 3 R_M TBL D dA B zE) (hr : meth.sig.returnType = (some .int)) (hin : meth.name = y_M_partitionOf.name) {post : Int32 → wM → Prop} {x0 : Option Ro} {x1 : Int32} {M : wM} (h : wp_M_partitionOf post x0 x1 M) : AW p l e (headSpec w_M_partitionOf rm_M_partitionOf).room s m args below meth c (MQ below (QI D dA B zE M0 ad0 post) args s 0 0 (wA B)) D dA B zE 3 ad0 M0 M 0 0 0 [(0, vR x0), (1, vI x1)] [] := by
  unfold wp_M_partitionOf at h
  refine aw_aload_n X 0 rfl d_M_partitionOf_0 rfl ?_
  refine aw_gR X hc_9 in_9 17 (by decide) LK_448 (fun _ _ _ _ h => h) d_M_partitionOf_1 (h.mono (fun a1 h => ?_))
  refine aw_iconst X (3) (by decide) d_M_partitionOf_4 ?_
  refine aw_iload_n X 1 rfl d_M_partitionOf_5 rfl ?_
  refine aw_imul X d_M_partitionOf_6 ?_
  refine aw_lI X d_M_partitionOf_7 (h.mono (fun a7 h => ?_))
  refine aw_aload_n X 0 rfl d_M_partitionOf_8 rfl ?_
  refine aw_gI X hc_9 in_9 0 (by decide) LK_430 (fun _ _ _ _ h => h) d_M_partitionOf_9 (h.mono (fun a9 h => ?_))
  refine aw_irem X h.1 d_M_partitionOf_12 ?_
  have h := h.2
  refine aw_istore_n (lvn := [(2, _), (0, _), (1, _)]) X d_M_partitionOf_13 rfl (by decide) rfl ?_
  refine aw_iload_n X 0 rfl d_M_partitionOf_14 rfl ?_
  refine aw_if_ge (tgt := 27) X d_M_partitionOf_15 (by decide) (fun c => ?_) (fun c => ?_)
  · have h := h.1 c
    refine aw_iload_n X 0 rfl d_M_partitionOf_27 rfl ?_
    refine aw_lv [1, 2, 0] rfl ?_
    exact sd_M_partitionOf_28 X hr hin h
  · have h := h.2 c
    refine aw_iload_n X 0 rfl d_M_partitionOf_18 rfl ?_
    refine aw_aload_n X 1 rfl d_M_partitionOf_19 rfl ?_
    refine aw_gI X hc_9 in_9 0 (by decide) LK_430 (fun _ _ _ _ h => h) d_M_partitionOf_20 (h.mono (fun a20 h => ?_))
    refine aw_iadd X d_M_partitionOf_23 ?_
    refine aw_goto (tgt := 28) X d_M_partitionOf_24 (by decide) ?_
    refine aw_lv [1, 2, 0] rfl ?_
    exact sd_M_partitionOf_28 X hr hin h
end
theorem t_M_partitionOf (l : Launch) {D : va_G} {dA : Nat → ClassId} {B : Nat} {zE : ZT} {M : wM} {ad : Ro → Nat} {post : Int32 → wM → Prop} {x0 : Option Ro} {x1 : Int32} (hlv : lvS M [vR x0, vI x1]) (h : wp_M_partitionOf post x0 x1 M) : Met l y_M_partitionOf w_M_partitionOf rm_M_partitionOf (PA D dA B zE M ad [vR x0, vI x1]) (QI D dA B zE M ad post) 0 0 (wA B) :=
  AW_start [vR x0, vI x1] [(0, vR x0), (1, vI x1)] hlv (by decide +kernel) rfl (fun _ hw => List.mem_cons_of_mem _ hw) rfl (Nat.le_of_ble_eq_true rfl) (fun p e s m args below meth c X hr hin => sd_M_partitionOf_0 X hr hin h)
abbrev rm_M_waits : Room := { frames := 1, cells := 0, slots := 0, locals := 22 }
section
variable {p : Program} {l : Launch} {e : Env} {s : State} {m : MethodId} {args : Array Value} {below : List Frame} {meth : Method} {c : Code} {D : va_G} {dA : Nat → ClassId} {B : Nat} {zE : ZT} {ad0 : Ro → Nat} {M0 : wM}
def wp_M_waits_74 (post : Int32 → wM → Prop) (x0 : Option Ro) (x1 : Int32) (x2 : Int32) (s0 : Int32) (M : wM) : Prop := (s0 = 0 ∨ s0 = 1) ∧ post s0 M
set_option maxRecDepth 100000 in
set_option maxHeartbeats 4000000 in
theorem sd_M_waits_74 (X : Cx p s m args meth c b_M_waits 3 R_M TBL D dA B zE) (hr : meth.sig.returnType = (some .boolean)) (hin : meth.name = y_M_waits.name) {post : Int32 → wM → Prop} {x0 : Option Ro} {x1 : Int32} {x2 : Int32} {s0 : Int32} {M : wM} (h : wp_M_waits_74 post x0 x1 x2 s0 M) : AW p l e (headSpec w_M_waits rm_M_waits).room s m args below meth c (MQ below (QI D dA B zE M0 ad0 post) args s 0 0 (wA B)) D dA B zE 3 ad0 M0 M 0 0 74 [(0, vR x0), (1, vI x1), (2, vI x2)] [vI s0] := by
  unfold wp_M_waits_74 at h
  exact aw_zret X hr h.1 (Nat.le_of_ble_eq_true rfl) (Nat.le_of_ble_eq_true rfl) d_M_waits_74 h.2
def wp_M_waits_73 (post : Int32 → wM → Prop) (x0 : Option Ro) (x1 : Int32) (x2 : Int32) (M : wM) : Prop := wp_M_waits_74 post x0 x1 x2 0 M
set_option maxRecDepth 100000 in
set_option maxHeartbeats 4000000 in
theorem sd_M_waits_73 (X : Cx p s m args meth c b_M_waits 3 R_M TBL D dA B zE) (hr : meth.sig.returnType = (some .boolean)) (hin : meth.name = y_M_waits.name) {post : Int32 → wM → Prop} {x0 : Option Ro} {x1 : Int32} {x2 : Int32} {M : wM} (h : wp_M_waits_73 post x0 x1 x2 M) : AW p l e (headSpec w_M_waits rm_M_waits).room s m args below meth c (MQ below (QI D dA B zE M0 ad0 post) args s 0 0 (wA B)) D dA B zE 3 ad0 M0 M 0 0 73 [(0, vR x0), (1, vI x1), (2, vI x2)] [] := by
  unfold wp_M_waits_73 at h
  refine aw_iconst X (0) (by decide) d_M_waits_73 ?_
  exact sd_M_waits_74 X hr hin h
def wp_M_waits_69 (post : Int32 → wM → Prop) (x0 : Option Ro) (x1 : Int32) (x2 : Int32) (M : wM) : Prop := wp_M_waits_74 post x0 x1 x2 1 M
set_option maxRecDepth 100000 in
set_option maxHeartbeats 4000000 in
theorem sd_M_waits_69 (X : Cx p s m args meth c b_M_waits 3 R_M TBL D dA B zE) (hr : meth.sig.returnType = (some .boolean)) (hin : meth.name = y_M_waits.name) {post : Int32 → wM → Prop} {x0 : Option Ro} {x1 : Int32} {x2 : Int32} {M : wM} (h : wp_M_waits_69 post x0 x1 x2 M) : AW p l e (headSpec w_M_waits rm_M_waits).room s m args below meth c (MQ below (QI D dA B zE M0 ad0 post) args s 0 0 (wA B)) D dA B zE 3 ad0 M0 M 0 0 69 [(0, vR x0), (1, vI x1), (2, vI x2)] [] := by
  unfold wp_M_waits_69 at h
  refine aw_iconst X (1) (by decide) d_M_waits_69 ?_
  refine aw_goto (tgt := 74) X d_M_waits_70 (by decide) ?_
  exact sd_M_waits_74 X hr hin h
def wp_M_waits_36 (post : Int32 → wM → Prop) (x0 : Option Ro) (x1 : Int32) (x2 : Int32) (s0 : Int32) (M : wM) : Prop := (s0 = 0 ∨ s0 = 1) ∧ post s0 M
set_option maxRecDepth 100000 in
set_option maxHeartbeats 4000000 in
theorem sd_M_waits_36 (X : Cx p s m args meth c b_M_waits 3 R_M TBL D dA B zE) (hr : meth.sig.returnType = (some .boolean)) (hin : meth.name = y_M_waits.name) {post : Int32 → wM → Prop} {x0 : Option Ro} {x1 : Int32} {x2 : Int32} {s0 : Int32} {M : wM} (h : wp_M_waits_36 post x0 x1 x2 s0 M) : AW p l e (headSpec w_M_waits rm_M_waits).room s m args below meth c (MQ below (QI D dA B zE M0 ad0 post) args s 0 0 (wA B)) D dA B zE 3 ad0 M0 M 0 0 36 [(0, vR x0), (1, vI x1), (2, vI x2)] [vI s0] := by
  unfold wp_M_waits_36 at h
  exact aw_zret X hr h.1 (Nat.le_of_ble_eq_true rfl) (Nat.le_of_ble_eq_true rfl) d_M_waits_36 h.2
def wp_M_waits_35 (post : Int32 → wM → Prop) (x0 : Option Ro) (x1 : Int32) (x2 : Int32) (M : wM) : Prop := wp_M_waits_36 post x0 x1 x2 0 M
set_option maxRecDepth 100000 in
set_option maxHeartbeats 4000000 in
theorem sd_M_waits_35 (X : Cx p s m args meth c b_M_waits 3 R_M TBL D dA B zE) (hr : meth.sig.returnType = (some .boolean)) (hin : meth.name = y_M_waits.name) {post : Int32 → wM → Prop} {x0 : Option Ro} {x1 : Int32} {x2 : Int32} {M : wM} (h : wp_M_waits_35 post x0 x1 x2 M) : AW p l e (headSpec w_M_waits rm_M_waits).room s m args below meth c (MQ below (QI D dA B zE M0 ad0 post) args s 0 0 (wA B)) D dA B zE 3 ad0 M0 M 0 0 35 [(0, vR x0), (1, vI x1), (2, vI x2)] [] := by
  unfold wp_M_waits_35 at h
  refine aw_iconst X (0) (by decide) d_M_waits_35 ?_
  exact sd_M_waits_36 X hr hin h
def wp_M_waits (post : Int32 → wM → Prop) (x0 : Option Ro) (x1 : Int32) (x2 : Int32) (M : wM) : Prop := gR M x0 9 16 (fun a1 => lI M a1 x2 (fun a5 => (0 ≤ a5 → gR M x0 9 18 (fun a38 => lZ M a38 x2 (fun a42 => (¬ a42 = 0 → wp_M_waits_73 post x0 x1 x2 M) ∧ (a42 = 0 → gR M x0 9 8 (fun a47 => gR M x0 9 16 (fun a51 => lI M a51 x2 (fun a55 => lZ M a47 a55 (fun a56 => (¬ a56 = 0 → wp_M_waits_69 post x0 x1 x2 M) ∧ (a56 = 0 → cV M x0 9 (wp_M_partitionOf (fun a62 M62 => (¬ a62 = x1 → wp_M_waits_73 post x0 x1 x2 M62) ∧ (a62 = x1 → wp_M_waits_69 post x0 x1 x2 M62)) x0 x2 M)))))))))) ∧ (¬ 0 ≤ a5 → gR M x0 9 18 (fun a10 => lZ M a10 x2 (fun a14 => (¬ a14 = 0 → wp_M_waits_35 post x0 x1 x2 M) ∧ (a14 = 0 → gR M x0 9 19 (fun a19 => lI M a19 x2 (fun a23 => (¬ ((a23 >>> (x1 &&& 31)) &&& 1) = 0 → wp_M_waits_35 post x0 x1 x2 M) ∧ (((a23 >>> (x1 &&& 31)) &&& 1) = 0 → wp_M_waits_36 post x0 x1 x2 1 M)))))))))
set_option maxRecDepth 100000 in
set_option maxHeartbeats 4000000 in
theorem sd_M_waits_0 (X : Cx p s m args meth c b_M_waits 3 R_M TBL D dA B zE) (hr : meth.sig.returnType = (some .boolean)) (hin : meth.name = y_M_waits.name) {post : Int32 → wM → Prop} {x0 : Option Ro} {x1 : Int32} {x2 : Int32} {M : wM} (h : wp_M_waits post x0 x1 x2 M) : AW p l e (headSpec w_M_waits rm_M_waits).room s m args below meth c (MQ below (QI D dA B zE M0 ad0 post) args s 0 0 (wA B)) D dA B zE 3 ad0 M0 M 0 0 0 [(0, vR x0), (1, vI x1), (2, vI x2)] [] := by
  unfold wp_M_waits at h
  refine aw_aload_n X 0 rfl d_M_waits_0 rfl ?_
  refine aw_gR X hc_9 in_9 16 (by decide) LK_447 (fun _ _ _ _ h => h) d_M_waits_1 (h.mono (fun a1 h => ?_))
  refine aw_iload_n X 2 rfl d_M_waits_4 rfl ?_
  refine aw_lI X d_M_waits_5 (h.mono (fun a5 h => ?_))
  refine aw_if_ge (tgt := 37) X d_M_waits_6 (by decide) (fun c => ?_) (fun c => ?_)
  · have h := h.1 c
    refine aw_aload_n X 0 rfl d_M_waits_37 rfl ?_
    refine aw_gR X hc_9 in_9 18 (by decide) LK_449 (fun _ _ _ _ h => h) d_M_waits_38 (h.mono (fun a38 h => ?_))
    refine aw_iload_n X 2 rfl d_M_waits_41 rfl ?_
    refine aw_lZ X d_M_waits_42 (h.mono (fun a42 h => ?_))
    refine aw_if_ne (tgt := 73) X d_M_waits_43 (by decide) (fun c => ?_) (fun c => ?_)
    · have h := h.1 c
      exact sd_M_waits_73 X hr hin h
    · have h := h.2 c
      refine aw_aload_n X 0 rfl d_M_waits_46 rfl ?_
      refine aw_gR X hc_9 in_9 8 (by decide) LK_440 (fun _ _ _ _ h => h) d_M_waits_47 (h.mono (fun a47 h => ?_))
      refine aw_aload_n X 0 rfl d_M_waits_50 rfl ?_
      refine aw_gR X hc_9 in_9 16 (by decide) LK_447 (fun _ _ _ _ h => h) d_M_waits_51 (h.mono (fun a51 h => ?_))
      refine aw_iload_n X 2 rfl d_M_waits_54 rfl ?_
      refine aw_lI X d_M_waits_55 (h.mono (fun a55 h => ?_))
      refine aw_lZ X d_M_waits_56 (h.mono (fun a56 h => ?_))
      refine aw_if_ne (tgt := 69) X d_M_waits_57 (by decide) (fun c => ?_) (fun c => ?_)
      · have h := h.1 c
        exact sd_M_waits_69 X hr hin h
      · have h := h.2 c
        refine aw_aload_n X 0 rfl d_M_waits_60 rfl ?_
        refine aw_iload_n X 2 rfl d_M_waits_61 rfl ?_
        obtain ⟨⟨r62, f62, e62, g62⟩, h⟩ := h
        cases e62
        refine aw_cVi X [_] (fun ad hlv => t_M_partitionOf l hlv h) (cwV 1 X.hts (gd_V LK_475 LK_476 LK_477 LK_463 LK_code_M_partitionOf) rfl rfl rfl (by decide +kernel) ⟨(Nat.le_of_ble_eq_true rfl), (Nat.le_of_ble_eq_true rfl)⟩) ⟨9, f62, _, g62, hc_9, rfl⟩ rfl rfl (Nat.le_of_ble_eq_true rfl) d_M_waits_62 ⟨(Nat.le_of_ble_eq_true rfl), (Nat.le_of_ble_eq_true rfl)⟩ (fun a62 M62 h => ?_)
        refine aw_iload_n X 1 rfl d_M_waits_65 rfl ?_
        refine aw_icmp_ne (tgt := 73) X d_M_waits_66 (by decide) (fun c => ?_) (fun c => ?_)
        · have h := h.1 c
          exact sd_M_waits_73 X hr hin h
        · have h := h.2 c
          exact sd_M_waits_69 X hr hin h
  · have h := h.2 c
    refine aw_aload_n X 0 rfl d_M_waits_9 rfl ?_
    refine aw_gR X hc_9 in_9 18 (by decide) LK_449 (fun _ _ _ _ h => h) d_M_waits_10 (h.mono (fun a10 h => ?_))
    refine aw_iload_n X 2 rfl d_M_waits_13 rfl ?_
    refine aw_lZ X d_M_waits_14 (h.mono (fun a14 h => ?_))
    refine aw_if_ne (tgt := 35) X d_M_waits_15 (by decide) (fun c => ?_) (fun c => ?_)
    · have h := h.1 c
      exact sd_M_waits_35 X hr hin h
    · have h := h.2 c
      refine aw_aload_n X 0 rfl d_M_waits_18 rfl ?_
      refine aw_gR X hc_9 in_9 19 (by decide) LK_450 (fun _ _ _ _ h => h) d_M_waits_19 (h.mono (fun a19 h => ?_))
      refine aw_iload_n X 2 rfl d_M_waits_22 rfl ?_
      refine aw_lI X d_M_waits_23 (h.mono (fun a23 h => ?_))
      refine aw_iload_n X 1 rfl d_M_waits_24 rfl ?_
      refine aw_ishr X d_M_waits_25 ?_
      refine aw_iconst X (1) (by decide) d_M_waits_26 ?_
      refine aw_iand X d_M_waits_27 ?_
      refine aw_if_ne (tgt := 35) X d_M_waits_28 (by decide) (fun c => ?_) (fun c => ?_)
      · have h := h.1 c
        exact sd_M_waits_35 X hr hin h
      · have h := h.2 c
        refine aw_iconst X (1) (by decide) d_M_waits_31 ?_
        refine aw_goto (tgt := 36) X d_M_waits_32 (by decide) ?_
        exact sd_M_waits_36 X hr hin h
end
theorem t_M_waits (l : Launch) {D : va_G} {dA : Nat → ClassId} {B : Nat} {zE : ZT} {M : wM} {ad : Ro → Nat} {post : Int32 → wM → Prop} {x0 : Option Ro} {x1 : Int32} {x2 : Int32} (hlv : lvS M [vR x0, vI x1, vI x2]) (h : wp_M_waits post x0 x1 x2 M) : Met l y_M_waits w_M_waits rm_M_waits (PA D dA B zE M ad [vR x0, vI x1, vI x2]) (QI D dA B zE M ad post) 0 0 (wA B) :=
  AW_start [vR x0, vI x1, vI x2] [(0, vR x0), (1, vI x1), (2, vI x2)] hlv (by decide +kernel) rfl (fun _ hw => List.mem_cons_of_mem _ hw) rfl (Nat.le_of_ble_eq_true rfl) (fun p e s m args below meth c X hr hin => sd_M_waits_0 X hr hin h)
abbrev rm_M_rowsOf : Room := { frames := 0, cells := 0, slots := 0, locals := 0 }
section
variable {p : Program} {l : Launch} {e : Env} {s : State} {m : MethodId} {args : Array Value} {below : List Frame} {meth : Method} {c : Code} {D : va_G} {dA : Nat → ClassId} {B : Nat} {zE : ZT} {ad0 : Ro → Nat} {M0 : wM}
def wp_M_rowsOf_22 (post : Int32 → wM → Prop) (k4 : Option Ro → Int32 → Int32 → Int32 → wM → Prop) (x0 : Option Ro) (x1 : Int32) (x2 : Int32) (x3 : Int32) (M : wM) : Prop := gI M x0 9 0 (fun a24 => k4 x0 x1 x2 (x3 + a24) M)
set_option maxRecDepth 100000 in
set_option maxHeartbeats 4000000 in
theorem sd_M_rowsOf_22 (X : Cx p s m args meth c b_M_rowsOf 4 R_M TBL D dA B zE) (hr : meth.sig.returnType = (some .int)) (hin : meth.name = y_M_rowsOf.name) {post : Int32 → wM → Prop} {k4 : Option Ro → Int32 → Int32 → Int32 → wM → Prop} (hk4 : ∀ (x0 : Option Ro) (x1 : Int32) (x2 : Int32) (x3 : Int32) (M : wM), k4 x0 x1 x2 x3 M → AW p l e (headSpec w_M_rowsOf rm_M_rowsOf).room s m args below meth c (MQ below (QI D dA B zE M0 ad0 post) args s 0 0 (wA B)) D dA B zE 4 ad0 M0 M 0 0 4 [(0, vR x0), (1, vI x1), (2, vI x2), (3, vI x3)] []) {x0 : Option Ro} {x1 : Int32} {x2 : Int32} {x3 : Int32} {M : wM} (h : wp_M_rowsOf_22 post k4 x0 x1 x2 x3 M) : AW p l e (headSpec w_M_rowsOf rm_M_rowsOf).room s m args below meth c (MQ below (QI D dA B zE M0 ad0 post) args s 0 0 (wA B)) D dA B zE 4 ad0 M0 M 0 0 22 [(0, vR x0), (1, vI x1), (2, vI x2), (3, vI x3)] [] := by
  unfold wp_M_rowsOf_22 at h
  refine aw_iload_n X 3 rfl d_M_rowsOf_22 rfl ?_
  refine aw_aload_n X 0 rfl d_M_rowsOf_23 rfl ?_
  refine aw_gI X hc_9 in_9 0 (by decide) LK_430 (fun _ _ _ _ h => h) d_M_rowsOf_24 (h.mono (fun a24 h => ?_))
  refine aw_iadd X d_M_rowsOf_27 ?_
  refine aw_istore_n (lvn := [(3, _), (0, _), (1, _), (2, _)]) X d_M_rowsOf_28 rfl (by decide) rfl ?_
  refine aw_goto (tgt := 4) X d_M_rowsOf_29 (by decide) ?_
  refine aw_lv [1, 2, 3, 0] rfl ?_
  exact hk4 _ _ _ _ _ h
def wp_M_rowsOf_4 (post : Int32 → wM → Prop) : Nat → Option Ro → Int32 → Int32 → Int32 → wM → Prop
  | 0, _, _, _, _, _ => False
  | n + 1, x0, x1, x2, x3, M => ((32 : Int32) ≤ x3 → post x2 M) ∧ (¬ (32 : Int32) ≤ x3 → gR M x0 9 1 (fun a11 => lZ M a11 x3 (fun a15 => (a15 = 0 → wp_M_rowsOf_22 post (fun x0 x1 x2 x3 M => wp_M_rowsOf_4 post n x0 x1 x2 x3 M) x0 x1 x2 x3 M) ∧ (¬ a15 = 0 → wp_M_rowsOf_22 post (fun x0 x1 x2 x3 M => wp_M_rowsOf_4 post n x0 x1 x2 x3 M) x0 x1 (x2 + 1) x3 M))))
set_option maxRecDepth 100000 in
set_option maxHeartbeats 4000000 in
theorem sd_M_rowsOf_4 (X : Cx p s m args meth c b_M_rowsOf 4 R_M TBL D dA B zE) (hr : meth.sig.returnType = (some .int)) (hin : meth.name = y_M_rowsOf.name) {post : Int32 → wM → Prop} : ∀ (n : Nat) (x0 : Option Ro) (x1 : Int32) (x2 : Int32) (x3 : Int32) (M : wM), wp_M_rowsOf_4 post n x0 x1 x2 x3 M → AW p l e (headSpec w_M_rowsOf rm_M_rowsOf).room s m args below meth c (MQ below (QI D dA B zE M0 ad0 post) args s 0 0 (wA B)) D dA B zE 4 ad0 M0 M 0 0 4 [(0, vR x0), (1, vI x1), (2, vI x2), (3, vI x3)] [] := by
  intro n
  induction n with
  | zero => intro x0 x1 x2 x3 M h; exact h.elim
  | succ n ih =>
    intro x0 x1 x2 x3 M h
    unfold wp_M_rowsOf_4 at h
    refine aw_iload_n X 3 rfl d_M_rowsOf_4 rfl ?_
    refine aw_bipush X (32) (by decide) d_M_rowsOf_5 ?_
    refine aw_icmp_ge (tgt := 32) X d_M_rowsOf_7 (by decide) (fun c => ?_) (fun c => ?_)
    · have h := h.1 c
      refine aw_iload_n X 2 rfl d_M_rowsOf_32 rfl ?_
      exact aw_iret X hr (Nat.le_of_ble_eq_true rfl) (Nat.le_of_ble_eq_true rfl) d_M_rowsOf_33 h
    · have h := h.2 c
      refine aw_aload_n X 0 rfl d_M_rowsOf_10 rfl ?_
      refine aw_gR X hc_9 in_9 1 (by decide) LK_433 (fun _ _ _ _ h => h) d_M_rowsOf_11 (h.mono (fun a11 h => ?_))
      refine aw_iload_n X 3 rfl d_M_rowsOf_14 rfl ?_
      refine aw_lZ X d_M_rowsOf_15 (h.mono (fun a15 h => ?_))
      refine aw_if_eq (tgt := 22) X d_M_rowsOf_16 (by decide) (fun c => ?_) (fun c => ?_)
      · have h := h.1 c
        exact sd_M_rowsOf_22 X hr hin ih h
      · have h := h.2 c
        refine aw_iinc (y := x2 + 1) (lvn := [(2, _), (0, _), (1, _), (3, _)]) X 2 rfl d_M_rowsOf_19 rfl (by decide) rfl ?_
        refine aw_lv [1, 2, 0, 3] rfl ?_
        exact sd_M_rowsOf_22 X hr hin ih h
def wp_M_rowsOf (post : Int32 → wM → Prop) (x0 : Option Ro) (x1 : Int32) (M : wM) : Prop := (∃ n, wp_M_rowsOf_4 post n x0 x1 0 x1 M)
set_option maxRecDepth 100000 in
set_option maxHeartbeats 4000000 in
theorem sd_M_rowsOf_0 (X : Cx p s m args meth c b_M_rowsOf 4 R_M TBL D dA B zE) (hr : meth.sig.returnType = (some .int)) (hin : meth.name = y_M_rowsOf.name) {post : Int32 → wM → Prop} {x0 : Option Ro} {x1 : Int32} {M : wM} (h : wp_M_rowsOf post x0 x1 M) : AW p l e (headSpec w_M_rowsOf rm_M_rowsOf).room s m args below meth c (MQ below (QI D dA B zE M0 ad0 post) args s 0 0 (wA B)) D dA B zE 4 ad0 M0 M 0 0 0 [(0, vR x0), (1, vI x1)] [] := by
  unfold wp_M_rowsOf at h
  refine aw_iconst X (0) (by decide) d_M_rowsOf_0 ?_
  refine aw_istore_n (lvn := [(2, _), (0, _), (1, _)]) X d_M_rowsOf_1 rfl (by decide) rfl ?_
  refine aw_iload_n X 2 rfl d_M_rowsOf_2 rfl ?_
  refine aw_istore_n (lvn := [(3, _), (2, _), (0, _), (1, _)]) X d_M_rowsOf_3 rfl (by decide) rfl ?_
  refine aw_lv [2, 3, 1, 0] rfl ?_
  obtain ⟨n, h⟩ := h
  exact sd_M_rowsOf_4 X hr hin n _ _ _ _ _ h
end
theorem t_M_rowsOf (l : Launch) {D : va_G} {dA : Nat → ClassId} {B : Nat} {zE : ZT} {M : wM} {ad : Ro → Nat} {post : Int32 → wM → Prop} {x0 : Option Ro} {x1 : Int32} (hlv : lvS M [vR x0, vI x1]) (h : wp_M_rowsOf post x0 x1 M) : Met l y_M_rowsOf w_M_rowsOf rm_M_rowsOf (PA D dA B zE M ad [vR x0, vI x1]) (QI D dA B zE M ad post) 0 0 (wA B) :=
  AW_start [vR x0, vI x1] [(0, vR x0), (1, vI x1)] hlv (by decide +kernel) rfl (fun _ hw => List.mem_cons_of_mem _ hw) rfl (Nat.le_of_ble_eq_true rfl) (fun p e s m args below meth c X hr hin => sd_M_rowsOf_0 X hr hin h)
abbrev rm_M_foreign : Room := { frames := 1, cells := 0, slots := 0, locals := 22 }
section
variable {p : Program} {l : Launch} {e : Env} {s : State} {m : MethodId} {args : Array Value} {below : List Frame} {meth : Method} {c : Code} {D : va_G} {dA : Nat → ClassId} {B : Nat} {zE : ZT} {ad0 : Ro → Nat} {M0 : wM}
def wp_M_foreign_42 (post : Int32 → wM → Prop) (x0 : Option Ro) (x1 : Int32) (x2 : Int32) (s0 : Int32) (M : wM) : Prop := (s0 = 0 ∨ s0 = 1) ∧ post s0 M
set_option maxRecDepth 100000 in
set_option maxHeartbeats 4000000 in
theorem sd_M_foreign_42 (X : Cx p s m args meth c b_M_foreign 3 R_M TBL D dA B zE) (hr : meth.sig.returnType = (some .boolean)) (hin : meth.name = y_M_foreign.name) {post : Int32 → wM → Prop} {x0 : Option Ro} {x1 : Int32} {x2 : Int32} {s0 : Int32} {M : wM} (h : wp_M_foreign_42 post x0 x1 x2 s0 M) : AW p l e (headSpec w_M_foreign rm_M_foreign).room s m args below meth c (MQ below (QI D dA B zE M0 ad0 post) args s 0 0 (wA B)) D dA B zE 3 ad0 M0 M 0 0 42 [(0, vR x0), (1, vI x1), (2, vI x2)] [vI s0] := by
  unfold wp_M_foreign_42 at h
  exact aw_zret X hr h.1 (Nat.le_of_ble_eq_true rfl) (Nat.le_of_ble_eq_true rfl) d_M_foreign_42 h.2
def wp_M_foreign_41 (post : Int32 → wM → Prop) (x0 : Option Ro) (x1 : Int32) (x2 : Int32) (M : wM) : Prop := wp_M_foreign_42 post x0 x1 x2 0 M
set_option maxRecDepth 100000 in
set_option maxHeartbeats 4000000 in
theorem sd_M_foreign_41 (X : Cx p s m args meth c b_M_foreign 3 R_M TBL D dA B zE) (hr : meth.sig.returnType = (some .boolean)) (hin : meth.name = y_M_foreign.name) {post : Int32 → wM → Prop} {x0 : Option Ro} {x1 : Int32} {x2 : Int32} {M : wM} (h : wp_M_foreign_41 post x0 x1 x2 M) : AW p l e (headSpec w_M_foreign rm_M_foreign).room s m args below meth c (MQ below (QI D dA B zE M0 ad0 post) args s 0 0 (wA B)) D dA B zE 3 ad0 M0 M 0 0 41 [(0, vR x0), (1, vI x1), (2, vI x2)] [] := by
  unfold wp_M_foreign_41 at h
  refine aw_iconst X (0) (by decide) d_M_foreign_41 ?_
  exact sd_M_foreign_42 X hr hin h
def wp_M_foreign_37 (post : Int32 → wM → Prop) (x0 : Option Ro) (x1 : Int32) (x2 : Int32) (M : wM) : Prop := wp_M_foreign_42 post x0 x1 x2 1 M
set_option maxRecDepth 100000 in
set_option maxHeartbeats 4000000 in
theorem sd_M_foreign_37 (X : Cx p s m args meth c b_M_foreign 3 R_M TBL D dA B zE) (hr : meth.sig.returnType = (some .boolean)) (hin : meth.name = y_M_foreign.name) {post : Int32 → wM → Prop} {x0 : Option Ro} {x1 : Int32} {x2 : Int32} {M : wM} (h : wp_M_foreign_37 post x0 x1 x2 M) : AW p l e (headSpec w_M_foreign rm_M_foreign).room s m args below meth c (MQ below (QI D dA B zE M0 ad0 post) args s 0 0 (wA B)) D dA B zE 3 ad0 M0 M 0 0 37 [(0, vR x0), (1, vI x1), (2, vI x2)] [] := by
  unfold wp_M_foreign_37 at h
  refine aw_iconst X (1) (by decide) d_M_foreign_37 ?_
  refine aw_goto (tgt := 42) X d_M_foreign_38 (by decide) ?_
  exact sd_M_foreign_42 X hr hin h
def wp_M_foreign (post : Int32 → wM → Prop) (x0 : Option Ro) (x1 : Int32) (x2 : Int32) (M : wM) : Prop := wp_M_outside (fun a3 M3 => (¬ a3 = 0 → wp_M_foreign_37 post x0 x1 x2 M3) ∧ (a3 = 0 → gR M3 x0 9 8 (fun a10 => gR M3 x0 9 16 (fun a14 => lI M3 a14 x1 (fun a18 => lZ M3 a10 a18 (fun a19 => (¬ a19 = 0 → wp_M_foreign_41 post x0 x1 x2 M3) ∧ (a19 = 0 → gI M3 x0 9 0 (fun a25 => (¬ a25 = 0) ∧ (cV M3 x0 9 (wp_M_partitionOf (fun a31 M31 => ((x2 - x2 / a25 * a25) = a31 → wp_M_foreign_41 post x0 x1 x2 M31) ∧ (¬ (x2 - x2 / a25 * a25) = a31 → wp_M_foreign_37 post x0 x1 x2 M31)) x0 x1 M3)))))))))) x2 32 M
set_option maxRecDepth 100000 in
set_option maxHeartbeats 4000000 in
theorem sd_M_foreign_0 (X : Cx p s m args meth c b_M_foreign 3 R_M TBL D dA B zE) (hr : meth.sig.returnType = (some .boolean)) (hin : meth.name = y_M_foreign.name) {post : Int32 → wM → Prop} {x0 : Option Ro} {x1 : Int32} {x2 : Int32} {M : wM} (h : wp_M_foreign post x0 x1 x2 M) : AW p l e (headSpec w_M_foreign rm_M_foreign).room s m args below meth c (MQ below (QI D dA B zE M0 ad0 post) args s 0 0 (wA B)) D dA B zE 3 ad0 M0 M 0 0 0 [(0, vR x0), (1, vI x1), (2, vI x2)] [] := by
  unfold wp_M_foreign at h
  refine aw_iload_n X 2 rfl d_M_foreign_0 rfl ?_
  refine aw_bipush X (32) (by decide) d_M_foreign_1 ?_
  refine aw_cSi X [_, _] (fun ad hlv => t_M_outside l hlv h) (cwS 2 X.hts (gd_S LK_461 LK_462 LK_463 LK_code_M_outside) rfl rfl rfl (by decide +kernel) ⟨(Nat.le_of_ble_eq_true rfl), (Nat.le_of_ble_eq_true rfl)⟩) rfl rfl (Nat.le_of_ble_eq_true rfl) d_M_foreign_3 ⟨(Nat.le_of_ble_eq_true rfl), (Nat.le_of_ble_eq_true rfl)⟩ (fun a3 M3 h => ?_)
  refine aw_if_ne (tgt := 37) X d_M_foreign_6 (by decide) (fun c => ?_) (fun c => ?_)
  · have h := h.1 c
    exact sd_M_foreign_37 X hr hin h
  · have h := h.2 c
    refine aw_aload_n X 0 rfl d_M_foreign_9 rfl ?_
    refine aw_gR X hc_9 in_9 8 (by decide) LK_440 (fun _ _ _ _ h => h) d_M_foreign_10 (h.mono (fun a10 h => ?_))
    refine aw_aload_n X 0 rfl d_M_foreign_13 rfl ?_
    refine aw_gR X hc_9 in_9 16 (by decide) LK_447 (fun _ _ _ _ h => h) d_M_foreign_14 (h.mono (fun a14 h => ?_))
    refine aw_iload_n X 1 rfl d_M_foreign_17 rfl ?_
    refine aw_lI X d_M_foreign_18 (h.mono (fun a18 h => ?_))
    refine aw_lZ X d_M_foreign_19 (h.mono (fun a19 h => ?_))
    refine aw_if_ne (tgt := 41) X d_M_foreign_20 (by decide) (fun c => ?_) (fun c => ?_)
    · have h := h.1 c
      exact sd_M_foreign_41 X hr hin h
    · have h := h.2 c
      refine aw_iload_n X 2 rfl d_M_foreign_23 rfl ?_
      refine aw_aload_n X 0 rfl d_M_foreign_24 rfl ?_
      refine aw_gI X hc_9 in_9 0 (by decide) LK_430 (fun _ _ _ _ h => h) d_M_foreign_25 (h.mono (fun a25 h => ?_))
      refine aw_irem X h.1 d_M_foreign_28 ?_
      have h := h.2
      refine aw_aload_n X 0 rfl d_M_foreign_29 rfl ?_
      refine aw_iload_n X 1 rfl d_M_foreign_30 rfl ?_
      obtain ⟨⟨r31, f31, e31, g31⟩, h⟩ := h
      cases e31
      refine aw_cVi X [_] (fun ad hlv => t_M_partitionOf l hlv h) (cwV 1 X.hts (gd_V LK_475 LK_476 LK_477 LK_463 LK_code_M_partitionOf) rfl rfl rfl (by decide +kernel) ⟨(Nat.le_of_ble_eq_true rfl), (Nat.le_of_ble_eq_true rfl)⟩) ⟨9, f31, _, g31, hc_9, rfl⟩ rfl rfl (Nat.le_of_ble_eq_true rfl) d_M_foreign_31 ⟨(Nat.le_of_ble_eq_true rfl), (Nat.le_of_ble_eq_true rfl)⟩ (fun a31 M31 h => ?_)
      refine aw_icmp_eq (tgt := 41) X d_M_foreign_34 (by decide) (fun c => ?_) (fun c => ?_)
      · have h := h.1 c
        exact sd_M_foreign_41 X hr hin h
      · have h := h.2 c
        exact sd_M_foreign_37 X hr hin h
end
theorem t_M_foreign (l : Launch) {D : va_G} {dA : Nat → ClassId} {B : Nat} {zE : ZT} {M : wM} {ad : Ro → Nat} {post : Int32 → wM → Prop} {x0 : Option Ro} {x1 : Int32} {x2 : Int32} (hlv : lvS M [vR x0, vI x1, vI x2]) (h : wp_M_foreign post x0 x1 x2 M) : Met l y_M_foreign w_M_foreign rm_M_foreign (PA D dA B zE M ad [vR x0, vI x1, vI x2]) (QI D dA B zE M ad post) 0 0 (wA B) :=
  AW_start [vR x0, vI x1, vI x2] [(0, vR x0), (1, vI x1), (2, vI x2)] hlv (by decide +kernel) rfl (fun _ hw => List.mem_cons_of_mem _ hw) rfl (Nat.le_of_ble_eq_true rfl) (fun p e s m args below meth c X hr hin => sd_M_foreign_0 X hr hin h)
abbrev rm_M_put : Room := { frames := 0, cells := 0, slots := 0, locals := 0 }
section
variable {p : Program} {l : Launch} {e : Env} {s : State} {m : MethodId} {args : Array Value} {below : List Frame} {meth : Method} {c : Code} {D : va_G} {dA : Nat → ClassId} {B : Nat} {zE : ZT} {ad0 : Ro → Nat} {M0 : wM}
def wp_M_put (post : Int32 → wM → Prop) (x0 : Option Ro) (x1 : Int32) (x2 : Int32) (x3 : Int32) (M : wM) : Prop := gR M x0 9 1 (fun a1 => sZ M a1 x1 x2 (fun M6 => gR M6 x0 9 2 (fun a8 => sI M6 a8 x1 x3 (fun M13 => post 1 M13))))
set_option maxRecDepth 100000 in
set_option maxHeartbeats 4000000 in
theorem sd_M_put_0 (X : Cx p s m args meth c b_M_put 4 R_M TBL D dA B zE) (hr : meth.sig.returnType = (some .boolean)) (hin : meth.name = y_M_put.name) {post : Int32 → wM → Prop} {x0 : Option Ro} {x1 : Int32} {x2 : Int32} {x3 : Int32} {M : wM} (h : wp_M_put post x0 x1 x2 x3 M) : AW p l e (headSpec w_M_put rm_M_put).room s m args below meth c (MQ below (QI D dA B zE M0 ad0 post) args s 0 0 (wA B)) D dA B zE 4 ad0 M0 M 0 0 0 [(0, vR x0), (1, vI x1), (2, vI x2), (3, vI x3)] [] := by
  unfold wp_M_put at h
  refine aw_aload_n X 0 rfl d_M_put_0 rfl ?_
  refine aw_gR X hc_9 in_9 1 (by decide) LK_433 (fun _ _ _ _ h => h) d_M_put_1 (h.mono (fun a1 h => ?_))
  refine aw_iload_n X 1 rfl d_M_put_4 rfl ?_
  refine aw_iload_n X 2 rfl d_M_put_5 rfl ?_
  refine aw_sZ X d_M_put_6 (h.mono (fun M6 h => ?_))
  refine aw_aload_n X 0 rfl d_M_put_7 rfl ?_
  refine aw_gR X hc_9 in_9 2 (by decide) LK_434 (fun _ _ _ _ h => h) d_M_put_8 (h.mono (fun a8 h => ?_))
  refine aw_iload_n X 1 rfl d_M_put_11 rfl ?_
  refine aw_iload_n X 3 rfl d_M_put_12 rfl ?_
  refine aw_sI X d_M_put_13 (h.mono (fun M13 h => ?_))
  refine aw_iconst X (1) (by decide) d_M_put_14 ?_
  exact aw_zret X hr (Or.inr rfl) (Nat.le_of_ble_eq_true rfl) (Nat.le_of_ble_eq_true rfl) d_M_put_15 h
end
theorem t_M_put (l : Launch) {D : va_G} {dA : Nat → ClassId} {B : Nat} {zE : ZT} {M : wM} {ad : Ro → Nat} {post : Int32 → wM → Prop} {x0 : Option Ro} {x1 : Int32} {x2 : Int32} {x3 : Int32} (hlv : lvS M [vR x0, vI x1, vI x2, vI x3]) (h : wp_M_put post x0 x1 x2 x3 M) : Met l y_M_put w_M_put rm_M_put (PA D dA B zE M ad [vR x0, vI x1, vI x2, vI x3]) (QI D dA B zE M ad post) 0 0 (wA B) :=
  AW_start [vR x0, vI x1, vI x2, vI x3] [(0, vR x0), (1, vI x1), (2, vI x2), (3, vI x3)] hlv (by decide +kernel) rfl (fun _ hw => List.mem_cons_of_mem _ hw) rfl (Nat.le_of_ble_eq_true rfl) (fun p e s m args below meth c X hr hin => sd_M_put_0 X hr hin h)
abbrev rm_M_statement : Room := { frames := 2, cells := 0, slots := 0, locals := 44 }
section
variable {p : Program} {l : Launch} {e : Env} {s : State} {m : MethodId} {args : Array Value} {below : List Frame} {meth : Method} {c : Code} {D : va_G} {dA : Nat → ClassId} {B : Nat} {zE : ZT} {ad0 : Ro → Nat} {M0 : wM}
def wp_M_statement_394 (post : Int32 → wM → Prop) (x0 : Option Ro) (x1 : Int32) (x2 : Int32) (x3 : Int32) (x4 : Int32) (s0 : Int32) (M : wM) : Prop := (s0 = 0 ∨ s0 = 1) ∧ post s0 M
set_option maxRecDepth 100000 in
set_option maxHeartbeats 4000000 in
theorem sd_M_statement_394 (X : Cx p s m args meth c b_M_statement 5 R_M TBL D dA B zE) (hr : meth.sig.returnType = (some .boolean)) (hin : meth.name = y_M_statement.name) {post : Int32 → wM → Prop} {x0 : Option Ro} {x1 : Int32} {x2 : Int32} {x3 : Int32} {x4 : Int32} {s0 : Int32} {M : wM} (h : wp_M_statement_394 post x0 x1 x2 x3 x4 s0 M) : AW p l e (headSpec w_M_statement rm_M_statement).room s m args below meth c (MQ below (QI D dA B zE M0 ad0 post) args s 0 0 (wA B)) D dA B zE 5 ad0 M0 M 0 0 394 [(0, vR x0), (1, vI x1), (2, vI x2), (3, vI x3), (4, vI x4)] [vI s0] := by
  unfold wp_M_statement_394 at h
  exact aw_zret X hr h.1 (Nat.le_of_ble_eq_true rfl) (Nat.le_of_ble_eq_true rfl) d_M_statement_394 h.2
def wp_M_statement_393 (post : Int32 → wM → Prop) (x0 : Option Ro) (x1 : Int32) (x2 : Int32) (x3 : Int32) (x4 : Int32) (M : wM) : Prop := wp_M_statement_394 post x0 x1 x2 x3 x4 0 M
set_option maxRecDepth 100000 in
set_option maxHeartbeats 4000000 in
theorem sd_M_statement_393 (X : Cx p s m args meth c b_M_statement 5 R_M TBL D dA B zE) (hr : meth.sig.returnType = (some .boolean)) (hin : meth.name = y_M_statement.name) {post : Int32 → wM → Prop} {x0 : Option Ro} {x1 : Int32} {x2 : Int32} {x3 : Int32} {x4 : Int32} {M : wM} (h : wp_M_statement_393 post x0 x1 x2 x3 x4 M) : AW p l e (headSpec w_M_statement rm_M_statement).room s m args below meth c (MQ below (QI D dA B zE M0 ad0 post) args s 0 0 (wA B)) D dA B zE 5 ad0 M0 M 0 0 393 [(0, vR x0), (1, vI x1), (2, vI x2), (3, vI x3), (4, vI x4)] [] := by
  unfold wp_M_statement_393 at h
  refine aw_iconst X (0) (by decide) d_M_statement_393 ?_
  exact sd_M_statement_394 X hr hin h
def wp_M_statement_330 (post : Int32 → wM → Prop) (x0 : Option Ro) (x1 : Int32) (x2 : Int32) (x3 : Int32) (x4 : Int32) (s0 : Int32) (M : wM) : Prop := (s0 = 0 ∨ s0 = 1) ∧ post s0 M
set_option maxRecDepth 100000 in
set_option maxHeartbeats 4000000 in
theorem sd_M_statement_330 (X : Cx p s m args meth c b_M_statement 5 R_M TBL D dA B zE) (hr : meth.sig.returnType = (some .boolean)) (hin : meth.name = y_M_statement.name) {post : Int32 → wM → Prop} {x0 : Option Ro} {x1 : Int32} {x2 : Int32} {x3 : Int32} {x4 : Int32} {s0 : Int32} {M : wM} (h : wp_M_statement_330 post x0 x1 x2 x3 x4 s0 M) : AW p l e (headSpec w_M_statement rm_M_statement).room s m args below meth c (MQ below (QI D dA B zE M0 ad0 post) args s 0 0 (wA B)) D dA B zE 5 ad0 M0 M 0 0 330 [(0, vR x0), (1, vI x1), (2, vI x2), (3, vI x3), (4, vI x4)] [vI s0] := by
  unfold wp_M_statement_330 at h
  exact aw_zret X hr h.1 (Nat.le_of_ble_eq_true rfl) (Nat.le_of_ble_eq_true rfl) d_M_statement_330 h.2
def wp_M_statement_272 (post : Int32 → wM → Prop) (x0 : Option Ro) (x1 : Int32) (x2 : Int32) (x3 : Int32) (x4 : Int32) (s0 : Int32) (M : wM) : Prop := (s0 = 0 ∨ s0 = 1) ∧ post s0 M
set_option maxRecDepth 100000 in
set_option maxHeartbeats 4000000 in
theorem sd_M_statement_272 (X : Cx p s m args meth c b_M_statement 5 R_M TBL D dA B zE) (hr : meth.sig.returnType = (some .boolean)) (hin : meth.name = y_M_statement.name) {post : Int32 → wM → Prop} {x0 : Option Ro} {x1 : Int32} {x2 : Int32} {x3 : Int32} {x4 : Int32} {s0 : Int32} {M : wM} (h : wp_M_statement_272 post x0 x1 x2 x3 x4 s0 M) : AW p l e (headSpec w_M_statement rm_M_statement).room s m args below meth c (MQ below (QI D dA B zE M0 ad0 post) args s 0 0 (wA B)) D dA B zE 5 ad0 M0 M 0 0 272 [(0, vR x0), (1, vI x1), (2, vI x2), (3, vI x3), (4, vI x4)] [vI s0] := by
  unfold wp_M_statement_272 at h
  exact aw_zret X hr h.1 (Nat.le_of_ble_eq_true rfl) (Nat.le_of_ble_eq_true rfl) d_M_statement_272 h.2
def wp_M_statement_271 (post : Int32 → wM → Prop) (x0 : Option Ro) (x1 : Int32) (x2 : Int32) (x3 : Int32) (x4 : Int32) (M : wM) : Prop := wp_M_statement_272 post x0 x1 x2 x3 x4 0 M
set_option maxRecDepth 100000 in
set_option maxHeartbeats 4000000 in
theorem sd_M_statement_271 (X : Cx p s m args meth c b_M_statement 5 R_M TBL D dA B zE) (hr : meth.sig.returnType = (some .boolean)) (hin : meth.name = y_M_statement.name) {post : Int32 → wM → Prop} {x0 : Option Ro} {x1 : Int32} {x2 : Int32} {x3 : Int32} {x4 : Int32} {M : wM} (h : wp_M_statement_271 post x0 x1 x2 x3 x4 M) : AW p l e (headSpec w_M_statement rm_M_statement).room s m args below meth c (MQ below (QI D dA B zE M0 ad0 post) args s 0 0 (wA B)) D dA B zE 5 ad0 M0 M 0 0 271 [(0, vR x0), (1, vI x1), (2, vI x2), (3, vI x3), (4, vI x4)] [] := by
  unfold wp_M_statement_271 at h
  refine aw_iconst X (0) (by decide) d_M_statement_271 ?_
  exact sd_M_statement_272 X hr hin h
def wp_M_statement_238 (post : Int32 → wM → Prop) (x0 : Option Ro) (x1 : Int32) (x2 : Int32) (x3 : Int32) (x4 : Int32) (s0 : Int32) (M : wM) : Prop := (s0 = 0 ∨ s0 = 1) ∧ post s0 M
set_option maxRecDepth 100000 in
set_option maxHeartbeats 4000000 in
theorem sd_M_statement_238 (X : Cx p s m args meth c b_M_statement 5 R_M TBL D dA B zE) (hr : meth.sig.returnType = (some .boolean)) (hin : meth.name = y_M_statement.name) {post : Int32 → wM → Prop} {x0 : Option Ro} {x1 : Int32} {x2 : Int32} {x3 : Int32} {x4 : Int32} {s0 : Int32} {M : wM} (h : wp_M_statement_238 post x0 x1 x2 x3 x4 s0 M) : AW p l e (headSpec w_M_statement rm_M_statement).room s m args below meth c (MQ below (QI D dA B zE M0 ad0 post) args s 0 0 (wA B)) D dA B zE 5 ad0 M0 M 0 0 238 [(0, vR x0), (1, vI x1), (2, vI x2), (3, vI x3), (4, vI x4)] [vI s0] := by
  unfold wp_M_statement_238 at h
  exact aw_zret X hr h.1 (Nat.le_of_ble_eq_true rfl) (Nat.le_of_ble_eq_true rfl) d_M_statement_238 h.2
def wp_M_statement_237 (post : Int32 → wM → Prop) (x0 : Option Ro) (x1 : Int32) (x2 : Int32) (x3 : Int32) (x4 : Int32) (M : wM) : Prop := wp_M_statement_238 post x0 x1 x2 x3 x4 0 M
set_option maxRecDepth 100000 in
set_option maxHeartbeats 4000000 in
theorem sd_M_statement_237 (X : Cx p s m args meth c b_M_statement 5 R_M TBL D dA B zE) (hr : meth.sig.returnType = (some .boolean)) (hin : meth.name = y_M_statement.name) {post : Int32 → wM → Prop} {x0 : Option Ro} {x1 : Int32} {x2 : Int32} {x3 : Int32} {x4 : Int32} {M : wM} (h : wp_M_statement_237 post x0 x1 x2 x3 x4 M) : AW p l e (headSpec w_M_statement rm_M_statement).room s m args below meth c (MQ below (QI D dA B zE M0 ad0 post) args s 0 0 (wA B)) D dA B zE 5 ad0 M0 M 0 0 237 [(0, vR x0), (1, vI x1), (2, vI x2), (3, vI x3), (4, vI x4)] [] := by
  unfold wp_M_statement_237 at h
  refine aw_iconst X (0) (by decide) d_M_statement_237 ?_
  exact sd_M_statement_238 X hr hin h
def wp_M_statement_203 (post : Int32 → wM → Prop) (x0 : Option Ro) (x1 : Int32) (x2 : Int32) (x3 : Int32) (x4 : Int32) (s0 : Int32) (M : wM) : Prop := (s0 = 0 ∨ s0 = 1) ∧ post s0 M
set_option maxRecDepth 100000 in
set_option maxHeartbeats 4000000 in
theorem sd_M_statement_203 (X : Cx p s m args meth c b_M_statement 5 R_M TBL D dA B zE) (hr : meth.sig.returnType = (some .boolean)) (hin : meth.name = y_M_statement.name) {post : Int32 → wM → Prop} {x0 : Option Ro} {x1 : Int32} {x2 : Int32} {x3 : Int32} {x4 : Int32} {s0 : Int32} {M : wM} (h : wp_M_statement_203 post x0 x1 x2 x3 x4 s0 M) : AW p l e (headSpec w_M_statement rm_M_statement).room s m args below meth c (MQ below (QI D dA B zE M0 ad0 post) args s 0 0 (wA B)) D dA B zE 5 ad0 M0 M 0 0 203 [(0, vR x0), (1, vI x1), (2, vI x2), (3, vI x3), (4, vI x4)] [vI s0] := by
  unfold wp_M_statement_203 at h
  exact aw_zret X hr h.1 (Nat.le_of_ble_eq_true rfl) (Nat.le_of_ble_eq_true rfl) d_M_statement_203 h.2
def wp_M_statement_202 (post : Int32 → wM → Prop) (x0 : Option Ro) (x1 : Int32) (x2 : Int32) (x3 : Int32) (x4 : Int32) (M : wM) : Prop := wp_M_statement_203 post x0 x1 x2 x3 x4 0 M
set_option maxRecDepth 100000 in
set_option maxHeartbeats 4000000 in
theorem sd_M_statement_202 (X : Cx p s m args meth c b_M_statement 5 R_M TBL D dA B zE) (hr : meth.sig.returnType = (some .boolean)) (hin : meth.name = y_M_statement.name) {post : Int32 → wM → Prop} {x0 : Option Ro} {x1 : Int32} {x2 : Int32} {x3 : Int32} {x4 : Int32} {M : wM} (h : wp_M_statement_202 post x0 x1 x2 x3 x4 M) : AW p l e (headSpec w_M_statement rm_M_statement).room s m args below meth c (MQ below (QI D dA B zE M0 ad0 post) args s 0 0 (wA B)) D dA B zE 5 ad0 M0 M 0 0 202 [(0, vR x0), (1, vI x1), (2, vI x2), (3, vI x3), (4, vI x4)] [] := by
  unfold wp_M_statement_202 at h
  refine aw_iconst X (0) (by decide) d_M_statement_202 ?_
  exact sd_M_statement_203 X hr hin h
def wp_M_statement_156 (post : Int32 → wM → Prop) (x0 : Option Ro) (x1 : Int32) (x2 : Int32) (x3 : Int32) (x4 : Int32) (M : wM) : Prop := post 0 M
set_option maxRecDepth 100000 in
set_option maxHeartbeats 4000000 in
theorem sd_M_statement_156 (X : Cx p s m args meth c b_M_statement 5 R_M TBL D dA B zE) (hr : meth.sig.returnType = (some .boolean)) (hin : meth.name = y_M_statement.name) {post : Int32 → wM → Prop} {x0 : Option Ro} {x1 : Int32} {x2 : Int32} {x3 : Int32} {x4 : Int32} {M : wM} (h : wp_M_statement_156 post x0 x1 x2 x3 x4 M) : AW p l e (headSpec w_M_statement rm_M_statement).room s m args below meth c (MQ below (QI D dA B zE M0 ad0 post) args s 0 0 (wA B)) D dA B zE 5 ad0 M0 M 0 0 156 [(0, vR x0), (1, vI x1), (2, vI x2), (3, vI x3), (4, vI x4)] [] := by
  unfold wp_M_statement_156 at h
  refine aw_iconst X (0) (by decide) d_M_statement_156 ?_
  exact aw_zret X hr (Or.inl rfl) (Nat.le_of_ble_eq_true rfl) (Nat.le_of_ble_eq_true rfl) d_M_statement_157 h
def wp_M_statement_69 (post : Int32 → wM → Prop) (x0 : Option Ro) (x1 : Int32) (x2 : Int32) (x3 : Int32) (s0 : Int32) (M : wM) : Prop := gR M x0 9 10 (fun a72 => lI M a72 x2 (fun a76 => (a76 = 0 → cV M x0 9 (wp_M_foreign (fun a140 M140 => (¬ a140 = 0 → wp_M_statement_156 post x0 x1 x2 x3 s0 M140) ∧ (a140 = 0 → gR M140 x0 9 1 (fun a147 => lZ M140 a147 s0 (fun a152 => (¬ a152 = 0 → gR M140 x0 9 32 (fun a159 => gR M140 x0 9 11 (fun a163 => lI M140 a163 x2 (fun a167 => gR M140 x0 9 2 (fun a169 => lI M140 a169 s0 (fun a174 => sI M140 a159 a167 a174 (fun M175 => post 1 M175))))))) ∧ (a152 = 0 → wp_M_statement_156 post x0 x1 x2 x3 s0 M140))))) x0 x1 s0 M)) ∧ (¬ a76 = 0 → (a76 = 1 → cV M x0 9 (wp_M_foreign (fun a181 M181 => (¬ a181 = 0 → wp_M_statement_202 post x0 x1 x2 x3 s0 M181) ∧ (a181 = 0 → cV M181 x0 9 (wp_M_put (fun a192 M192 => (a192 = 0 → wp_M_statement_202 post x0 x1 x2 x3 s0 M192) ∧ (¬ a192 = 0 → wp_M_statement_203 post x0 x1 x2 x3 s0 1 M192)) x0 x3 1 s0 M181))) x0 x1 x3 M)) ∧ (¬ a76 = 1 → (a76 = 2 → cV M x0 9 (wp_M_foreign (fun a207 M207 => (¬ a207 = 0 → wp_M_statement_237 post x0 x1 x2 x3 s0 M207) ∧ (a207 = 0 → gR M207 x0 9 1 (fun a214 => lZ M207 a214 x3 (fun a218 => (¬ a218 = 0 → wp_M_statement_237 post x0 x1 x2 x3 s0 M207) ∧ (a218 = 0 → cV M207 x0 9 (wp_M_put (fun a227 M227 => (a227 = 0 → wp_M_statement_237 post x0 x1 x2 x3 s0 M227) ∧ (¬ a227 = 0 → wp_M_statement_238 post x0 x1 x2 x3 s0 1 M227)) x0 x3 1 s0 M207)))))) x0 x1 x3 M)) ∧ (¬ a76 = 2 → (a76 = 3 → cV M x0 9 (wp_M_foreign (fun a242 M242 => (¬ a242 = 0 → wp_M_statement_271 post x0 x1 x2 x3 s0 M242) ∧ (a242 = 0 → gR M242 x0 9 1 (fun a249 => lZ M242 a249 x3 (fun a253 => (a253 = 0 → wp_M_statement_271 post x0 x1 x2 x3 s0 M242) ∧ (¬ a253 = 0 → cV M242 x0 9 (wp_M_put (fun a261 M261 => (a261 = 0 → wp_M_statement_271 post x0 x1 x2 x3 s0 M261) ∧ (¬ a261 = 0 → wp_M_statement_272 post x0 x1 x2 x3 s0 1 M261)) x0 x3 0 0 M242)))))) x0 x1 x3 M)) ∧ (¬ a76 = 3 → (a76 = 4 → gR M x0 9 32 (fun a274 => gR M x0 9 11 (fun a278 => lI M a278 x2 (fun a282 => gR M x0 9 32 (fun a286 => gR M x0 9 13 (fun a290 => lI M a290 x2 (fun a294 => lI M a286 a294 (fun a295 => sI M a274 a282 (s0 + a295) (fun M297 => post 1 M297))))))))) ∧ (¬ a76 = 4 → (a76 = 5 → gR M x0 9 32 (fun a301 => gR M x0 9 11 (fun a305 => lI M a305 x2 (fun a309 => gR M x0 9 12 (fun a311 => lI M a311 x2 (fun a315 => sI M a301 a309 a315 (fun M316 => post 1 M316))))))) ∧ (¬ a76 = 5 → (a76 = 6 → (x3 < s0 → wp_M_statement_330 post x0 x1 x2 x3 s0 0 M) ∧ (¬ x3 < s0 → wp_M_statement_330 post x0 x1 x2 x3 s0 1 M)) ∧ (¬ a76 = 6 → (a76 = 7 → post 1 M) ∧ (¬ a76 = 7 → (a76 = 8 → wp_M_outside (fun a335 M335 => (a335 = 0 → gR M335 x0 9 32 (fun a344 => gR M335 x0 9 11 (fun a348 => lI M335 a348 x2 (fun a352 => gR M335 x0 9 2 (fun a354 => lI M335 a354 (32 + s0) (fun a362 => sI M335 a344 a352 a362 (fun M363 => post 1 M363))))))) ∧ (¬ a335 = 0 → post 0 M335)) s0 8 M) ∧ (¬ a76 = 8 → (a76 = 9 → wp_M_outside (fun a369 M369 => (¬ a369 = 0 → wp_M_statement_393 post x0 x1 x2 x3 s0 M369) ∧ (a369 = 0 → cV M369 x0 9 (wp_M_put (fun a383 M383 => (a383 = 0 → wp_M_statement_393 post x0 x1 x2 x3 s0 M383) ∧ (¬ a383 = 0 → wp_M_statement_394 post x0 x1 x2 x3 s0 1 M383)) x0 (32 + x3) 1 s0 M369))) x3 8 M) ∧ (¬ a76 = 9 → (a76 = 10 → gR M x0 9 21 (fun a396 => lI M a396 x1 (fun a400 => (¬ a400 = (4 : Int32) → gR M x0 9 22 (fun a408 => gR M x0 9 21 (fun a415 => lI M a415 x1 (fun a419 => sI M a408 ((4 * x1) + a419) x3 (fun M422 => gR M422 x0 9 21 (fun a424 => lI M422 a424 x1 (fun a429 => sI M422 a424 x1 (a429 + 1) (fun M432 => post 1 M432)))))))) ∧ (a400 = (4 : Int32) → post 0 M)))) ∧ (¬ a76 = 10 → post 1 M)))))))))))))
set_option maxRecDepth 100000 in
set_option maxHeartbeats 4000000 in
theorem sd_M_statement_69 (X : Cx p s m args meth c b_M_statement 5 R_M TBL D dA B zE) (hr : meth.sig.returnType = (some .boolean)) (hin : meth.name = y_M_statement.name) {post : Int32 → wM → Prop} {x0 : Option Ro} {x1 : Int32} {x2 : Int32} {x3 : Int32} {s0 : Int32} {M : wM} (h : wp_M_statement_69 post x0 x1 x2 x3 s0 M) : AW p l e (headSpec w_M_statement rm_M_statement).room s m args below meth c (MQ below (QI D dA B zE M0 ad0 post) args s 0 0 (wA B)) D dA B zE 5 ad0 M0 M 0 0 69 [(0, vR x0), (1, vI x1), (2, vI x2), (3, vI x3)] [vI s0] := by
  unfold wp_M_statement_69 at h
  refine aw_istore (lvn := [(4, _), (0, _), (1, _), (2, _), (3, _)]) X d_M_statement_69 (by decide) rfl ?_
  refine aw_aload_n X 1 rfl d_M_statement_71 rfl ?_
  refine aw_gR X hc_9 in_9 10 (by decide) LK_442 (fun _ _ _ _ h => h) d_M_statement_72 (h.mono (fun a72 h => ?_))
  refine aw_iload_n X 3 rfl d_M_statement_75 rfl ?_
  refine aw_lI X d_M_statement_76 (h.mono (fun a76 h => ?_))
  rcases Decidable.em (a76 = 0) with c0 | c0
  · have h := h.1 c0
    refine aw_tableIn (off := 59) (tgt := 136) X d_M_statement_77 c0 (by decide) (by decide) (by decide) (by decide) ?_
    refine aw_aload_n X 1 rfl d_M_statement_136 rfl ?_
    refine aw_iload_n X 2 rfl d_M_statement_137 rfl ?_
    refine aw_iload X 0 rfl d_M_statement_138 ?_
    obtain ⟨⟨r140, f140, e140, g140⟩, h⟩ := h
    cases e140
    refine aw_cVi X [_, _] (fun ad hlv => t_M_foreign l hlv h) (cwV 2 X.hts (gd_V LK_479 LK_480 LK_481 LK_463 LK_code_M_foreign) rfl rfl rfl (by decide +kernel) ⟨(Nat.le_of_ble_eq_true rfl), (Nat.le_of_ble_eq_true rfl)⟩) ⟨9, f140, _, g140, hc_9, rfl⟩ rfl rfl (Nat.le_of_ble_eq_true rfl) d_M_statement_140 ⟨(Nat.le_of_ble_eq_true rfl), (Nat.le_of_ble_eq_true rfl)⟩ (fun a140 M140 h => ?_)
    refine aw_if_ne (tgt := 156) X d_M_statement_143 (by decide) (fun c => ?_) (fun c => ?_)
    · have h := h.1 c
      refine aw_lv [1, 2, 3, 4, 0] rfl ?_
      exact sd_M_statement_156 X hr hin h
    · have h := h.2 c
      refine aw_aload_n X 1 rfl d_M_statement_146 rfl ?_
      refine aw_gR X hc_9 in_9 1 (by decide) LK_433 (fun _ _ _ _ h => h) d_M_statement_147 (h.mono (fun a147 h => ?_))
      refine aw_iload X 0 rfl d_M_statement_150 ?_
      refine aw_lZ X d_M_statement_152 (h.mono (fun a152 h => ?_))
      refine aw_if_ne (tgt := 158) X d_M_statement_153 (by decide) (fun c => ?_) (fun c => ?_)
      · have h := h.1 c
        refine aw_aload_n X 1 rfl d_M_statement_158 rfl ?_
        refine aw_gR X hc_9 in_9 32 (by decide) LK_460 (fun _ _ _ _ h => h) d_M_statement_159 (h.mono (fun a159 h => ?_))
        refine aw_aload_n X 1 rfl d_M_statement_162 rfl ?_
        refine aw_gR X hc_9 in_9 11 (by decide) LK_443 (fun _ _ _ _ h => h) d_M_statement_163 (h.mono (fun a163 h => ?_))
        refine aw_iload_n X 3 rfl d_M_statement_166 rfl ?_
        refine aw_lI X d_M_statement_167 (h.mono (fun a167 h => ?_))
        refine aw_aload_n X 1 rfl d_M_statement_168 rfl ?_
        refine aw_gR X hc_9 in_9 2 (by decide) LK_434 (fun _ _ _ _ h => h) d_M_statement_169 (h.mono (fun a169 h => ?_))
        refine aw_iload X 0 rfl d_M_statement_172 ?_
        refine aw_lI X d_M_statement_174 (h.mono (fun a174 h => ?_))
        refine aw_sI X d_M_statement_175 (h.mono (fun M175 h => ?_))
        refine aw_iconst X (1) (by decide) d_M_statement_176 ?_
        exact aw_zret X hr (Or.inr rfl) (Nat.le_of_ble_eq_true rfl) (Nat.le_of_ble_eq_true rfl) d_M_statement_177 h
      · have h := h.2 c
        refine aw_lv [1, 2, 3, 4, 0] rfl ?_
        exact sd_M_statement_156 X hr hin h
  · have h := h.2 c0
    rcases Decidable.em (a76 = 1) with c1 | c1
    · have h := h.1 c1
      refine aw_tableIn (off := 101) (tgt := 178) X d_M_statement_77 c1 (by decide) (by decide) (by decide) (by decide) ?_
      refine aw_aload_n X 1 rfl d_M_statement_178 rfl ?_
      refine aw_iload_n X 2 rfl d_M_statement_179 rfl ?_
      refine aw_iload_n X 4 rfl d_M_statement_180 rfl ?_
      obtain ⟨⟨r181, f181, e181, g181⟩, h⟩ := h
      cases e181
      refine aw_cVi X [_, _] (fun ad hlv => t_M_foreign l hlv h) (cwV 2 X.hts (gd_V LK_479 LK_480 LK_481 LK_463 LK_code_M_foreign) rfl rfl rfl (by decide +kernel) ⟨(Nat.le_of_ble_eq_true rfl), (Nat.le_of_ble_eq_true rfl)⟩) ⟨9, f181, _, g181, hc_9, rfl⟩ rfl rfl (Nat.le_of_ble_eq_true rfl) d_M_statement_181 ⟨(Nat.le_of_ble_eq_true rfl), (Nat.le_of_ble_eq_true rfl)⟩ (fun a181 M181 h => ?_)
      refine aw_if_ne (tgt := 202) X d_M_statement_184 (by decide) (fun c => ?_) (fun c => ?_)
      · have h := h.1 c
        refine aw_lv [1, 2, 3, 4, 0] rfl ?_
        exact sd_M_statement_202 X hr hin h
      · have h := h.2 c
        refine aw_aload_n X 1 rfl d_M_statement_187 rfl ?_
        refine aw_iload_n X 4 rfl d_M_statement_188 rfl ?_
        refine aw_iconst X (1) (by decide) d_M_statement_189 ?_
        refine aw_iload X 0 rfl d_M_statement_190 ?_
        obtain ⟨⟨r192, f192, e192, g192⟩, h⟩ := h
        cases e192
        refine aw_cVi X [_, _, _] (fun ad hlv => t_M_put l hlv h) (cwV 3 X.hts (gd_V LK_483 LK_484 LK_485 LK_463 LK_code_M_put) rfl rfl rfl (by decide +kernel) ⟨(Nat.le_of_ble_eq_true rfl), (Nat.le_of_ble_eq_true rfl)⟩) ⟨9, f192, _, g192, hc_9, rfl⟩ rfl rfl (Nat.le_of_ble_eq_true rfl) d_M_statement_192 ⟨(Nat.le_of_ble_eq_true rfl), (Nat.le_of_ble_eq_true rfl)⟩ (fun a192 M192 h => ?_)
        refine aw_if_eq (tgt := 202) X d_M_statement_195 (by decide) (fun c => ?_) (fun c => ?_)
        · have h := h.1 c
          refine aw_lv [1, 2, 3, 4, 0] rfl ?_
          exact sd_M_statement_202 X hr hin h
        · have h := h.2 c
          refine aw_iconst X (1) (by decide) d_M_statement_198 ?_
          refine aw_goto (tgt := 203) X d_M_statement_199 (by decide) ?_
          refine aw_lv [1, 2, 3, 4, 0] rfl ?_
          exact sd_M_statement_203 X hr hin h
    · have h := h.2 c1
      rcases Decidable.em (a76 = 2) with c2 | c2
      · have h := h.1 c2
        refine aw_tableIn (off := 127) (tgt := 204) X d_M_statement_77 c2 (by decide) (by decide) (by decide) (by decide) ?_
        refine aw_aload_n X 1 rfl d_M_statement_204 rfl ?_
        refine aw_iload_n X 2 rfl d_M_statement_205 rfl ?_
        refine aw_iload_n X 4 rfl d_M_statement_206 rfl ?_
        obtain ⟨⟨r207, f207, e207, g207⟩, h⟩ := h
        cases e207
        refine aw_cVi X [_, _] (fun ad hlv => t_M_foreign l hlv h) (cwV 2 X.hts (gd_V LK_479 LK_480 LK_481 LK_463 LK_code_M_foreign) rfl rfl rfl (by decide +kernel) ⟨(Nat.le_of_ble_eq_true rfl), (Nat.le_of_ble_eq_true rfl)⟩) ⟨9, f207, _, g207, hc_9, rfl⟩ rfl rfl (Nat.le_of_ble_eq_true rfl) d_M_statement_207 ⟨(Nat.le_of_ble_eq_true rfl), (Nat.le_of_ble_eq_true rfl)⟩ (fun a207 M207 h => ?_)
        refine aw_if_ne (tgt := 237) X d_M_statement_210 (by decide) (fun c => ?_) (fun c => ?_)
        · have h := h.1 c
          refine aw_lv [1, 2, 3, 4, 0] rfl ?_
          exact sd_M_statement_237 X hr hin h
        · have h := h.2 c
          refine aw_aload_n X 1 rfl d_M_statement_213 rfl ?_
          refine aw_gR X hc_9 in_9 1 (by decide) LK_433 (fun _ _ _ _ h => h) d_M_statement_214 (h.mono (fun a214 h => ?_))
          refine aw_iload_n X 4 rfl d_M_statement_217 rfl ?_
          refine aw_lZ X d_M_statement_218 (h.mono (fun a218 h => ?_))
          refine aw_if_ne (tgt := 237) X d_M_statement_219 (by decide) (fun c => ?_) (fun c => ?_)
          · have h := h.1 c
            refine aw_lv [1, 2, 3, 4, 0] rfl ?_
            exact sd_M_statement_237 X hr hin h
          · have h := h.2 c
            refine aw_aload_n X 1 rfl d_M_statement_222 rfl ?_
            refine aw_iload_n X 4 rfl d_M_statement_223 rfl ?_
            refine aw_iconst X (1) (by decide) d_M_statement_224 ?_
            refine aw_iload X 0 rfl d_M_statement_225 ?_
            obtain ⟨⟨r227, f227, e227, g227⟩, h⟩ := h
            cases e227
            refine aw_cVi X [_, _, _] (fun ad hlv => t_M_put l hlv h) (cwV 3 X.hts (gd_V LK_483 LK_484 LK_485 LK_463 LK_code_M_put) rfl rfl rfl (by decide +kernel) ⟨(Nat.le_of_ble_eq_true rfl), (Nat.le_of_ble_eq_true rfl)⟩) ⟨9, f227, _, g227, hc_9, rfl⟩ rfl rfl (Nat.le_of_ble_eq_true rfl) d_M_statement_227 ⟨(Nat.le_of_ble_eq_true rfl), (Nat.le_of_ble_eq_true rfl)⟩ (fun a227 M227 h => ?_)
            refine aw_if_eq (tgt := 237) X d_M_statement_230 (by decide) (fun c => ?_) (fun c => ?_)
            · have h := h.1 c
              refine aw_lv [1, 2, 3, 4, 0] rfl ?_
              exact sd_M_statement_237 X hr hin h
            · have h := h.2 c
              refine aw_iconst X (1) (by decide) d_M_statement_233 ?_
              refine aw_goto (tgt := 238) X d_M_statement_234 (by decide) ?_
              refine aw_lv [1, 2, 3, 4, 0] rfl ?_
              exact sd_M_statement_238 X hr hin h
      · have h := h.2 c2
        rcases Decidable.em (a76 = 3) with c3 | c3
        · have h := h.1 c3
          refine aw_tableIn (off := 162) (tgt := 239) X d_M_statement_77 c3 (by decide) (by decide) (by decide) (by decide) ?_
          refine aw_aload_n X 1 rfl d_M_statement_239 rfl ?_
          refine aw_iload_n X 2 rfl d_M_statement_240 rfl ?_
          refine aw_iload_n X 4 rfl d_M_statement_241 rfl ?_
          obtain ⟨⟨r242, f242, e242, g242⟩, h⟩ := h
          cases e242
          refine aw_cVi X [_, _] (fun ad hlv => t_M_foreign l hlv h) (cwV 2 X.hts (gd_V LK_479 LK_480 LK_481 LK_463 LK_code_M_foreign) rfl rfl rfl (by decide +kernel) ⟨(Nat.le_of_ble_eq_true rfl), (Nat.le_of_ble_eq_true rfl)⟩) ⟨9, f242, _, g242, hc_9, rfl⟩ rfl rfl (Nat.le_of_ble_eq_true rfl) d_M_statement_242 ⟨(Nat.le_of_ble_eq_true rfl), (Nat.le_of_ble_eq_true rfl)⟩ (fun a242 M242 h => ?_)
          refine aw_if_ne (tgt := 271) X d_M_statement_245 (by decide) (fun c => ?_) (fun c => ?_)
          · have h := h.1 c
            refine aw_lv [1, 2, 3, 4, 0] rfl ?_
            exact sd_M_statement_271 X hr hin h
          · have h := h.2 c
            refine aw_aload_n X 1 rfl d_M_statement_248 rfl ?_
            refine aw_gR X hc_9 in_9 1 (by decide) LK_433 (fun _ _ _ _ h => h) d_M_statement_249 (h.mono (fun a249 h => ?_))
            refine aw_iload_n X 4 rfl d_M_statement_252 rfl ?_
            refine aw_lZ X d_M_statement_253 (h.mono (fun a253 h => ?_))
            refine aw_if_eq (tgt := 271) X d_M_statement_254 (by decide) (fun c => ?_) (fun c => ?_)
            · have h := h.1 c
              refine aw_lv [1, 2, 3, 4, 0] rfl ?_
              exact sd_M_statement_271 X hr hin h
            · have h := h.2 c
              refine aw_aload_n X 1 rfl d_M_statement_257 rfl ?_
              refine aw_iload_n X 4 rfl d_M_statement_258 rfl ?_
              refine aw_iconst X (0) (by decide) d_M_statement_259 ?_
              refine aw_iconst X (0) (by decide) d_M_statement_260 ?_
              obtain ⟨⟨r261, f261, e261, g261⟩, h⟩ := h
              cases e261
              refine aw_cVi X [_, _, _] (fun ad hlv => t_M_put l hlv h) (cwV 3 X.hts (gd_V LK_483 LK_484 LK_485 LK_463 LK_code_M_put) rfl rfl rfl (by decide +kernel) ⟨(Nat.le_of_ble_eq_true rfl), (Nat.le_of_ble_eq_true rfl)⟩) ⟨9, f261, _, g261, hc_9, rfl⟩ rfl rfl (Nat.le_of_ble_eq_true rfl) d_M_statement_261 ⟨(Nat.le_of_ble_eq_true rfl), (Nat.le_of_ble_eq_true rfl)⟩ (fun a261 M261 h => ?_)
              refine aw_if_eq (tgt := 271) X d_M_statement_264 (by decide) (fun c => ?_) (fun c => ?_)
              · have h := h.1 c
                refine aw_lv [1, 2, 3, 4, 0] rfl ?_
                exact sd_M_statement_271 X hr hin h
              · have h := h.2 c
                refine aw_iconst X (1) (by decide) d_M_statement_267 ?_
                refine aw_goto (tgt := 272) X d_M_statement_268 (by decide) ?_
                refine aw_lv [1, 2, 3, 4, 0] rfl ?_
                exact sd_M_statement_272 X hr hin h
        · have h := h.2 c3
          rcases Decidable.em (a76 = 4) with c4 | c4
          · have h := h.1 c4
            refine aw_tableIn (off := 196) (tgt := 273) X d_M_statement_77 c4 (by decide) (by decide) (by decide) (by decide) ?_
            refine aw_aload_n X 1 rfl d_M_statement_273 rfl ?_
            refine aw_gR X hc_9 in_9 32 (by decide) LK_460 (fun _ _ _ _ h => h) d_M_statement_274 (h.mono (fun a274 h => ?_))
            refine aw_aload_n X 1 rfl d_M_statement_277 rfl ?_
            refine aw_gR X hc_9 in_9 11 (by decide) LK_443 (fun _ _ _ _ h => h) d_M_statement_278 (h.mono (fun a278 h => ?_))
            refine aw_iload_n X 3 rfl d_M_statement_281 rfl ?_
            refine aw_lI X d_M_statement_282 (h.mono (fun a282 h => ?_))
            refine aw_iload X 0 rfl d_M_statement_283 ?_
            refine aw_aload_n X 1 rfl d_M_statement_285 rfl ?_
            refine aw_gR X hc_9 in_9 32 (by decide) LK_460 (fun _ _ _ _ h => h) d_M_statement_286 (h.mono (fun a286 h => ?_))
            refine aw_aload_n X 1 rfl d_M_statement_289 rfl ?_
            refine aw_gR X hc_9 in_9 13 (by decide) LK_445 (fun _ _ _ _ h => h) d_M_statement_290 (h.mono (fun a290 h => ?_))
            refine aw_iload_n X 3 rfl d_M_statement_293 rfl ?_
            refine aw_lI X d_M_statement_294 (h.mono (fun a294 h => ?_))
            refine aw_lI X d_M_statement_295 (h.mono (fun a295 h => ?_))
            refine aw_iadd X d_M_statement_296 ?_
            refine aw_sI X d_M_statement_297 (h.mono (fun M297 h => ?_))
            refine aw_iconst X (1) (by decide) d_M_statement_298 ?_
            exact aw_zret X hr (Or.inr rfl) (Nat.le_of_ble_eq_true rfl) (Nat.le_of_ble_eq_true rfl) d_M_statement_299 h
          · have h := h.2 c4
            rcases Decidable.em (a76 = 5) with c5 | c5
            · have h := h.1 c5
              refine aw_tableIn (off := 223) (tgt := 300) X d_M_statement_77 c5 (by decide) (by decide) (by decide) (by decide) ?_
              refine aw_aload_n X 1 rfl d_M_statement_300 rfl ?_
              refine aw_gR X hc_9 in_9 32 (by decide) LK_460 (fun _ _ _ _ h => h) d_M_statement_301 (h.mono (fun a301 h => ?_))
              refine aw_aload_n X 1 rfl d_M_statement_304 rfl ?_
              refine aw_gR X hc_9 in_9 11 (by decide) LK_443 (fun _ _ _ _ h => h) d_M_statement_305 (h.mono (fun a305 h => ?_))
              refine aw_iload_n X 3 rfl d_M_statement_308 rfl ?_
              refine aw_lI X d_M_statement_309 (h.mono (fun a309 h => ?_))
              refine aw_aload_n X 1 rfl d_M_statement_310 rfl ?_
              refine aw_gR X hc_9 in_9 12 (by decide) LK_444 (fun _ _ _ _ h => h) d_M_statement_311 (h.mono (fun a311 h => ?_))
              refine aw_iload_n X 3 rfl d_M_statement_314 rfl ?_
              refine aw_lI X d_M_statement_315 (h.mono (fun a315 h => ?_))
              refine aw_sI X d_M_statement_316 (h.mono (fun M316 h => ?_))
              refine aw_iconst X (1) (by decide) d_M_statement_317 ?_
              exact aw_zret X hr (Or.inr rfl) (Nat.le_of_ble_eq_true rfl) (Nat.le_of_ble_eq_true rfl) d_M_statement_318 h
            · have h := h.2 c5
              rcases Decidable.em (a76 = 6) with c6 | c6
              · have h := h.1 c6
                refine aw_tableIn (off := 242) (tgt := 319) X d_M_statement_77 c6 (by decide) (by decide) (by decide) (by decide) ?_
                refine aw_iload_n X 4 rfl d_M_statement_319 rfl ?_
                refine aw_iload X 0 rfl d_M_statement_320 ?_
                refine aw_icmp_lt (tgt := 329) X d_M_statement_322 (by decide) (fun c => ?_) (fun c => ?_)
                · have h := h.1 c
                  refine aw_iconst X (0) (by decide) d_M_statement_329 ?_
                  refine aw_lv [1, 2, 3, 4, 0] rfl ?_
                  exact sd_M_statement_330 X hr hin h
                · have h := h.2 c
                  refine aw_iconst X (1) (by decide) d_M_statement_325 ?_
                  refine aw_goto (tgt := 330) X d_M_statement_326 (by decide) ?_
                  refine aw_lv [1, 2, 3, 4, 0] rfl ?_
                  exact sd_M_statement_330 X hr hin h
              · have h := h.2 c6
                rcases Decidable.em (a76 = 7) with c7 | c7
                · have h := h.1 c7
                  refine aw_tableIn (off := 358) (tgt := 435) X d_M_statement_77 c7 (by decide) (by decide) (by decide) (by decide) ?_
                  refine aw_iconst X (1) (by decide) d_M_statement_435 ?_
                  exact aw_zret X hr (Or.inr rfl) (Nat.le_of_ble_eq_true rfl) (Nat.le_of_ble_eq_true rfl) d_M_statement_436 h
                · have h := h.2 c7
                  rcases Decidable.em (a76 = 8) with c8 | c8
                  · have h := h.1 c8
                    refine aw_tableIn (off := 254) (tgt := 331) X d_M_statement_77 c8 (by decide) (by decide) (by decide) (by decide) ?_
                    refine aw_iload X 0 rfl d_M_statement_331 ?_
                    refine aw_bipush X (8) (by decide) d_M_statement_333 ?_
                    refine aw_cSi X [_, _] (fun ad hlv => t_M_outside l hlv h) (cwS 2 X.hts (gd_S LK_461 LK_462 LK_463 LK_code_M_outside) rfl rfl rfl (by decide +kernel) ⟨(Nat.le_of_ble_eq_true rfl), (Nat.le_of_ble_eq_true rfl)⟩) rfl rfl (Nat.le_of_ble_eq_true rfl) d_M_statement_335 ⟨(Nat.le_of_ble_eq_true rfl), (Nat.le_of_ble_eq_true rfl)⟩ (fun a335 M335 h => ?_)
                    refine aw_if_eq (tgt := 343) X d_M_statement_338 (by decide) (fun c => ?_) (fun c => ?_)
                    · have h := h.1 c
                      refine aw_aload_n X 1 rfl d_M_statement_343 rfl ?_
                      refine aw_gR X hc_9 in_9 32 (by decide) LK_460 (fun _ _ _ _ h => h) d_M_statement_344 (h.mono (fun a344 h => ?_))
                      refine aw_aload_n X 1 rfl d_M_statement_347 rfl ?_
                      refine aw_gR X hc_9 in_9 11 (by decide) LK_443 (fun _ _ _ _ h => h) d_M_statement_348 (h.mono (fun a348 h => ?_))
                      refine aw_iload_n X 3 rfl d_M_statement_351 rfl ?_
                      refine aw_lI X d_M_statement_352 (h.mono (fun a352 h => ?_))
                      refine aw_aload_n X 1 rfl d_M_statement_353 rfl ?_
                      refine aw_gR X hc_9 in_9 2 (by decide) LK_434 (fun _ _ _ _ h => h) d_M_statement_354 (h.mono (fun a354 h => ?_))
                      refine aw_bipush X (32) (by decide) d_M_statement_357 ?_
                      refine aw_iload X 0 rfl d_M_statement_359 ?_
                      refine aw_iadd X d_M_statement_361 ?_
                      refine aw_lI X d_M_statement_362 (h.mono (fun a362 h => ?_))
                      refine aw_sI X d_M_statement_363 (h.mono (fun M363 h => ?_))
                      refine aw_iconst X (1) (by decide) d_M_statement_364 ?_
                      exact aw_zret X hr (Or.inr rfl) (Nat.le_of_ble_eq_true rfl) (Nat.le_of_ble_eq_true rfl) d_M_statement_365 h
                    · have h := h.2 c
                      refine aw_iconst X (0) (by decide) d_M_statement_341 ?_
                      exact aw_zret X hr (Or.inl rfl) (Nat.le_of_ble_eq_true rfl) (Nat.le_of_ble_eq_true rfl) d_M_statement_342 h
                  · have h := h.2 c8
                    rcases Decidable.em (a76 = 9) with c9 | c9
                    · have h := h.1 c9
                      refine aw_tableIn (off := 289) (tgt := 366) X d_M_statement_77 c9 (by decide) (by decide) (by decide) (by decide) ?_
                      refine aw_iload_n X 4 rfl d_M_statement_366 rfl ?_
                      refine aw_bipush X (8) (by decide) d_M_statement_367 ?_
                      refine aw_cSi X [_, _] (fun ad hlv => t_M_outside l hlv h) (cwS 2 X.hts (gd_S LK_461 LK_462 LK_463 LK_code_M_outside) rfl rfl rfl (by decide +kernel) ⟨(Nat.le_of_ble_eq_true rfl), (Nat.le_of_ble_eq_true rfl)⟩) rfl rfl (Nat.le_of_ble_eq_true rfl) d_M_statement_369 ⟨(Nat.le_of_ble_eq_true rfl), (Nat.le_of_ble_eq_true rfl)⟩ (fun a369 M369 h => ?_)
                      refine aw_if_ne (tgt := 393) X d_M_statement_372 (by decide) (fun c => ?_) (fun c => ?_)
                      · have h := h.1 c
                        refine aw_lv [1, 2, 3, 4, 0] rfl ?_
                        exact sd_M_statement_393 X hr hin h
                      · have h := h.2 c
                        refine aw_aload_n X 1 rfl d_M_statement_375 rfl ?_
                        refine aw_bipush X (32) (by decide) d_M_statement_376 ?_
                        refine aw_iload_n X 4 rfl d_M_statement_378 rfl ?_
                        refine aw_iadd X d_M_statement_379 ?_
                        refine aw_iconst X (1) (by decide) d_M_statement_380 ?_
                        refine aw_iload X 0 rfl d_M_statement_381 ?_
                        obtain ⟨⟨r383, f383, e383, g383⟩, h⟩ := h
                        cases e383
                        refine aw_cVi X [_, _, _] (fun ad hlv => t_M_put l hlv h) (cwV 3 X.hts (gd_V LK_483 LK_484 LK_485 LK_463 LK_code_M_put) rfl rfl rfl (by decide +kernel) ⟨(Nat.le_of_ble_eq_true rfl), (Nat.le_of_ble_eq_true rfl)⟩) ⟨9, f383, _, g383, hc_9, rfl⟩ rfl rfl (Nat.le_of_ble_eq_true rfl) d_M_statement_383 ⟨(Nat.le_of_ble_eq_true rfl), (Nat.le_of_ble_eq_true rfl)⟩ (fun a383 M383 h => ?_)
                        refine aw_if_eq (tgt := 393) X d_M_statement_386 (by decide) (fun c => ?_) (fun c => ?_)
                        · have h := h.1 c
                          refine aw_lv [1, 2, 3, 4, 0] rfl ?_
                          exact sd_M_statement_393 X hr hin h
                        · have h := h.2 c
                          refine aw_iconst X (1) (by decide) d_M_statement_389 ?_
                          refine aw_goto (tgt := 394) X d_M_statement_390 (by decide) ?_
                          refine aw_lv [1, 2, 3, 4, 0] rfl ?_
                          exact sd_M_statement_394 X hr hin h
                    · have h := h.2 c9
                      rcases Decidable.em (a76 = 10) with c10 | c10
                      · have h := h.1 c10
                        refine aw_tableIn (off := 318) (tgt := 395) X d_M_statement_77 c10 (by decide) (by decide) (by decide) (by decide) ?_
                        refine aw_aload_n X 1 rfl d_M_statement_395 rfl ?_
                        refine aw_gR X hc_9 in_9 21 (by decide) LK_452 (fun _ _ _ _ h => h) d_M_statement_396 (h.mono (fun a396 h => ?_))
                        refine aw_iload_n X 2 rfl d_M_statement_399 rfl ?_
                        refine aw_lI X d_M_statement_400 (h.mono (fun a400 h => ?_))
                        refine aw_iconst X (4) (by decide) d_M_statement_401 ?_
                        refine aw_icmp_ne (tgt := 407) X d_M_statement_402 (by decide) (fun c => ?_) (fun c => ?_)
                        · have h := h.1 c
                          refine aw_aload_n X 1 rfl d_M_statement_407 rfl ?_
                          refine aw_gR X hc_9 in_9 22 (by decide) LK_453 (fun _ _ _ _ h => h) d_M_statement_408 (h.mono (fun a408 h => ?_))
                          refine aw_iconst X (4) (by decide) d_M_statement_411 ?_
                          refine aw_iload_n X 2 rfl d_M_statement_412 rfl ?_
                          refine aw_imul X d_M_statement_413 ?_
                          refine aw_aload_n X 1 rfl d_M_statement_414 rfl ?_
                          refine aw_gR X hc_9 in_9 21 (by decide) LK_452 (fun _ _ _ _ h => h) d_M_statement_415 (h.mono (fun a415 h => ?_))
                          refine aw_iload_n X 2 rfl d_M_statement_418 rfl ?_
                          refine aw_lI X d_M_statement_419 (h.mono (fun a419 h => ?_))
                          refine aw_iadd X d_M_statement_420 ?_
                          refine aw_iload_n X 4 rfl d_M_statement_421 rfl ?_
                          refine aw_sI X d_M_statement_422 (h.mono (fun M422 h => ?_))
                          refine aw_aload_n X 1 rfl d_M_statement_423 rfl ?_
                          refine aw_gR X hc_9 in_9 21 (by decide) LK_452 (fun _ _ _ _ h => h) d_M_statement_424 (h.mono (fun a424 h => ?_))
                          refine aw_iload_n X 2 rfl d_M_statement_427 rfl ?_
                          refine aw_dup2 X rfl rfl d_M_statement_428 ?_
                          refine aw_lI X d_M_statement_429 (h.mono (fun a429 h => ?_))
                          refine aw_iconst X (1) (by decide) d_M_statement_430 ?_
                          refine aw_iadd X d_M_statement_431 ?_
                          refine aw_sI X d_M_statement_432 (h.mono (fun M432 h => ?_))
                          refine aw_iconst X (1) (by decide) d_M_statement_433 ?_
                          exact aw_zret X hr (Or.inr rfl) (Nat.le_of_ble_eq_true rfl) (Nat.le_of_ble_eq_true rfl) d_M_statement_434 h
                        · have h := h.2 c
                          refine aw_iconst X (0) (by decide) d_M_statement_405 ?_
                          exact aw_zret X hr (Or.inl rfl) (Nat.le_of_ble_eq_true rfl) (Nat.le_of_ble_eq_true rfl) d_M_statement_406 h
                      · have h := h.2 c10
                        have z0 := lv_neT (a := 0) c0 (by decide)
                        have z1 := lv_neT (a := 1) c1 (by decide)
                        have z2 := lv_neT (a := 2) c2 (by decide)
                        have z3 := lv_neT (a := 3) c3 (by decide)
                        have z4 := lv_neT (a := 4) c4 (by decide)
                        have z5 := lv_neT (a := 5) c5 (by decide)
                        have z6 := lv_neT (a := 6) c6 (by decide)
                        have z7 := lv_neT (a := 7) c7 (by decide)
                        have z8 := lv_neT (a := 8) c8 (by decide)
                        have z9 := lv_neT (a := 9) c9 (by decide)
                        have z10 := lv_neT (a := 10) c10 (by decide)
                        refine aw_tableOut (tgt := 435) X d_M_statement_77 (by omega) (by decide) ?_
                        refine aw_iconst X (1) (by decide) d_M_statement_435 ?_
                        exact aw_zret X hr (Or.inr rfl) (Nat.le_of_ble_eq_true rfl) (Nat.le_of_ble_eq_true rfl) d_M_statement_436 h
def wp_M_statement_54 (post : Int32 → wM → Prop) (x0 : Option Ro) (x1 : Int32) (x2 : Int32) (x3 : Int32) (M : wM) : Prop := wp_M_statement_69 post x0 x1 x2 x3 0 M
set_option maxRecDepth 100000 in
set_option maxHeartbeats 4000000 in
theorem sd_M_statement_54 (X : Cx p s m args meth c b_M_statement 5 R_M TBL D dA B zE) (hr : meth.sig.returnType = (some .boolean)) (hin : meth.name = y_M_statement.name) {post : Int32 → wM → Prop} {x0 : Option Ro} {x1 : Int32} {x2 : Int32} {x3 : Int32} {M : wM} (h : wp_M_statement_54 post x0 x1 x2 x3 M) : AW p l e (headSpec w_M_statement rm_M_statement).room s m args below meth c (MQ below (QI D dA B zE M0 ad0 post) args s 0 0 (wA B)) D dA B zE 5 ad0 M0 M 0 0 54 [(0, vR x0), (1, vI x1), (2, vI x2), (3, vI x3)] [] := by
  unfold wp_M_statement_54 at h
  refine aw_iconst X (0) (by decide) d_M_statement_54 ?_
  refine aw_goto (tgt := 69) X d_M_statement_55 (by decide) ?_
  exact sd_M_statement_69 X hr hin h
def wp_M_statement (post : Int32 → wM → Prop) (x0 : Option Ro) (x1 : Int32) (x2 : Int32) (M : wM) : Prop := gR M x0 9 32 (fun a1 => gR M x0 9 11 (fun a5 => lI M a5 x2 (fun a9 => lI M a1 a9 (fun a10 => gR M x0 9 10 (fun a13 => lI M a13 x2 (fun a17 => (a17 = (3 : Int32) → wp_M_statement_54 post x0 x1 x2 a10 M) ∧ (¬ a17 = (3 : Int32) → gR M x0 9 10 (fun a23 => lI M a23 x2 (fun a27 => (a27 = (5 : Int32) → wp_M_statement_54 post x0 x1 x2 a10 M) ∧ (¬ a27 = (5 : Int32) → gR M x0 9 10 (fun a33 => lI M a33 x2 (fun a37 => (a37 = (7 : Int32) → wp_M_statement_54 post x0 x1 x2 a10 M) ∧ (¬ a37 = (7 : Int32) → gR M x0 9 10 (fun a44 => lI M a44 x2 (fun a48 => (¬ a48 = (10 : Int32) → gR M x0 9 32 (fun a59 => gR M x0 9 12 (fun a63 => lI M a63 x2 (fun a67 => lI M a59 a67 (fun a68 => wp_M_statement_69 post x0 x1 x2 a10 a68 M))))) ∧ (a48 = (10 : Int32) → wp_M_statement_54 post x0 x1 x2 a10 M))))))))))))))))
set_option maxRecDepth 100000 in
set_option maxHeartbeats 4000000 in
theorem sd_M_statement_0 (X : Cx p s m args meth c b_M_statement 5 R_M TBL D dA B zE) (hr : meth.sig.returnType = (some .boolean)) (hin : meth.name = y_M_statement.name) {post : Int32 → wM → Prop} {x0 : Option Ro} {x1 : Int32} {x2 : Int32} {M : wM} (h : wp_M_statement post x0 x1 x2 M) : AW p l e (headSpec w_M_statement rm_M_statement).room s m args below meth c (MQ below (QI D dA B zE M0 ad0 post) args s 0 0 (wA B)) D dA B zE 5 ad0 M0 M 0 0 0 [(0, vR x0), (1, vI x1), (2, vI x2)] [] := by
  unfold wp_M_statement at h
  refine aw_aload_n X 0 rfl d_M_statement_0 rfl ?_
  refine aw_gR X hc_9 in_9 32 (by decide) LK_460 (fun _ _ _ _ h => h) d_M_statement_1 (h.mono (fun a1 h => ?_))
  refine aw_aload_n X 0 rfl d_M_statement_4 rfl ?_
  refine aw_gR X hc_9 in_9 11 (by decide) LK_443 (fun _ _ _ _ h => h) d_M_statement_5 (h.mono (fun a5 h => ?_))
  refine aw_iload_n X 2 rfl d_M_statement_8 rfl ?_
  refine aw_lI X d_M_statement_9 (h.mono (fun a9 h => ?_))
  refine aw_lI X d_M_statement_10 (h.mono (fun a10 h => ?_))
  refine aw_istore_n (lvn := [(3, _), (0, _), (1, _), (2, _)]) X d_M_statement_11 rfl (by decide) rfl ?_
  refine aw_aload_n X 1 rfl d_M_statement_12 rfl ?_
  refine aw_gR X hc_9 in_9 10 (by decide) LK_442 (fun _ _ _ _ h => h) d_M_statement_13 (h.mono (fun a13 h => ?_))
  refine aw_iload_n X 3 rfl d_M_statement_16 rfl ?_
  refine aw_lI X d_M_statement_17 (h.mono (fun a17 h => ?_))
  refine aw_iconst X (3) (by decide) d_M_statement_18 ?_
  refine aw_icmp_eq (tgt := 54) X d_M_statement_19 (by decide) (fun c => ?_) (fun c => ?_)
  · have h := h.1 c
    refine aw_lv [1, 2, 3, 0] rfl ?_
    exact sd_M_statement_54 X hr hin h
  · have h := h.2 c
    refine aw_aload_n X 1 rfl d_M_statement_22 rfl ?_
    refine aw_gR X hc_9 in_9 10 (by decide) LK_442 (fun _ _ _ _ h => h) d_M_statement_23 (h.mono (fun a23 h => ?_))
    refine aw_iload_n X 3 rfl d_M_statement_26 rfl ?_
    refine aw_lI X d_M_statement_27 (h.mono (fun a27 h => ?_))
    refine aw_iconst X (5) (by decide) d_M_statement_28 ?_
    refine aw_icmp_eq (tgt := 54) X d_M_statement_29 (by decide) (fun c => ?_) (fun c => ?_)
    · have h := h.1 c
      refine aw_lv [1, 2, 3, 0] rfl ?_
      exact sd_M_statement_54 X hr hin h
    · have h := h.2 c
      refine aw_aload_n X 1 rfl d_M_statement_32 rfl ?_
      refine aw_gR X hc_9 in_9 10 (by decide) LK_442 (fun _ _ _ _ h => h) d_M_statement_33 (h.mono (fun a33 h => ?_))
      refine aw_iload_n X 3 rfl d_M_statement_36 rfl ?_
      refine aw_lI X d_M_statement_37 (h.mono (fun a37 h => ?_))
      refine aw_bipush X (7) (by decide) d_M_statement_38 ?_
      refine aw_icmp_eq (tgt := 54) X d_M_statement_40 (by decide) (fun c => ?_) (fun c => ?_)
      · have h := h.1 c
        refine aw_lv [1, 2, 3, 0] rfl ?_
        exact sd_M_statement_54 X hr hin h
      · have h := h.2 c
        refine aw_aload_n X 1 rfl d_M_statement_43 rfl ?_
        refine aw_gR X hc_9 in_9 10 (by decide) LK_442 (fun _ _ _ _ h => h) d_M_statement_44 (h.mono (fun a44 h => ?_))
        refine aw_iload_n X 3 rfl d_M_statement_47 rfl ?_
        refine aw_lI X d_M_statement_48 (h.mono (fun a48 h => ?_))
        refine aw_bipush X (10) (by decide) d_M_statement_49 ?_
        refine aw_icmp_ne (tgt := 58) X d_M_statement_51 (by decide) (fun c => ?_) (fun c => ?_)
        · have h := h.1 c
          refine aw_aload_n X 1 rfl d_M_statement_58 rfl ?_
          refine aw_gR X hc_9 in_9 32 (by decide) LK_460 (fun _ _ _ _ h => h) d_M_statement_59 (h.mono (fun a59 h => ?_))
          refine aw_aload_n X 1 rfl d_M_statement_62 rfl ?_
          refine aw_gR X hc_9 in_9 12 (by decide) LK_444 (fun _ _ _ _ h => h) d_M_statement_63 (h.mono (fun a63 h => ?_))
          refine aw_iload_n X 3 rfl d_M_statement_66 rfl ?_
          refine aw_lI X d_M_statement_67 (h.mono (fun a67 h => ?_))
          refine aw_lI X d_M_statement_68 (h.mono (fun a68 h => ?_))
          refine aw_lv [1, 2, 3, 0] rfl ?_
          exact sd_M_statement_69 X hr hin h
        · have h := h.2 c
          refine aw_lv [1, 2, 3, 0] rfl ?_
          exact sd_M_statement_54 X hr hin h
end
theorem t_M_statement (l : Launch) {D : va_G} {dA : Nat → ClassId} {B : Nat} {zE : ZT} {M : wM} {ad : Ro → Nat} {post : Int32 → wM → Prop} {x0 : Option Ro} {x1 : Int32} {x2 : Int32} (hlv : lvS M [vR x0, vI x1, vI x2]) (h : wp_M_statement post x0 x1 x2 M) : Met l y_M_statement w_M_statement rm_M_statement (PA D dA B zE M ad [vR x0, vI x1, vI x2]) (QI D dA B zE M ad post) 0 0 (wA B) :=
  AW_start [vR x0, vI x1, vI x2] [(0, vR x0), (1, vI x1), (2, vI x2)] hlv (by decide +kernel) rfl (fun _ hw => List.mem_cons_of_mem _ hw) rfl (Nat.le_of_ble_eq_true rfl) (fun p e s m args below meth c X hr hin => sd_M_statement_0 X hr hin h)
