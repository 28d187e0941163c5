abbrev rm_S_answer : Room := { frames := 1, cells := 0, slots := 0, locals := 21 }
section
variable {p : Program} {l : Launch} {e : Env} {s : State} {m : MethodId} {args : Array Value} {below : List Frame} {meth : Method} {c : Code} {D : va_G} {dA : Nat → ClassId} {B : Nat} {zE : ZT} {ad0 : Ro → Nat} {M0 : wM}
def wp_S_answer_21 (post : Int32 → wM → Prop) (x0 : Option Ro) (x1 : Int32) (s0 : Int32) (M : wM) : Prop := post s0 M
set_option maxRecDepth 100000 in
set_option maxHeartbeats 4000000 in
theorem sd_S_answer_21 (X : Cx p s m args meth c b_S_answer 2 R_S TBL D dA B zE) (hr : meth.sig.returnType = (some .int)) (hin : meth.name = y_S_answer.name) {post : Int32 → wM → Prop} {x0 : Option Ro} {x1 : Int32} {s0 : Int32} {M : wM} (h : wp_S_answer_21 post x0 x1 s0 M) : AW p l e (headSpec w_S_answer rm_S_answer).room s m args below meth c (MQ below (QI D dA B zE M0 ad0 post) args s 0 0 (wA B)) D dA B zE 2 ad0 M0 M 0 0 21 [(0, vR x0), (1, vI x1)] [vI s0] := by
  unfold wp_S_answer_21 at h
  exact aw_iret X hr (Nat.le_of_ble_eq_true rfl) (Nat.le_of_ble_eq_true rfl) d_S_answer_21 h
def wp_S_answer (post : Int32 → wM → Prop) (x0 : Option Ro) (x1 : Int32) (M : wM) : Prop := wp_S_isWithin (fun a2 M2 => (a2 = 0 → wp_S_answer_21 post x0 x1 (-1) M2) ∧ (¬ a2 = 0 → gR M2 x0 0 4 (fun a9 => lR M2 a9 x1 (fun a13 => gI M2 a13 1 0 (fun a14 => wp_S_answer_21 post x0 x1 a14 M2))))) x1 4 M
set_option maxRecDepth 100000 in
set_option maxHeartbeats 4000000 in
theorem sd_S_answer_0 (X : Cx p s m args meth c b_S_answer 2 R_S TBL D dA B zE) (hr : meth.sig.returnType = (some .int)) (hin : meth.name = y_S_answer.name) {post : Int32 → wM → Prop} {x0 : Option Ro} {x1 : Int32} {M : wM} (h : wp_S_answer post x0 x1 M) : AW p l e (headSpec w_S_answer rm_S_answer).room s m args below meth c (MQ below (QI D dA B zE M0 ad0 post) args s 0 0 (wA B)) D dA B zE 2 ad0 M0 M 0 0 0 [(0, vR x0), (1, vI x1)] [] := by
  unfold wp_S_answer at h
  refine aw_iload_n X 1 rfl d_S_answer_0 rfl ?_
  refine aw_iconst X (4) (by decide) d_S_answer_1 ?_
  refine aw_cSi X [_, _] (fun ad hlv => t_S_isWithin l hlv h) (cwS 2 X.hts (gd_S LK_120 LK_121 LK_122 LK_code_S_isWithin) rfl rfl rfl (by decide +kernel) ⟨(Nat.le_of_ble_eq_true rfl), (Nat.le_of_ble_eq_true rfl)⟩) rfl rfl (Nat.le_of_ble_eq_true rfl) d_S_answer_2 ⟨(Nat.le_of_ble_eq_true rfl), (Nat.le_of_ble_eq_true rfl)⟩ (fun a2 M2 h => ?_)
  refine aw_if_eq (tgt := 20) X d_S_answer_5 (by decide) (fun c => ?_) (fun c => ?_)
  · have h := h.1 c
    refine aw_iconst X (-1) (by decide) d_S_answer_20 ?_
    exact sd_S_answer_21 X hr hin h
  · have h := h.2 c
    refine aw_aload_n X 0 rfl d_S_answer_8 rfl ?_
    refine aw_gR X hc_0 in_0 4 (by decide) LK_72 (fun _ _ _ _ h => h) d_S_answer_9 (h.mono (fun a9 h => ?_))
    refine aw_iload_n X 1 rfl d_S_answer_12 rfl ?_
    refine aw_lR X d_S_answer_13 (h.mono (fun a13 h => ?_))
    refine aw_gI X hc_1 in_1 0 (by decide) LK_224 (fun _ _ _ _ h => h) d_S_answer_14 (h.mono (fun a14 h => ?_))
    refine aw_goto (tgt := 21) X d_S_answer_17 (by decide) ?_
    exact sd_S_answer_21 X hr hin h
end
theorem t_S_answer (l : Launch) {D : va_G} {dA : Nat → ClassId} {B : Nat} {zE : ZT} {M : wM} {ad : Ro → Nat} {post : Int32 → wM → Prop} {x0 : Option Ro} {x1 : Int32} (hlv : lvS M [vR x0, vI x1]) (h : wp_S_answer post x0 x1 M) : Met l y_S_answer w_S_answer rm_S_answer (PA D dA B zE M ad [vR x0, vI x1]) (QI D dA B zE M ad post) 0 0 (wA B) :=
  AW_start [vR x0, vI x1] [(0, vR x0), (1, vI x1)] hlv (by decide +kernel) rfl (fun _ hw => List.mem_cons_of_mem _ hw) rfl (Nat.le_of_ble_eq_true rfl) (fun p e s m args below meth c X hr hin => sd_S_answer_0 X hr hin h)
abbrev rm_C_tell : Room := { frames := 1, cells := 0, slots := 0, locals := 21 }
section
variable {p : Program} {l : Launch} {e : Env} {s : State} {m : MethodId} {args : Array Value} {below : List Frame} {meth : Method} {c : Code} {D : va_G} {dA : Nat → ClassId} {B : Nat} {zE : ZT} {ad0 : Ro → Nat} {M0 : wM}
def wp_C_tell_65 (post : Int64 → wM → Prop) (x0 : Option Ro) (x1 : Int32) (M : wM) : Prop := post (1000000000000) M
set_option maxRecDepth 100000 in
set_option maxHeartbeats 4000000 in
theorem sd_C_tell_65 (X : Cx p s m args meth c b_C_tell 2 R_C TBL D dA B zE) (hr : meth.sig.returnType = (some .long)) (hin : meth.name = y_C_tell.name) {post : Int64 → wM → Prop} {x0 : Option Ro} {x1 : Int32} {M : wM} (h : wp_C_tell_65 post x0 x1 M) : AW p l e (headSpec w_C_tell rm_C_tell).room s m args below meth c (MQ below (QL D dA B zE M0 ad0 post) args s 0 0 (wA B)) D dA B zE 2 ad0 M0 M 0 0 65 [(0, vR x0), (1, vI x1)] [] := by
  unfold wp_C_tell_65 at h
  refine aw_ldc2 X LK_417 d_C_tell_65 ?_
  exact aw_lret X hr (Nat.le_of_ble_eq_true rfl) (Nat.le_of_ble_eq_true rfl) d_C_tell_68 h
def wp_C_tell_46 (post : Int64 → wM → Prop) (x0 : Option Ro) (x1 : Int32) (M : wM) : Prop := gI M x0 1 0 (fun a47 => (¬ a47 = (3 : Int32) → wp_C_tell_65 post x0 x1 M) ∧ (a47 = (3 : Int32) → (¬ x1 = ((-1) : Int32) → wp_C_tell_65 post x0 x1 M) ∧ (x1 = ((-1) : Int32) → gI M x0 1 4 (fun a60 => post a60.toInt64 M))))
set_option maxRecDepth 100000 in
set_option maxHeartbeats 4000000 in
theorem sd_C_tell_46 (X : Cx p s m args meth c b_C_tell 2 R_C TBL D dA B zE) (hr : meth.sig.returnType = (some .long)) (hin : meth.name = y_C_tell.name) {post : Int64 → wM → Prop} {x0 : Option Ro} {x1 : Int32} {M : wM} (h : wp_C_tell_46 post x0 x1 M) : AW p l e (headSpec w_C_tell rm_C_tell).room s m args below meth c (MQ below (QL D dA B zE M0 ad0 post) args s 0 0 (wA B)) D dA B zE 2 ad0 M0 M 0 0 46 [(0, vR x0), (1, vI x1)] [] := by
  unfold wp_C_tell_46 at h
  refine aw_aload_n X 0 rfl d_C_tell_46 rfl ?_
  refine aw_gI X hc_1 in_1 0 (by decide) LK_50 (fun _ _ _ _ h => h) d_C_tell_47 (h.mono (fun a47 h => ?_))
  refine aw_iconst X (3) (by decide) d_C_tell_50 ?_
  refine aw_icmp_ne (tgt := 65) X d_C_tell_51 (by decide) (fun c => ?_) (fun c => ?_)
  · have h := h.1 c
    exact sd_C_tell_65 X hr hin h
  · have h := h.2 c
    refine aw_iload_n X 1 rfl d_C_tell_54 rfl ?_
    refine aw_iconst X (-1) (by decide) d_C_tell_55 ?_
    refine aw_icmp_ne (tgt := 65) X d_C_tell_56 (by decide) (fun c => ?_) (fun c => ?_)
    · have h := h.1 c
      exact sd_C_tell_65 X hr hin h
    · have h := h.2 c
      refine aw_aload_n X 0 rfl d_C_tell_59 rfl ?_
      refine aw_gI X hc_1 in_1 4 (by decide) LK_54 (fun _ _ _ _ h => h) d_C_tell_60 (h.mono (fun a60 h => ?_))
      refine aw_i2l X d_C_tell_63 ?_
      exact aw_lret X hr (Nat.le_of_ble_eq_true rfl) (Nat.le_of_ble_eq_true rfl) d_C_tell_64 h
def wp_C_tell_19 (post : Int64 → wM → Prop) (x0 : Option Ro) (x1 : Int32) (M : wM) : Prop := gI M x0 1 0 (fun a20 => (¬ a20 = (2 : Int32) → wp_C_tell_46 post x0 x1 M) ∧ (a20 = (2 : Int32) → gI M x0 1 5 (fun a29 => wp_S_isWithin (fun a32 M32 => (a32 = 0 → wp_C_tell_46 post x0 x1 M32) ∧ (¬ a32 = 0 → gR M32 x0 1 6 (fun a39 => lI M32 a39 x1 (fun a43 => post a43.toInt64 M32)))) x1 a29 M)))
set_option maxRecDepth 100000 in
set_option maxHeartbeats 4000000 in
theorem sd_C_tell_19 (X : Cx p s m args meth c b_C_tell 2 R_C TBL D dA B zE) (hr : meth.sig.returnType = (some .long)) (hin : meth.name = y_C_tell.name) {post : Int64 → wM → Prop} {x0 : Option Ro} {x1 : Int32} {M : wM} (h : wp_C_tell_19 post x0 x1 M) : AW p l e (headSpec w_C_tell rm_C_tell).room s m args below meth c (MQ below (QL D dA B zE M0 ad0 post) args s 0 0 (wA B)) D dA B zE 2 ad0 M0 M 0 0 19 [(0, vR x0), (1, vI x1)] [] := by
  unfold wp_C_tell_19 at h
  refine aw_aload_n X 0 rfl d_C_tell_19 rfl ?_
  refine aw_gI X hc_1 in_1 0 (by decide) LK_50 (fun _ _ _ _ h => h) d_C_tell_20 (h.mono (fun a20 h => ?_))
  refine aw_iconst X (2) (by decide) d_C_tell_23 ?_
  refine aw_icmp_ne (tgt := 46) X d_C_tell_24 (by decide) (fun c => ?_) (fun c => ?_)
  · have h := h.1 c
    exact sd_C_tell_46 X hr hin h
  · have h := h.2 c
    refine aw_iload_n X 1 rfl d_C_tell_27 rfl ?_
    refine aw_aload_n X 0 rfl d_C_tell_28 rfl ?_
    refine aw_gI X hc_1 in_1 5 (by decide) LK_55 (fun _ _ _ _ h => h) d_C_tell_29 (h.mono (fun a29 h => ?_))
    refine aw_cSNi X [_, _] (fun ad hlv => t_S_isWithin l hlv h) ⟨va_cnB (host := "PartitionedProcedureStore") 2 X.hts (gd_in LK_code_S_isWithin) rfl rfl rfl (X.hG.2.2.2 _ NW_418) (X.hts _ LK_122) (by decide +kernel) ⟨(Nat.le_of_ble_eq_true rfl), (Nat.le_of_ble_eq_true rfl)⟩, X.hts _ LK_121, trivial⟩ rfl rfl (Nat.le_of_ble_eq_true rfl) d_C_tell_32 ⟨(Nat.le_of_ble_eq_true rfl), (Nat.le_of_ble_eq_true rfl)⟩ (fun a32 M32 h => ?_)
    refine aw_if_eq (tgt := 46) X d_C_tell_35 (by decide) (fun c => ?_) (fun c => ?_)
    · have h := h.1 c
      exact sd_C_tell_46 X hr hin h
    · have h := h.2 c
      refine aw_aload_n X 0 rfl d_C_tell_38 rfl ?_
      refine aw_gR X hc_1 in_1 6 (by decide) LK_56 (fun _ _ _ _ h => h) d_C_tell_39 (h.mono (fun a39 h => ?_))
      refine aw_iload_n X 1 rfl d_C_tell_42 rfl ?_
      refine aw_lI X d_C_tell_43 (h.mono (fun a43 h => ?_))
      refine aw_i2l X d_C_tell_44 ?_
      exact aw_lret X hr (Nat.le_of_ble_eq_true rfl) (Nat.le_of_ble_eq_true rfl) d_C_tell_45 h
def wp_C_tell (post : Int64 → wM → Prop) (x0 : Option Ro) (x1 : Int32) (M : wM) : Prop := gI M x0 1 0 (fun a1 => (¬ a1 = (2 : Int32) → wp_C_tell_19 post x0 x1 M) ∧ (a1 = (2 : Int32) → (¬ x1 = ((-1) : Int32) → wp_C_tell_19 post x0 x1 M) ∧ (x1 = ((-1) : Int32) → gI M x0 1 5 (fun a14 => post a14.toInt64 M))))
set_option maxRecDepth 100000 in
set_option maxHeartbeats 4000000 in
theorem sd_C_tell_0 (X : Cx p s m args meth c b_C_tell 2 R_C TBL D dA B zE) (hr : meth.sig.returnType = (some .long)) (hin : meth.name = y_C_tell.name) {post : Int64 → wM → Prop} {x0 : Option Ro} {x1 : Int32} {M : wM} (h : wp_C_tell post x0 x1 M) : AW p l e (headSpec w_C_tell rm_C_tell).room s m args below meth c (MQ below (QL D dA B zE M0 ad0 post) args s 0 0 (wA B)) D dA B zE 2 ad0 M0 M 0 0 0 [(0, vR x0), (1, vI x1)] [] := by
  unfold wp_C_tell at h
  refine aw_aload_n X 0 rfl d_C_tell_0 rfl ?_
  refine aw_gI X hc_1 in_1 0 (by decide) LK_50 (fun _ _ _ _ h => h) d_C_tell_1 (h.mono (fun a1 h => ?_))
  refine aw_iconst X (2) (by decide) d_C_tell_4 ?_
  refine aw_icmp_ne (tgt := 19) X d_C_tell_5 (by decide) (fun c => ?_) (fun c => ?_)
  · have h := h.1 c
    exact sd_C_tell_19 X hr hin h
  · have h := h.2 c
    refine aw_iload_n X 1 rfl d_C_tell_8 rfl ?_
    refine aw_iconst X (-1) (by decide) d_C_tell_9 ?_
    refine aw_icmp_ne (tgt := 19) X d_C_tell_10 (by decide) (fun c => ?_) (fun c => ?_)
    · have h := h.1 c
      exact sd_C_tell_19 X hr hin h
    · have h := h.2 c
      refine aw_aload_n X 0 rfl d_C_tell_13 rfl ?_
      refine aw_gI X hc_1 in_1 5 (by decide) LK_55 (fun _ _ _ _ h => h) d_C_tell_14 (h.mono (fun a14 h => ?_))
      refine aw_i2l X d_C_tell_17 ?_
      exact aw_lret X hr (Nat.le_of_ble_eq_true rfl) (Nat.le_of_ble_eq_true rfl) d_C_tell_18 h
end
theorem t_C_tell (l : Launch) {D : va_G} {dA : Nat → ClassId} {B : Nat} {zE : ZT} {M : wM} {ad : Ro → Nat} {post : Int64 → wM → Prop} {x0 : Option Ro} {x1 : Int32} (hlv : lvS M [vR x0, vI x1]) (h : wp_C_tell post x0 x1 M) : Met l y_C_tell w_C_tell rm_C_tell (PA D dA B zE M ad [vR x0, vI x1]) (QL D dA B zE M ad post) 0 0 (wA B) :=
  AW_start [vR x0, vI x1] [(0, vR x0), (1, vI x1)] hlv (by decide +kernel) rfl (fun _ hw => List.mem_cons_of_mem _ hw) rfl (Nat.le_of_ble_eq_true rfl) (fun p e s m args below meth c X hr hin => sd_C_tell_0 X hr hin h)
abbrev rm_S_output : Room := { frames := 2, cells := 0, slots := 0, locals := 42 }
section
variable {p : Program} {l : Launch} {e : Env} {s : State} {m : MethodId} {args : Array Value} {below : List Frame} {meth : Method} {c : Code} {D : va_G} {dA : Nat → ClassId} {B : Nat} {zE : ZT} {ad0 : Ro → Nat} {M0 : wM}
def wp_S_output_24 (post : Int64 → wM → Prop) (x0 : Option Ro) (x1 : Int32) (x2 : Int32) (s0 : Int64) (M : wM) : Prop := post s0 M
set_option maxRecDepth 100000 in
set_option maxHeartbeats 4000000 in
theorem sd_S_output_24 (X : Cx p s m args meth c b_S_output 3 R_S TBL D dA B zE) (hr : meth.sig.returnType = (some .long)) (hin : meth.name = y_S_output.name) {post : Int64 → wM → Prop} {x0 : Option Ro} {x1 : Int32} {x2 : Int32} {s0 : Int64} {M : wM} (h : wp_S_output_24 post x0 x1 x2 s0 M) : AW p l e (headSpec w_S_output rm_S_output).room s m args below meth c (MQ below (QL D dA B zE M0 ad0 post) args s 0 0 (wA B)) D dA B zE 3 ad0 M0 M 0 0 24 [(0, vR x0), (1, vI x1), (2, vI x2)] [vL s0] := by
  unfold wp_S_output_24 at h
  exact aw_lret X hr (Nat.le_of_ble_eq_true rfl) (Nat.le_of_ble_eq_true rfl) d_S_output_24 h
def wp_S_output (post : Int64 → wM → Prop) (x0 : Option Ro) (x1 : Int32) (x2 : Int32) (M : wM) : Prop := wp_S_isWithin (fun a2 M2 => (a2 = 0 → wp_S_output_24 post x0 x1 x2 (1000000000000) M2) ∧ (¬ a2 = 0 → gR M2 x0 0 4 (fun a9 => lR M2 a9 x1 (fun a13 => cV M2 a13 1 (wp_C_tell (fun a15 M15 => wp_S_output_24 post x0 x1 x2 a15 M15) a13 x2 M2))))) x1 4 M
set_option maxRecDepth 100000 in
set_option maxHeartbeats 4000000 in
theorem sd_S_output_0 (X : Cx p s m args meth c b_S_output 3 R_S TBL D dA B zE) (hr : meth.sig.returnType = (some .long)) (hin : meth.name = y_S_output.name) {post : Int64 → wM → Prop} {x0 : Option Ro} {x1 : Int32} {x2 : Int32} {M : wM} (h : wp_S_output post x0 x1 x2 M) : AW p l e (headSpec w_S_output rm_S_output).room s m args below meth c (MQ below (QL D dA B zE M0 ad0 post) args s 0 0 (wA B)) D dA B zE 3 ad0 M0 M 0 0 0 [(0, vR x0), (1, vI x1), (2, vI x2)] [] := by
  unfold wp_S_output at h
  refine aw_iload_n X 1 rfl d_S_output_0 rfl ?_
  refine aw_iconst X (4) (by decide) d_S_output_1 ?_
  refine aw_cSi X [_, _] (fun ad hlv => t_S_isWithin l hlv h) (cwS 2 X.hts (gd_S LK_120 LK_121 LK_122 LK_code_S_isWithin) rfl rfl rfl (by decide +kernel) ⟨(Nat.le_of_ble_eq_true rfl), (Nat.le_of_ble_eq_true rfl)⟩) rfl rfl (Nat.le_of_ble_eq_true rfl) d_S_output_2 ⟨(Nat.le_of_ble_eq_true rfl), (Nat.le_of_ble_eq_true rfl)⟩ (fun a2 M2 h => ?_)
  refine aw_if_eq (tgt := 21) X d_S_output_5 (by decide) (fun c => ?_) (fun c => ?_)
  · have h := h.1 c
    refine aw_ldc2 X LK_419 d_S_output_21 ?_
    exact sd_S_output_24 X hr hin h
  · have h := h.2 c
    refine aw_aload_n X 0 rfl d_S_output_8 rfl ?_
    refine aw_gR X hc_0 in_0 4 (by decide) LK_72 (fun _ _ _ _ h => h) d_S_output_9 (h.mono (fun a9 h => ?_))
    refine aw_iload_n X 1 rfl d_S_output_12 rfl ?_
    refine aw_lR X d_S_output_13 (h.mono (fun a13 h => ?_))
    refine aw_iload_n X 2 rfl d_S_output_14 rfl ?_
    obtain ⟨⟨r15, f15, e15, g15⟩, h⟩ := h
    cases e15
    refine aw_cVl X [_] (fun ad hlv => t_C_tell l hlv h) (cwV 1 X.hts (gd_V LK_420 LK_421 LK_422 LK_75 LK_code_C_tell) rfl rfl rfl (by decide +kernel) ⟨(Nat.le_of_ble_eq_true rfl), (Nat.le_of_ble_eq_true rfl)⟩) ⟨1, f15, _, g15, hc_1, rfl⟩ rfl rfl (Nat.le_of_ble_eq_true rfl) d_S_output_15 ⟨(Nat.le_of_ble_eq_true rfl), (Nat.le_of_ble_eq_true rfl)⟩ (fun a15 M15 h => ?_)
    refine aw_goto (tgt := 24) X d_S_output_18 (by decide) ?_
    exact sd_S_output_24 X hr hin h
end
theorem t_S_output (l : Launch) {D : va_G} {dA : Nat → ClassId} {B : Nat} {zE : ZT} {M : wM} {ad : Ro → Nat} {post : Int64 → wM → Prop} {x0 : Option Ro} {x1 : Int32} {x2 : Int32} (hlv : lvS M [vR x0, vI x1, vI x2]) (h : wp_S_output post x0 x1 x2 M) : Met l y_S_output w_S_output rm_S_output (PA D dA B zE M ad [vR x0, vI x1, vI x2]) (QL D dA B zE M ad post) 0 0 (wA B) :=
  AW_start [vR x0, vI x1, vI x2] [(0, vR x0), (1, vI x1), (2, vI x2)] hlv (by decide +kernel) rfl (fun _ hw => List.mem_cons_of_mem _ hw) rfl (Nat.le_of_ble_eq_true rfl) (fun p e s m args below meth c X hr hin => sd_S_output_0 X hr hin h)
abbrev rm_S_row : Room := { frames := 1, cells := 0, slots := 0, locals := 21 }
section
variable {p : Program} {l : Launch} {e : Env} {s : State} {m : MethodId} {args : Array Value} {below : List Frame} {meth : Method} {c : Code} {D : va_G} {dA : Nat → ClassId} {B : Nat} {zE : ZT} {ad0 : Ro → Nat} {M0 : wM}
def wp_S_row_27 (post : Int64 → wM → Prop) (x0 : Option Ro) (x1 : Int32) (s0 : Int64) (M : wM) : Prop := post s0 M
set_option maxRecDepth 100000 in
set_option maxHeartbeats 4000000 in
theorem sd_S_row_27 (X : Cx p s m args meth c b_S_row 2 R_S TBL D dA B zE) (hr : meth.sig.returnType = (some .long)) (hin : meth.name = y_S_row.name) {post : Int64 → wM → Prop} {x0 : Option Ro} {x1 : Int32} {s0 : Int64} {M : wM} (h : wp_S_row_27 post x0 x1 s0 M) : AW p l e (headSpec w_S_row rm_S_row).room s m args below meth c (MQ below (QL D dA B zE M0 ad0 post) args s 0 0 (wA B)) D dA B zE 2 ad0 M0 M 0 0 27 [(0, vR x0), (1, vI x1)] [vL s0] := by
  unfold wp_S_row_27 at h
  exact aw_lret X hr (Nat.le_of_ble_eq_true rfl) (Nat.le_of_ble_eq_true rfl) d_S_row_27 h
def wp_S_row (post : Int64 → wM → Prop) (x0 : Option Ro) (x1 : Int32) (M : wM) : Prop := wp_S_isWithin (fun a3 M3 => (a3 = 0 → wp_S_row_27 post x0 x1 (1000000000000) M3) ∧ (¬ a3 = 0 → gR M3 x0 0 6 (fun a10 => gR M3 a10 3 0 (fun a13 => gR M3 a13 6 0 (fun a16 => lL M3 a16 x1 (fun a20 => wp_S_row_27 post x0 x1 a20 M3)))))) x1 32 M
set_option maxRecDepth 100000 in
set_option maxHeartbeats 4000000 in
theorem sd_S_row_0 (X : Cx p s m args meth c b_S_row 2 R_S TBL D dA B zE) (hr : meth.sig.returnType = (some .long)) (hin : meth.name = y_S_row.name) {post : Int64 → wM → Prop} {x0 : Option Ro} {x1 : Int32} {M : wM} (h : wp_S_row post x0 x1 M) : AW p l e (headSpec w_S_row rm_S_row).room s m args below meth c (MQ below (QL D dA B zE M0 ad0 post) args s 0 0 (wA B)) D dA B zE 2 ad0 M0 M 0 0 0 [(0, vR x0), (1, vI x1)] [] := by
  unfold wp_S_row at h
  refine aw_iload_n X 1 rfl d_S_row_0 rfl ?_
  refine aw_bipush X (32) (by decide) d_S_row_1 ?_
  refine aw_cSi X [_, _] (fun ad hlv => t_S_isWithin l hlv h) (cwS 2 X.hts (gd_S LK_120 LK_121 LK_122 LK_code_S_isWithin) rfl rfl rfl (by decide +kernel) ⟨(Nat.le_of_ble_eq_true rfl), (Nat.le_of_ble_eq_true rfl)⟩) rfl rfl (Nat.le_of_ble_eq_true rfl) d_S_row_3 ⟨(Nat.le_of_ble_eq_true rfl), (Nat.le_of_ble_eq_true rfl)⟩ (fun a3 M3 h => ?_)
  refine aw_if_eq (tgt := 24) X d_S_row_6 (by decide) (fun c => ?_) (fun c => ?_)
  · have h := h.1 c
    refine aw_ldc2 X LK_419 d_S_row_24 ?_
    exact sd_S_row_27 X hr hin h
  · have h := h.2 c
    refine aw_aload_n X 0 rfl d_S_row_9 rfl ?_
    refine aw_gR X hc_0 in_0 6 (by decide) LK_107 (fun _ _ _ _ h => h) d_S_row_10 (h.mono (fun a10 h => ?_))
    refine aw_gR X hc_3 in_3 0 (by decide) LK_290 (fun _ _ _ _ h => h) d_S_row_13 (h.mono (fun a13 h => ?_))
    refine aw_gR X hc_6 in_6 0 (by decide) LK_424 (fun _ _ _ _ h => h) d_S_row_16 (h.mono (fun a16 h => ?_))
    refine aw_iload_n X 1 rfl d_S_row_19 rfl ?_
    refine aw_lL X d_S_row_20 (h.mono (fun a20 h => ?_))
    refine aw_goto (tgt := 27) X d_S_row_21 (by decide) ?_
    exact sd_S_row_27 X hr hin h
end
theorem t_S_row (l : Launch) {D : va_G} {dA : Nat → ClassId} {B : Nat} {zE : ZT} {M : wM} {ad : Ro → Nat} {post : Int64 → wM → Prop} {x0 : Option Ro} {x1 : Int32} (hlv : lvS M [vR x0, vI x1]) (h : wp_S_row post x0 x1 M) : Met l y_S_row w_S_row rm_S_row (PA D dA B zE M ad [vR x0, vI x1]) (QL D dA B zE M ad post) 0 0 (wA B) :=
  AW_start [vR x0, vI x1] [(0, vR x0), (1, vI x1)] hlv (by decide +kernel) rfl (fun _ hw => List.mem_cons_of_mem _ hw) rfl (Nat.le_of_ble_eq_true rfl) (fun p e s m args below meth c X hr hin => sd_S_row_0 X hr hin h)
abbrev rm_S_replicated : Room := { frames := 1, cells := 0, slots := 0, locals := 21 }
section
variable {p : Program} {l : Launch} {e : Env} {s : State} {m : MethodId} {args : Array Value} {below : List Frame} {meth : Method} {c : Code} {D : va_G} {dA : Nat → ClassId} {B : Nat} {zE : ZT} {ad0 : Ro → Nat} {M0 : wM}
def wp_S_replicated_28 (post : Int64 → wM → Prop) (x0 : Option Ro) (x1 : Int32) (s0 : Int64) (M : wM) : Prop := post s0 M
set_option maxRecDepth 100000 in
set_option maxHeartbeats 4000000 in
theorem sd_S_replicated_28 (X : Cx p s m args meth c b_S_replicated 2 R_S TBL D dA B zE) (hr : meth.sig.returnType = (some .long)) (hin : meth.name = y_S_replicated.name) {post : Int64 → wM → Prop} {x0 : Option Ro} {x1 : Int32} {s0 : Int64} {M : wM} (h : wp_S_replicated_28 post x0 x1 s0 M) : AW p l e (headSpec w_S_replicated rm_S_replicated).room s m args below meth c (MQ below (QL D dA B zE M0 ad0 post) args s 0 0 (wA B)) D dA B zE 2 ad0 M0 M 0 0 28 [(0, vR x0), (1, vI x1)] [vL s0] := by
  unfold wp_S_replicated_28 at h
  exact aw_lret X hr (Nat.le_of_ble_eq_true rfl) (Nat.le_of_ble_eq_true rfl) d_S_replicated_28 h
def wp_S_replicated (post : Int64 → wM → Prop) (x0 : Option Ro) (x1 : Int32) (M : wM) : Prop := wp_S_isWithin (fun a3 M3 => (a3 = 0 → wp_S_replicated_28 post x0 x1 (1000000000000) M3) ∧ (¬ a3 = 0 → gR M3 x0 0 6 (fun a10 => gR M3 a10 3 0 (fun a13 => gR M3 a13 6 1 (fun a16 => lI M3 a16 x1 (fun a20 => wp_S_replicated_28 post x0 x1 a20.toInt64 M3)))))) x1 8 M
set_option maxRecDepth 100000 in
set_option maxHeartbeats 4000000 in
theorem sd_S_replicated_0 (X : Cx p s m args meth c b_S_replicated 2 R_S TBL D dA B zE) (hr : meth.sig.returnType = (some .long)) (hin : meth.name = y_S_replicated.name) {post : Int64 → wM → Prop} {x0 : Option Ro} {x1 : Int32} {M : wM} (h : wp_S_replicated post x0 x1 M) : AW p l e (headSpec w_S_replicated rm_S_replicated).room s m args below meth c (MQ below (QL D dA B zE M0 ad0 post) args s 0 0 (wA B)) D dA B zE 2 ad0 M0 M 0 0 0 [(0, vR x0), (1, vI x1)] [] := by
  unfold wp_S_replicated at h
  refine aw_iload_n X 1 rfl d_S_replicated_0 rfl ?_
  refine aw_bipush X (8) (by decide) d_S_replicated_1 ?_
  refine aw_cSi X [_, _] (fun ad hlv => t_S_isWithin l hlv h) (cwS 2 X.hts (gd_S LK_120 LK_121 LK_122 LK_code_S_isWithin) rfl rfl rfl (by decide +kernel) ⟨(Nat.le_of_ble_eq_true rfl), (Nat.le_of_ble_eq_true rfl)⟩) rfl rfl (Nat.le_of_ble_eq_true rfl) d_S_replicated_3 ⟨(Nat.le_of_ble_eq_true rfl), (Nat.le_of_ble_eq_true rfl)⟩ (fun a3 M3 h => ?_)
  refine aw_if_eq (tgt := 25) X d_S_replicated_6 (by decide) (fun c => ?_) (fun c => ?_)
  · have h := h.1 c
    refine aw_ldc2 X LK_419 d_S_replicated_25 ?_
    exact sd_S_replicated_28 X hr hin h
  · have h := h.2 c
    refine aw_aload_n X 0 rfl d_S_replicated_9 rfl ?_
    refine aw_gR X hc_0 in_0 6 (by decide) LK_107 (fun _ _ _ _ h => h) d_S_replicated_10 (h.mono (fun a10 h => ?_))
    refine aw_gR X hc_3 in_3 0 (by decide) LK_290 (fun _ _ _ _ h => h) d_S_replicated_13 (h.mono (fun a13 h => ?_))
    refine aw_gR X hc_6 in_6 1 (by decide) LK_425 (fun _ _ _ _ h => h) d_S_replicated_16 (h.mono (fun a16 h => ?_))
    refine aw_iload_n X 1 rfl d_S_replicated_19 rfl ?_
    refine aw_lI X d_S_replicated_20 (h.mono (fun a20 h => ?_))
    refine aw_i2l X d_S_replicated_21 ?_
    refine aw_goto (tgt := 28) X d_S_replicated_22 (by decide) ?_
    exact sd_S_replicated_28 X hr hin h
end
theorem t_S_replicated (l : Launch) {D : va_G} {dA : Nat → ClassId} {B : Nat} {zE : ZT} {M : wM} {ad : Ro → Nat} {post : Int64 → wM → Prop} {x0 : Option Ro} {x1 : Int32} (hlv : lvS M [vR x0, vI x1]) (h : wp_S_replicated post x0 x1 M) : Met l y_S_replicated w_S_replicated rm_S_replicated (PA D dA B zE M ad [vR x0, vI x1]) (QL D dA B zE M ad post) 0 0 (wA B) :=
  AW_start [vR x0, vI x1] [(0, vR x0), (1, vI x1)] hlv (by decide +kernel) rfl (fun _ hw => List.mem_cons_of_mem _ hw) rfl (Nat.le_of_ble_eq_true rfl) (fun p e s m args below meth c X hr hin => sd_S_replicated_0 X hr hin h)
abbrev rm_S_waiting : Room := { frames := 1, cells := 0, slots := 0, locals := 21 }
section
variable {p : Program} {l : Launch} {e : Env} {s : State} {m : MethodId} {args : Array Value} {below : List Frame} {meth : Method} {c : Code} {D : va_G} {dA : Nat → ClassId} {B : Nat} {zE : ZT} {ad0 : Ro → Nat} {M0 : wM}
def wp_S_waiting_27 (post : Int32 → wM → Prop) (x0 : Option Ro) (x1 : Int32) (s0 : Int32) (M : wM) : Prop := post s0 M
set_option maxRecDepth 100000 in
set_option maxHeartbeats 4000000 in
theorem sd_S_waiting_27 (X : Cx p s m args meth c b_S_waiting 2 R_S TBL D dA B zE) (hr : meth.sig.returnType = (some .int)) (hin : meth.name = y_S_waiting.name) {post : Int32 → wM → Prop} {x0 : Option Ro} {x1 : Int32} {s0 : Int32} {M : wM} (h : wp_S_waiting_27 post x0 x1 s0 M) : AW p l e (headSpec w_S_waiting rm_S_waiting).room s m args below meth c (MQ below (QI D dA B zE M0 ad0 post) args s 0 0 (wA B)) D dA B zE 2 ad0 M0 M 0 0 27 [(0, vR x0), (1, vI x1)] [vI s0] := by
  unfold wp_S_waiting_27 at h
  exact aw_iret X hr (Nat.le_of_ble_eq_true rfl) (Nat.le_of_ble_eq_true rfl) d_S_waiting_27 h
def wp_S_waiting (post : Int32 → wM → Prop) (x0 : Option Ro) (x1 : Int32) (M : wM) : Prop := gI M x0 0 0 (fun a2 => wp_S_isWithin (fun a5 M5 => (a5 = 0 → wp_S_waiting_27 post x0 x1 (-1) M5) ∧ (¬ a5 = 0 → gR M5 x0 0 3 (fun a12 => lR M5 a12 x1 (fun a16 => gR M5 a16 4 0 (fun a17 => cV M5 a17 8 (wp_A_size (fun a20 M20 => wp_S_waiting_27 post x0 x1 a20 M20) a17 M5)))))) x1 a2 M)
set_option maxRecDepth 100000 in
set_option maxHeartbeats 4000000 in
theorem sd_S_waiting_0 (X : Cx p s m args meth c b_S_waiting 2 R_S TBL D dA B zE) (hr : meth.sig.returnType = (some .int)) (hin : meth.name = y_S_waiting.name) {post : Int32 → wM → Prop} {x0 : Option Ro} {x1 : Int32} {M : wM} (h : wp_S_waiting post x0 x1 M) : AW p l e (headSpec w_S_waiting rm_S_waiting).room s m args below meth c (MQ below (QI D dA B zE M0 ad0 post) args s 0 0 (wA B)) D dA B zE 2 ad0 M0 M 0 0 0 [(0, vR x0), (1, vI x1)] [] := by
  unfold wp_S_waiting at h
  refine aw_iload_n X 1 rfl d_S_waiting_0 rfl ?_
  refine aw_aload_n X 0 rfl d_S_waiting_1 rfl ?_
  refine aw_gI X hc_0 in_0 0 (by decide) LK_64 (fun _ _ _ _ h => h) d_S_waiting_2 (h.mono (fun a2 h => ?_))
  refine aw_cSi X [_, _] (fun ad hlv => t_S_isWithin l hlv h) (cwS 2 X.hts (gd_S LK_120 LK_121 LK_122 LK_code_S_isWithin) rfl rfl rfl (by decide +kernel) ⟨(Nat.le_of_ble_eq_true rfl), (Nat.le_of_ble_eq_true rfl)⟩) rfl rfl (Nat.le_of_ble_eq_true rfl) d_S_waiting_5 ⟨(Nat.le_of_ble_eq_true rfl), (Nat.le_of_ble_eq_true rfl)⟩ (fun a5 M5 h => ?_)
  refine aw_if_eq (tgt := 26) X d_S_waiting_8 (by decide) (fun c => ?_) (fun c => ?_)
  · have h := h.1 c
    refine aw_iconst X (-1) (by decide) d_S_waiting_26 ?_
    exact sd_S_waiting_27 X hr hin h
  · have h := h.2 c
    refine aw_aload_n X 0 rfl d_S_waiting_11 rfl ?_
    refine aw_gR X hc_0 in_0 3 (by decide) LK_66 (fun _ _ _ _ h => h) d_S_waiting_12 (h.mono (fun a12 h => ?_))
    refine aw_iload_n X 1 rfl d_S_waiting_15 rfl ?_
    refine aw_lR X d_S_waiting_16 (h.mono (fun a16 h => ?_))
    refine aw_gR X hc_4 in_4 0 (by decide) LK_220 (fun _ _ _ _ h => h) d_S_waiting_17 (h.mono (fun a17 h => ?_))
    obtain ⟨⟨r20, f20, e20, g20⟩, h⟩ := h
    cases e20
    refine aw_cVi X [] (fun ad hlv => t_A_size l hlv h) (cwV 0 X.hts (gd_V LK_175 LK_176 LK_177 LK_42 LK_code_A_size) rfl rfl rfl (by decide +kernel) ⟨(Nat.le_of_ble_eq_true rfl), (Nat.le_of_ble_eq_true rfl)⟩) ⟨8, f20, _, g20, hc_8, rfl⟩ rfl rfl (Nat.le_of_ble_eq_true rfl) d_S_waiting_20 ⟨(Nat.le_of_ble_eq_true rfl), (Nat.le_of_ble_eq_true rfl)⟩ (fun a20 M20 h => ?_)
    refine aw_goto (tgt := 27) X d_S_waiting_23 (by decide) ?_
    exact sd_S_waiting_27 X hr hin h
end
theorem t_S_waiting (l : Launch) {D : va_G} {dA : Nat → ClassId} {B : Nat} {zE : ZT} {M : wM} {ad : Ro → Nat} {post : Int32 → wM → Prop} {x0 : Option Ro} {x1 : Int32} (hlv : lvS M [vR x0, vI x1]) (h : wp_S_waiting post x0 x1 M) : Met l y_S_waiting w_S_waiting rm_S_waiting (PA D dA B zE M ad [vR x0, vI x1]) (QI D dA B zE M ad post) 0 0 (wA B) :=
  AW_start [vR x0, vI x1] [(0, vR x0), (1, vI x1)] hlv (by decide +kernel) rfl (fun _ hw => List.mem_cons_of_mem _ hw) rfl (Nat.le_of_ble_eq_true rfl) (fun p e s m args below meth c X hr hin => sd_S_waiting_0 X hr hin h)
abbrev rm_S_rows : Room := { frames := 1, cells := 0, slots := 0, locals := 24 }
section
variable {p : Program} {l : Launch} {e : Env} {s : State} {m : MethodId} {args : Array Value} {below : List Frame} {meth : Method} {c : Code} {D : va_G} {dA : Nat → ClassId} {B : Nat} {zE : ZT} {ad0 : Ro → Nat} {M0 : wM}
def wp_S_rows_30 (post : Int32 → wM → Prop) (x0 : Option Ro) (x1 : Int32) (s0 : Int32) (M : wM) : Prop := post s0 M
set_option maxRecDepth 100000 in
set_option maxHeartbeats 4000000 in
theorem sd_S_rows_30 (X : Cx p s m args meth c b_S_rows 2 R_S TBL D dA B zE) (hr : meth.sig.returnType = (some .int)) (hin : meth.name = y_S_rows.name) {post : Int32 → wM → Prop} {x0 : Option Ro} {x1 : Int32} {s0 : Int32} {M : wM} (h : wp_S_rows_30 post x0 x1 s0 M) : AW p l e (headSpec w_S_rows rm_S_rows).room s m args below meth c (MQ below (QI D dA B zE M0 ad0 post) args s 0 0 (wA B)) D dA B zE 2 ad0 M0 M 0 0 30 [(0, vR x0), (1, vI x1)] [vI s0] := by
  unfold wp_S_rows_30 at h
  exact aw_iret X hr (Nat.le_of_ble_eq_true rfl) (Nat.le_of_ble_eq_true rfl) d_S_rows_30 h
def wp_S_rows (post : Int32 → wM → Prop) (x0 : Option Ro) (x1 : Int32) (M : wM) : Prop := gI M x0 0 0 (fun a2 => wp_S_isWithin (fun a5 M5 => (a5 = 0 → wp_S_rows_30 post x0 x1 (-1) M5) ∧ (¬ a5 = 0 → gR M5 x0 0 6 (fun a12 => gR M5 a12 3 0 (fun a15 => gI M5 x0 0 0 (fun a20 => cV M5 a15 6 (wp_B_countPart (fun a23 M23 => wp_S_rows_30 post x0 x1 a23 M23) a15 x1 a20 M5)))))) x1 a2 M)
set_option maxRecDepth 100000 in
set_option maxHeartbeats 4000000 in
theorem sd_S_rows_0 (X : Cx p s m args meth c b_S_rows 2 R_S TBL D dA B zE) (hr : meth.sig.returnType = (some .int)) (hin : meth.name = y_S_rows.name) {post : Int32 → wM → Prop} {x0 : Option Ro} {x1 : Int32} {M : wM} (h : wp_S_rows post x0 x1 M) : AW p l e (headSpec w_S_rows rm_S_rows).room s m args below meth c (MQ below (QI D dA B zE M0 ad0 post) args s 0 0 (wA B)) D dA B zE 2 ad0 M0 M 0 0 0 [(0, vR x0), (1, vI x1)] [] := by
  unfold wp_S_rows at h
  refine aw_iload_n X 1 rfl d_S_rows_0 rfl ?_
  refine aw_aload_n X 0 rfl d_S_rows_1 rfl ?_
  refine aw_gI X hc_0 in_0 0 (by decide) LK_64 (fun _ _ _ _ h => h) d_S_rows_2 (h.mono (fun a2 h => ?_))
  refine aw_cSi X [_, _] (fun ad hlv => t_S_isWithin l hlv h) (cwS 2 X.hts (gd_S LK_120 LK_121 LK_122 LK_code_S_isWithin) rfl rfl rfl (by decide +kernel) ⟨(Nat.le_of_ble_eq_true rfl), (Nat.le_of_ble_eq_true rfl)⟩) rfl rfl (Nat.le_of_ble_eq_true rfl) d_S_rows_5 ⟨(Nat.le_of_ble_eq_true rfl), (Nat.le_of_ble_eq_true rfl)⟩ (fun a5 M5 h => ?_)
  refine aw_if_eq (tgt := 29) X d_S_rows_8 (by decide) (fun c => ?_) (fun c => ?_)
  · have h := h.1 c
    refine aw_iconst X (-1) (by decide) d_S_rows_29 ?_
    exact sd_S_rows_30 X hr hin h
  · have h := h.2 c
    refine aw_aload_n X 0 rfl d_S_rows_11 rfl ?_
    refine aw_gR X hc_0 in_0 6 (by decide) LK_107 (fun _ _ _ _ h => h) d_S_rows_12 (h.mono (fun a12 h => ?_))
    refine aw_gR X hc_3 in_3 0 (by decide) LK_290 (fun _ _ _ _ h => h) d_S_rows_15 (h.mono (fun a15 h => ?_))
    refine aw_iload_n X 1 rfl d_S_rows_18 rfl ?_
    refine aw_aload_n X 0 rfl d_S_rows_19 rfl ?_
    refine aw_gI X hc_0 in_0 0 (by decide) LK_64 (fun _ _ _ _ h => h) d_S_rows_20 (h.mono (fun a20 h => ?_))
    obtain ⟨⟨r23, f23, e23, g23⟩, h⟩ := h
    cases e23
    refine aw_cVi X [_, _] (fun ad hlv => t_B_countPart l hlv h) (cwV 2 X.hts (gd_V LK_296 LK_297 LK_298 LK_27 LK_code_B_countPart) rfl rfl rfl (by decide +kernel) ⟨(Nat.le_of_ble_eq_true rfl), (Nat.le_of_ble_eq_true rfl)⟩) ⟨6, f23, _, g23, hc_6, rfl⟩ rfl rfl (Nat.le_of_ble_eq_true rfl) d_S_rows_23 ⟨(Nat.le_of_ble_eq_true rfl), (Nat.le_of_ble_eq_true rfl)⟩ (fun a23 M23 h => ?_)
    refine aw_goto (tgt := 30) X d_S_rows_26 (by decide) ?_
    exact sd_S_rows_30 X hr hin h
end
theorem t_S_rows (l : Launch) {D : va_G} {dA : Nat → ClassId} {B : Nat} {zE : ZT} {M : wM} {ad : Ro → Nat} {post : Int32 → wM → Prop} {x0 : Option Ro} {x1 : Int32} (hlv : lvS M [vR x0, vI x1]) (h : wp_S_rows post x0 x1 M) : Met l y_S_rows w_S_rows rm_S_rows (PA D dA B zE M ad [vR x0, vI x1]) (QI D dA B zE M ad post) 0 0 (wA B) :=
  AW_start [vR x0, vI x1] [(0, vR x0), (1, vI x1)] hlv (by decide +kernel) rfl (fun _ hw => List.mem_cons_of_mem _ hw) rfl (Nat.le_of_ble_eq_true rfl) (fun p e s m args below meth c X hr hin => sd_S_rows_0 X hr hin h)
abbrev rm_S_stalledNumber : Room := { frames := 4, cells := 0, slots := 0, locals := 84 }
section
variable {p : Program} {l : Launch} {e : Env} {s : State} {m : MethodId} {args : Array Value} {below : List Frame} {meth : Method} {c : Code} {D : va_G} {dA : Nat → ClassId} {B : Nat} {zE : ZT} {ad0 : Ro → Nat} {M0 : wM}
def wp_S_stalledNumber_46 (post : Int32 → wM → Prop) (k10 : Option Ro → Option Ro → Int32 → Int32 → wM → Prop) (x0 : Option Ro) (x1 : Option Ro) (x2 : Int32) (x3 : Int32) (x4 : Option Ro) (x5 : Option Ro) (M : wM) : Prop := k10 x0 x1 x2 (x3 + 1) M
set_option maxRecDepth 100000 in
set_option maxHeartbeats 4000000 in
theorem sd_S_stalledNumber_46 (X : Cx p s m args meth c b_S_stalledNumber 6 R_S TBL D dA B zE) (hr : meth.sig.returnType = (some .int)) (hin : meth.name = y_S_stalledNumber.name) {post : Int32 → wM → Prop} {k10 : Option Ro → Option Ro → Int32 → Int32 → wM → Prop} (hk10 : ∀ (x0 : Option Ro) (x1 : Option Ro) (x2 : Int32) (x3 : Int32) (M : wM), k10 x0 x1 x2 x3 M → AW p l e (headSpec w_S_stalledNumber rm_S_stalledNumber).room s m args below meth c (MQ below (QI D dA B zE M0 ad0 post) args s 0 0 (wA B)) D dA B zE 6 ad0 M0 M 0 0 10 [(0, vR x0), (1, vR x1), (2, vI x2), (3, vI x3)] []) {x0 : Option Ro} {x1 : Option Ro} {x2 : Int32} {x3 : Int32} {x4 : Option Ro} {x5 : Option Ro} {M : wM} (h : wp_S_stalledNumber_46 post k10 x0 x1 x2 x3 x4 x5 M) : AW p l e (headSpec w_S_stalledNumber rm_S_stalledNumber).room s m args below meth c (MQ below (QI D dA B zE M0 ad0 post) args s 0 0 (wA B)) D dA B zE 6 ad0 M0 M 0 0 46 [(0, vR x0), (1, vR x1), (2, vI x2), (3, vI x3), (4, vR x4), (5, vR x5)] [] := by
  unfold wp_S_stalledNumber_46 at h
  refine aw_iinc (y := x3 + 1) (lvn := [(3, _), (0, _), (1, _), (2, _), (4, _), (5, _)]) X 3 rfl d_S_stalledNumber_46 rfl (by decide) rfl ?_
  refine aw_goto (tgt := 10) X d_S_stalledNumber_49 (by decide) ?_
  refine aw_lv [1, 2, 3, 0] rfl ?_
  exact hk10 _ _ _ _ _ h
def wp_S_stalledNumber_10 (post : Int32 → wM → Prop) : Nat → Option Ro → Option Ro → Int32 → Int32 → wM → Prop
  | 0, _, _, _, _, _ => False
  | n + 1, x0, x1, x2, x3, M => (x2 ≤ x3 → post 0 M) ∧ (¬ x2 ≤ x3 → lR M x1 x3 (fun a17 => cV M a17 4 (wp_Q_first (fun a22 M22 => gI M22 a17 4 1 (fun a29 => (a29 = 0 → wp_S_stalledNumber_46 post (fun x0 x1 x2 x3 M => wp_S_stalledNumber_10 post n x0 x1 x2 x3 M) x0 x1 x2 x3 a17 a22 M22) ∧ (¬ a29 = 0 → (a22 = none → wp_S_stalledNumber_46 post (fun x0 x1 x2 x3 M => wp_S_stalledNumber_10 post n x0 x1 x2 x3 M) x0 x1 x2 x3 a17 a22 M22) ∧ (¬ a22 = none → gI M22 a22 7 0 (fun a42 => post a42 M22))))) a17 M)))
set_option maxRecDepth 100000 in
set_option maxHeartbeats 4000000 in
theorem sd_S_stalledNumber_10 (X : Cx p s m args meth c b_S_stalledNumber 6 R_S TBL D dA B zE) (hr : meth.sig.returnType = (some .int)) (hin : meth.name = y_S_stalledNumber.name) {post : Int32 → wM → Prop} : ∀ (n : Nat) (x0 : Option Ro) (x1 : Option Ro) (x2 : Int32) (x3 : Int32) (M : wM), wp_S_stalledNumber_10 post n x0 x1 x2 x3 M → AW p l e (headSpec w_S_stalledNumber rm_S_stalledNumber).room s m args below meth c (MQ below (QI D dA B zE M0 ad0 post) args s 0 0 (wA B)) D dA B zE 6 ad0 M0 M 0 0 10 [(0, vR x0), (1, vR x1), (2, vI x2), (3, vI x3)] [] := by
  intro n
  induction n with
  | zero => intro x0 x1 x2 x3 M h; exact h.elim
  | succ n ih =>
    intro x0 x1 x2 x3 M h
    unfold wp_S_stalledNumber_10 at h
    refine aw_iload_n X 3 rfl d_S_stalledNumber_10 rfl ?_
    refine aw_iload_n X 2 rfl d_S_stalledNumber_11 rfl ?_
    refine aw_icmp_ge (tgt := 52) X d_S_stalledNumber_12 (by decide) (fun c => ?_) (fun c => ?_)
    · have h := h.1 c
      refine aw_iconst X (0) (by decide) d_S_stalledNumber_52 ?_
      exact aw_iret X hr (Nat.le_of_ble_eq_true rfl) (Nat.le_of_ble_eq_true rfl) d_S_stalledNumber_53 h
    · have h := h.2 c
      refine aw_aload_n X 1 rfl d_S_stalledNumber_15 rfl ?_
      refine aw_iload_n X 3 rfl d_S_stalledNumber_16 rfl ?_
      refine aw_lR X d_S_stalledNumber_17 (h.mono (fun a17 h => ?_))
      refine aw_astore (lvn := [(4, _), (0, _), (1, _), (2, _), (3, _)]) X d_S_stalledNumber_18 (by decide) rfl ?_
      refine aw_aload X 0 rfl d_S_stalledNumber_20 ?_
      obtain ⟨⟨r22, f22, e22, g22⟩, h⟩ := h
      cases e22
      refine aw_cVr X [] (fun ad hlv => t_Q_first l hlv h) (cwV 0 X.hts (gd_V LK_388 LK_389 LK_390 LK_68 LK_code_Q_first) rfl rfl rfl (by decide +kernel) ⟨(Nat.le_of_ble_eq_true rfl), (Nat.le_of_ble_eq_true rfl)⟩) ⟨4, f22, _, g22, hc_4, rfl⟩ rfl rfl (Nat.le_of_ble_eq_true rfl) d_S_stalledNumber_22 ⟨(Nat.le_of_ble_eq_true rfl), (Nat.le_of_ble_eq_true rfl)⟩ (fun a22 M22 h => ?_)
      refine aw_astore (lvn := [(5, _), (4, _), (0, _), (1, _), (2, _), (3, _)]) X d_S_stalledNumber_25 (by decide) rfl ?_
      refine aw_aload X 1 rfl d_S_stalledNumber_27 ?_
      refine aw_gI X hc_4 in_4 1 (by decide) LK_308 (fun _ _ _ _ h => h) d_S_stalledNumber_29 (h.mono (fun a29 h => ?_))
      refine aw_if_eq (tgt := 46) X d_S_stalledNumber_32 (by decide) (fun c => ?_) (fun c => ?_)
      · have h := h.1 c
        refine aw_lv [2, 3, 4, 5, 1, 0] rfl ?_
        exact sd_S_stalledNumber_46 X hr hin ih h
      · have h := h.2 c
        refine aw_aload X 0 rfl d_S_stalledNumber_35 ?_
        refine aw_ifnull (tgt := 46) X d_S_stalledNumber_37 (by decide) (fun c => ?_) (fun c => ?_)
        · have h := h.1 c
          refine aw_lv [2, 3, 4, 5, 1, 0] rfl ?_
          exact sd_S_stalledNumber_46 X hr hin ih h
        · have h := h.2 c
          refine aw_aload X 0 rfl d_S_stalledNumber_40 ?_
          refine aw_gI X hc_7 in_7 0 (by decide) LK_266 (fun _ _ _ _ h => h) d_S_stalledNumber_42 (h.mono (fun a42 h => ?_))
          exact aw_iret X hr (Nat.le_of_ble_eq_true rfl) (Nat.le_of_ble_eq_true rfl) d_S_stalledNumber_45 h
def wp_S_stalledNumber (post : Int32 → wM → Prop) (x0 : Option Ro) (M : wM) : Prop := gR M x0 0 3 (fun a1 => aN M a1 (fun a6 => (∃ n, wp_S_stalledNumber_10 post n x0 a1 a6 0 M)))
set_option maxRecDepth 100000 in
set_option maxHeartbeats 4000000 in
theorem sd_S_stalledNumber_0 (X : Cx p s m args meth c b_S_stalledNumber 6 R_S TBL D dA B zE) (hr : meth.sig.returnType = (some .int)) (hin : meth.name = y_S_stalledNumber.name) {post : Int32 → wM → Prop} {x0 : Option Ro} {M : wM} (h : wp_S_stalledNumber post x0 M) : AW p l e (headSpec w_S_stalledNumber rm_S_stalledNumber).room s m args below meth c (MQ below (QI D dA B zE M0 ad0 post) args s 0 0 (wA B)) D dA B zE 6 ad0 M0 M 0 0 0 [(0, vR x0)] [] := by
  unfold wp_S_stalledNumber at h
  refine aw_aload_n X 0 rfl d_S_stalledNumber_0 rfl ?_
  refine aw_gR X hc_0 in_0 3 (by decide) LK_66 (fun _ _ _ _ h => h) d_S_stalledNumber_1 (h.mono (fun a1 h => ?_))
  refine aw_astore_n (lvn := [(1, _), (0, _)]) X d_S_stalledNumber_4 rfl (by decide) rfl ?_
  refine aw_aload_n X 0 rfl d_S_stalledNumber_5 rfl ?_
  refine aw_aN X d_S_stalledNumber_6 (h.mono (fun a6 h => ?_))
  refine aw_istore_n (lvn := [(2, _), (1, _), (0, _)]) X d_S_stalledNumber_7 rfl (by decide) rfl ?_
  refine aw_iconst X (0) (by decide) d_S_stalledNumber_8 ?_
  refine aw_istore_n (lvn := [(3, _), (2, _), (1, _), (0, _)]) X d_S_stalledNumber_9 rfl (by decide) rfl ?_
  refine aw_lv [3, 2, 1, 0] rfl ?_
  obtain ⟨n, h⟩ := h
  exact sd_S_stalledNumber_10 X hr hin n _ _ _ _ _ h
end
theorem t_S_stalledNumber (l : Launch) {D : va_G} {dA : Nat → ClassId} {B : Nat} {zE : ZT} {M : wM} {ad : Ro → Nat} {post : Int32 → wM → Prop} {x0 : Option Ro} (hlv : lvS M [vR x0]) (h : wp_S_stalledNumber post x0 M) : Met l y_S_stalledNumber w_S_stalledNumber rm_S_stalledNumber (PA D dA B zE M ad [vR x0]) (QI D dA B zE M ad post) 0 0 (wA B) :=
  AW_start [vR x0] [(0, vR x0)] hlv (by decide +kernel) rfl (fun _ hw => List.mem_cons_of_mem _ hw) rfl (Nat.le_of_ble_eq_true rfl) (fun p e s m args below meth c X hr hin => sd_S_stalledNumber_0 X hr hin h)
abbrev rm_S_count : Room := { frames := 5, cells := 0, slots := 0, locals := 109 }
section
variable {p : Program} {l : Launch} {e : Env} {s : State} {m : MethodId} {args : Array Value} {below : List Frame} {meth : Method} {c : Code} {D : va_G} {dA : Nat → ClassId} {B : Nat} {zE : ZT} {ad0 : Ro → Nat} {M0 : wM}
def wp_S_count (post : Int32 → wM → Prop) (x0 : Option Ro) (x1 : Int32) (M : wM) : Prop := (x1 = 0 → gI M x0 0 11 (fun a41 => post a41 M)) ∧ (¬ x1 = 0 → (x1 = 1 → gI M x0 0 12 (fun a46 => post a46 M)) ∧ (¬ x1 = 1 → (x1 = 2 → gR M x0 0 5 (fun a51 => cV M a51 8 (wp_A_size (fun a54 M54 => post a54 M54) a51 M))) ∧ (¬ x1 = 2 → (x1 = 3 → gI M x0 0 8 (fun a59 => post a59 M)) ∧ (¬ x1 = 3 → (x1 = 4 → gI M x0 0 10 (fun a64 => post a64 M)) ∧ (¬ x1 = 4 → (x1 = 5 → cV M x0 0 (wp_S_stalledNumber (fun a69 M69 => post a69 M69) x0 M)) ∧ (¬ x1 = 5 → post (-1) M))))))
set_option maxRecDepth 100000 in
set_option maxHeartbeats 4000000 in
theorem sd_S_count_0 (X : Cx p s m args meth c b_S_count 2 R_S TBL D dA B zE) (hr : meth.sig.returnType = (some .int)) (hin : meth.name = y_S_count.name) {post : Int32 → wM → Prop} {x0 : Option Ro} {x1 : Int32} {M : wM} (h : wp_S_count post x0 x1 M) : AW p l e (headSpec w_S_count rm_S_count).room s m args below meth c (MQ below (QI D dA B zE M0 ad0 post) args s 0 0 (wA B)) D dA B zE 2 ad0 M0 M 0 0 0 [(0, vR x0), (1, vI x1)] [] := by
  unfold wp_S_count at h
  refine aw_iload_n X 1 rfl d_S_count_0 rfl ?_
  rcases Decidable.em (x1 = 0) with c0 | c0
  · have h := h.1 c0
    refine aw_tableIn (off := 39) (tgt := 40) X d_S_count_1 c0 (by decide) (by decide) (by decide) (by decide) ?_
    refine aw_aload_n X 0 rfl d_S_count_40 rfl ?_
    refine aw_gI X hc_0 in_0 11 (by decide) LK_92 (fun _ _ _ _ h => h) d_S_count_41 (h.mono (fun a41 h => ?_))
    exact aw_iret X hr (Nat.le_of_ble_eq_true rfl) (Nat.le_of_ble_eq_true rfl) d_S_count_44 h
  · have h := h.2 c0
    rcases Decidable.em (x1 = 1) with c1 | c1
    · have h := h.1 c1
      refine aw_tableIn (off := 44) (tgt := 45) X d_S_count_1 c1 (by decide) (by decide) (by decide) (by decide) ?_
      refine aw_aload_n X 0 rfl d_S_count_45 rfl ?_
      refine aw_gI X hc_0 in_0 12 (by decide) LK_93 (fun _ _ _ _ h => h) d_S_count_46 (h.mono (fun a46 h => ?_))
      exact aw_iret X hr (Nat.le_of_ble_eq_true rfl) (Nat.le_of_ble_eq_true rfl) d_S_count_49 h
    · have h := h.2 c1
      rcases Decidable.em (x1 = 2) with c2 | c2
      · have h := h.1 c2
        refine aw_tableIn (off := 49) (tgt := 50) X d_S_count_1 c2 (by decide) (by decide) (by decide) (by decide) ?_
        refine aw_aload_n X 0 rfl d_S_count_50 rfl ?_
        refine aw_gR X hc_0 in_0 5 (by decide) LK_85 (fun _ _ _ _ h => h) d_S_count_51 (h.mono (fun a51 h => ?_))
        obtain ⟨⟨r54, f54, e54, g54⟩, h⟩ := h
        cases e54
        refine aw_cVi X [] (fun ad hlv => t_A_size l hlv h) (cwV 0 X.hts (gd_V LK_175 LK_176 LK_177 LK_42 LK_code_A_size) rfl rfl rfl (by decide +kernel) ⟨(Nat.le_of_ble_eq_true rfl), (Nat.le_of_ble_eq_true rfl)⟩) ⟨8, f54, _, g54, hc_8, rfl⟩ rfl rfl (Nat.le_of_ble_eq_true rfl) d_S_count_54 ⟨(Nat.le_of_ble_eq_true rfl), (Nat.le_of_ble_eq_true rfl)⟩ (fun a54 M54 h => ?_)
        exact aw_iret X hr (Nat.le_of_ble_eq_true rfl) (Nat.le_of_ble_eq_true rfl) d_S_count_57 h
      · have h := h.2 c2
        rcases Decidable.em (x1 = 3) with c3 | c3
        · have h := h.1 c3
          refine aw_tableIn (off := 57) (tgt := 58) X d_S_count_1 c3 (by decide) (by decide) (by decide) (by decide) ?_
          refine aw_aload_n X 0 rfl d_S_count_58 rfl ?_
          refine aw_gI X hc_0 in_0 8 (by decide) LK_89 (fun _ _ _ _ h => h) d_S_count_59 (h.mono (fun a59 h => ?_))
          exact aw_iret X hr (Nat.le_of_ble_eq_true rfl) (Nat.le_of_ble_eq_true rfl) d_S_count_62 h
        · have h := h.2 c3
          rcases Decidable.em (x1 = 4) with c4 | c4
          · have h := h.1 c4
            refine aw_tableIn (off := 62) (tgt := 63) X d_S_count_1 c4 (by decide) (by decide) (by decide) (by decide) ?_
            refine aw_aload_n X 0 rfl d_S_count_63 rfl ?_
            refine aw_gI X hc_0 in_0 10 (by decide) LK_91 (fun _ _ _ _ h => h) d_S_count_64 (h.mono (fun a64 h => ?_))
            exact aw_iret X hr (Nat.le_of_ble_eq_true rfl) (Nat.le_of_ble_eq_true rfl) d_S_count_67 h
          · have h := h.2 c4
            rcases Decidable.em (x1 = 5) with c5 | c5
            · have h := h.1 c5
              refine aw_tableIn (off := 67) (tgt := 68) X d_S_count_1 c5 (by decide) (by decide) (by decide) (by decide) ?_
              refine aw_aload_n X 0 rfl d_S_count_68 rfl ?_
              obtain ⟨⟨r69, f69, e69, g69⟩, h⟩ := h
              cases e69
              refine aw_cVi X [] (fun ad hlv => t_S_stalledNumber l hlv h) (cwV 0 X.hts (gd_V LK_426 LK_427 LK_428 LK_122 LK_code_S_stalledNumber) rfl rfl rfl (by decide +kernel) ⟨(Nat.le_of_ble_eq_true rfl), (Nat.le_of_ble_eq_true rfl)⟩) ⟨0, f69, _, g69, hc_0, rfl⟩ rfl rfl (Nat.le_of_ble_eq_true rfl) d_S_count_69 ⟨(Nat.le_of_ble_eq_true rfl), (Nat.le_of_ble_eq_true rfl)⟩ (fun a69 M69 h => ?_)
              exact aw_iret X hr (Nat.le_of_ble_eq_true rfl) (Nat.le_of_ble_eq_true rfl) d_S_count_72 h
            · have h := h.2 c5
              have z0 := lv_neT (a := 0) c0 (by decide)
              have z1 := lv_neT (a := 1) c1 (by decide)
              have z2 := lv_neT (a := 2) c2 (by decide)
              have z3 := lv_neT (a := 3) c3 (by decide)
              have z4 := lv_neT (a := 4) c4 (by decide)
              have z5 := lv_neT (a := 5) c5 (by decide)
              refine aw_tableOut (tgt := 73) X d_S_count_1 (by omega) (by decide) ?_
              refine aw_iconst X (-1) (by decide) d_S_count_73 ?_
              exact aw_iret X hr (Nat.le_of_ble_eq_true rfl) (Nat.le_of_ble_eq_true rfl) d_S_count_74 h
end
theorem t_S_count (l : Launch) {D : va_G} {dA : Nat → ClassId} {B : Nat} {zE : ZT} {M : wM} {ad : Ro → Nat} {post : Int32 → wM → Prop} {x0 : Option Ro} {x1 : Int32} (hlv : lvS M [vR x0, vI x1]) (h : wp_S_count post x0 x1 M) : Met l y_S_count w_S_count rm_S_count (PA D dA B zE M ad [vR x0, vI x1]) (QI D dA B zE M ad post) 0 0 (wA B) :=
  AW_start [vR x0, vI x1] [(0, vR x0), (1, vI x1)] hlv (by decide +kernel) rfl (fun _ hw => List.mem_cons_of_mem _ hw) rfl (Nat.le_of_ble_eq_true rfl) (fun p e s m args below meth c X hr hin => sd_S_count_0 X hr hin h)
abbrev rm_L_cell : Room := { frames := 0, cells := 0, slots := 0, locals := 0 }
section
variable {p : Program} {l : Launch} {e : Env} {s : State} {m : MethodId} {args : Array Value} {below : List Frame} {meth : Method} {c : Code} {D : va_G} {dA : Nat → ClassId} {B : Nat} {zE : ZT} {ad0 : Ro → Nat} {M0 : wM}
def wp_L_cell_13 (post : Int32 → wM → Prop) (zE : ZT) (x0 : Option Ro) (x1 : Int32) (s0 : Int32) (M : wM) : Prop := post s0 M
set_option maxRecDepth 100000 in
set_option maxHeartbeats 4000000 in
theorem sd_L_cell_13 (X : Cx p s m args meth c b_L_cell 2 R_L TBL D dA B zE) (hr : meth.sig.returnType = (some .int)) (hin : meth.name = y_L_cell.name) {post : Int32 → wM → Prop} {x0 : Option Ro} {x1 : Int32} {s0 : Int32} {M : wM} (h : wp_L_cell_13 post zE x0 x1 s0 M) : AW p l e (headSpec w_L_cell rm_L_cell).room s m args below meth c (MQ below (QI D dA B zE M0 ad0 post) args s 0 0 (wA B)) D dA B zE 2 ad0 M0 M 0 0 13 [(0, vR x0), (1, vI x1)] [vI s0] := by
  unfold wp_L_cell_13 at h
  exact aw_iret X hr (Nat.le_of_ble_eq_true rfl) (Nat.le_of_ble_eq_true rfl) d_L_cell_13 h
def wp_L_cell (post : Int32 → wM → Prop) (zE : ZT) (x0 : Option Ro) (x1 : Int32) (M : wM) : Prop := xN zE x0 (fun a2 => (a2 ≤ x1 → wp_L_cell_13 post zE x0 x1 0 M) ∧ (¬ a2 ≤ x1 → xL zE x0 x1 (fun a8 => wp_L_cell_13 post zE x0 x1 a8 M)))
set_option maxRecDepth 100000 in
set_option maxHeartbeats 4000000 in
theorem sd_L_cell_0 (X : Cx p s m args meth c b_L_cell 2 R_L TBL D dA B zE) (hr : meth.sig.returnType = (some .int)) (hin : meth.name = y_L_cell.name) {post : Int32 → wM → Prop} {x0 : Option Ro} {x1 : Int32} {M : wM} (h : wp_L_cell post zE x0 x1 M) : AW p l e (headSpec w_L_cell rm_L_cell).room s m args below meth c (MQ below (QI D dA B zE M0 ad0 post) args s 0 0 (wA B)) D dA B zE 2 ad0 M0 M 0 0 0 [(0, vR x0), (1, vI x1)] [] := by
  unfold wp_L_cell at h
  refine aw_iload_n X 1 rfl d_L_cell_0 rfl ?_
  refine aw_aload_n X 0 rfl d_L_cell_1 rfl ?_
  refine aw_xN X d_L_cell_2 (h.mono (fun a2 h => ?_))
  refine aw_icmp_ge (tgt := 12) X d_L_cell_3 (by decide) (fun c => ?_) (fun c => ?_)
  · have h := h.1 c
    refine aw_iconst X (0) (by decide) d_L_cell_12 ?_
    exact sd_L_cell_13 X hr hin h
  · have h := h.2 c
    refine aw_aload_n X 0 rfl d_L_cell_6 rfl ?_
    refine aw_iload_n X 1 rfl d_L_cell_7 rfl ?_
    refine aw_xL X d_L_cell_8 (h.mono (fun a8 h => ?_))
    refine aw_goto (tgt := 13) X d_L_cell_9 (by decide) ?_
    exact sd_L_cell_13 X hr hin h
end
theorem t_L_cell (l : Launch) {D : va_G} {dA : Nat → ClassId} {B : Nat} {zE : ZT} {M : wM} {ad : Ro → Nat} {post : Int32 → wM → Prop} {x0 : Option Ro} {x1 : Int32} (hlv : lvS M [vR x0, vI x1]) (h : wp_L_cell post zE x0 x1 M) : Met l y_L_cell w_L_cell rm_L_cell (PA D dA B zE M ad [vR x0, vI x1]) (QI D dA B zE M ad post) 0 0 (wA B) :=
  AW_start [vR x0, vI x1] [(0, vR x0), (1, vI x1)] hlv (by decide +kernel) rfl (fun _ hw => List.mem_cons_of_mem _ hw) rfl (Nat.le_of_ble_eq_true rfl) (fun p e s m args below meth c X hr hin => sd_L_cell_0 X hr hin h)
abbrev rm_M_init : Room := { frames := 1, cells := 27, slots := 6694, locals := 40 }
section
variable {p : Program} {l : Launch} {e : Env} {s : State} {m : MethodId} {args : Array Value} {below : List Frame} {meth : Method} {c : Code} {D : va_G} {dA : Nat → ClassId} {B : Nat} {zE : ZT} {ad0 : Ro → Nat} {M0 : wM}
def wp_M_init_247 (post : wM → Prop) (x0 : Option Ro) (x1 : Int32) (s0 : Int32) (s1 : Option Ro) (M : wM) : Prop := pF M s1 9 0 (vI s0) (fun M247 => post M247)
set_option maxRecDepth 100000 in
set_option maxHeartbeats 4000000 in
theorem sd_M_init_247 (X : Cx p s m args meth c b_M_init 2 R_M TBL D dA B zE) (hr : meth.sig.returnType = none) (hin : meth.name = y_M_init.name) {post : wM → Prop} {x0 : Option Ro} {x1 : Int32} {s0 : Int32} {s1 : Option Ro} {M : wM} (h : wp_M_init_247 post x0 x1 s0 s1 M) : AW p l e (headSpec w_M_init rm_M_init).room s m args below meth c (MQ below (QV D dA B zE M0 ad0 post) args s 27 6694 (wA B)) D dA B zE 2 ad0 M0 M 27 6694 247 [(0, vR x0), (1, vI x1)] [vI s0, vR s1] := by
  unfold wp_M_init_247 at h
  refine aw_pFF (ty := .int) X hc_9 in_9 0 (by decide) ty_9 tyok_9 nm_9 LK_430 (fun _ _ _ _ h => h) rfl hin rfl (by decide +kernel) (fun _ => ⟨rfl, rfl⟩) d_M_init_247 (h.mono (fun M247 h => ?_))
  exact aw_vret X hr (Nat.le_of_ble_eq_true rfl) (Nat.le_of_ble_eq_true rfl) d_M_init_250 h
def wp_M_init (post : wM → Prop) (x0 : Option Ro) (x1 : Int32) (M : wM) : Prop := nn x0 (nA M 40 40 (fun n => ai 2 n (fun _ => 0)) (fun a7 M7 => pF M7 x0 9 1 (vR a7) (fun M9 => nA M9 40 40 (fun n => ai 0 n (fun _ => 0)) (fun a15 M15 => pF M15 x0 9 2 (vR a15) (fun M17 => nA M17 40 40 (fun n => ai 2 n (fun _ => 0)) (fun a23 M23 => pF M23 x0 9 3 (vR a23) (fun M25 => nA M25 40 40 (fun n => ai 0 n (fun _ => 0)) (fun a31 M31 => pF M31 x0 9 4 (vR a31) (fun M33 => nA M33 40 40 (fun n => ai 2 n (fun _ => 0)) (fun a39 M39 => pF M39 x0 9 5 (vR a39) (fun M41 => nA M41 40 40 (fun n => ai 0 n (fun _ => 0)) (fun a47 M47 => pF M47 x0 9 6 (vR a47) (fun M49 => nA M49 6 6 (fun n => ai 2 n (fun _ => 0)) (fun a55 M55 => pF M55 x0 9 7 (vR a55) (fun M57 => nA M57 7 7 (fun n => ai 2 n (fun _ => 0)) (fun a63 M63 => pF M63 x0 9 8 (vR a63) (fun M65 => nA M65 7 7 (fun n => ai 0 n (fun _ => 0)) (fun a71 M71 => pF M71 x0 9 9 (vR a71) (fun M73 => nA M73 56 56 (fun n => ai 0 n (fun _ => 0)) (fun a79 M79 => pF M79 x0 9 10 (vR a79) (fun M81 => nA M81 56 56 (fun n => ai 0 n (fun _ => 0)) (fun a87 M87 => pF M87 x0 9 11 (vR a87) (fun M89 => nA M89 56 56 (fun n => ai 0 n (fun _ => 0)) (fun a95 M95 => pF M95 x0 9 12 (vR a95) (fun M97 => nA M97 56 56 (fun n => ai 0 n (fun _ => 0)) (fun a103 M103 => pF M103 x0 9 13 (vR a103) (fun M105 => pF M105 x0 9 14 (vI (-1)) (fun M110 => nA M110 514 514 (fun n => ai 0 n (fun _ => 0)) (fun a117 M117 => pF M117 x0 9 16 (vR a117) (fun M119 => nA M119 1542 1542 (fun n => ai 0 n (fun _ => 0)) (fun a126 M126 => pF M126 x0 9 17 (vR a126) (fun M128 => nA M128 514 514 (fun n => ai 2 n (fun _ => 0)) (fun a135 M135 => pF M135 x0 9 18 (vR a135) (fun M137 => nA M137 514 514 (fun n => ai 0 n (fun _ => 0)) (fun a144 M144 => pF M144 x0 9 19 (vR a144) (fun M146 => nA M146 514 514 (fun n => ai 0 n (fun _ => 0)) (fun a153 M153 => pF M153 x0 9 20 (vR a153) (fun M155 => nA M155 514 514 (fun n => ai 0 n (fun _ => 0)) (fun a162 M162 => pF M162 x0 9 21 (vR a162) (fun M164 => nA M164 2056 2056 (fun n => ai 0 n (fun _ => 0)) (fun a171 M171 => pF M171 x0 9 22 (vR a171) (fun M173 => nA M173 4 4 (fun n => ai 0 n (fun _ => 0)) (fun a178 M178 => pF M178 x0 9 26 (vR a178) (fun M180 => nA M180 4 4 (fun n => ai 0 n (fun _ => 0)) (fun a185 M185 => pF M185 x0 9 27 (vR a185) (fun M187 => nA M187 4 4 (fun n => ai 0 n (fun _ => 0)) (fun a192 M192 => pF M192 x0 9 28 (vR a192) (fun M194 => nA M194 4 4 (fun n => ai 0 n (fun _ => 0)) (fun a199 M199 => pF M199 x0 9 29 (vR a199) (fun M201 => nA M201 16 16 (fun n => ai 0 n (fun _ => 0)) (fun a207 M207 => pF M207 x0 9 30 (vR a207) (fun M209 => nA M209 4 4 (fun n => ai 0 n (fun _ => 0)) (fun a214 M214 => pF M214 x0 9 31 (vR a214) (fun M216 => nA M216 6 6 (fun n => ai 0 n (fun _ => 0)) (fun a222 M222 => pF M222 x0 9 32 (vR a222) (fun M224 => ((1 : Int32) ≤ x1 → (x1 ≤ (4 : Int32) → wp_M_init_247 post x0 x1 x1 x0 M224) ∧ (¬ x1 ≤ (4 : Int32) → wp_M_init_247 post x0 x1 4 x0 M224)) ∧ (¬ (1 : Int32) ≤ x1 → wp_M_init_247 post x0 x1 1 x0 M224)))))))))))))))))))))))))))))))))))))))))))))))))))))))))
set_option maxRecDepth 100000 in
set_option maxHeartbeats 4000000 in
theorem sd_M_init_0 (X : Cx p s m args meth c b_M_init 2 R_M TBL D dA B zE) (hr : meth.sig.returnType = none) (hin : meth.name = y_M_init.name) {post : wM → Prop} {x0 : Option Ro} {x1 : Int32} {M : wM} (h : wp_M_init post x0 x1 M) : AW p l e (headSpec w_M_init rm_M_init).room s m args below meth c (MQ below (QV D dA B zE M0 ad0 post) args s 27 6694 (wA B)) D dA B zE 2 ad0 M0 M 0 0 0 [(0, vR x0), (1, vI x1)] [] := by
  unfold wp_M_init at h
  refine aw_aload_n X 0 rfl d_M_init_0 rfl ?_
  obtain ⟨⟨r1, e1⟩, h⟩ := h
  cases e1
  refine aw_objInit X LK_431 LK_1 LK_objcode (Nat.le_of_ble_eq_true rfl) (Nat.le_of_ble_eq_true rfl) d_M_init_1 ?_
  refine aw_aload_n X 0 rfl d_M_init_4 rfl ?_
  refine aw_bipush X (40) (by decide) d_M_init_5 ?_
  refine aw_nAZ (atype := .boolean) X rfl LK_432 40 (by decide) (Nat.le_of_ble_eq_true rfl) (Nat.le_of_ble_eq_true rfl) d_M_init_7 (h.mono (fun a7 M7 h => ?_))
  refine aw_pFF (ty := (.array .boolean)) X hc_9 in_9 1 (by decide) ty_9 tyok_9 nm_9 LK_433 (fun _ _ _ _ h => h) rfl hin rfl (by decide +kernel) nfA d_M_init_9 (h.mono (fun M9 h => ?_))
  refine aw_aload_n X 0 rfl d_M_init_12 rfl ?_
  refine aw_bipush X (40) (by decide) d_M_init_13 ?_
  refine aw_nAI (atype := .int) X rfl LK_17 40 (by decide) (Nat.le_of_ble_eq_true rfl) (Nat.le_of_ble_eq_true rfl) d_M_init_15 (h.mono (fun a15 M15 h => ?_))
  refine aw_pFF (ty := (.array .int)) X hc_9 in_9 2 (by decide) ty_9 tyok_9 nm_9 LK_434 (fun _ _ _ _ h => h) rfl hin rfl (by decide +kernel) nfA d_M_init_17 (h.mono (fun M17 h => ?_))
  refine aw_aload_n X 0 rfl d_M_init_20 rfl ?_
  refine aw_bipush X (40) (by decide) d_M_init_21 ?_
  refine aw_nAZ (atype := .boolean) X rfl LK_432 40 (by decide) (Nat.le_of_ble_eq_true rfl) (Nat.le_of_ble_eq_true rfl) d_M_init_23 (h.mono (fun a23 M23 h => ?_))
  refine aw_pFF (ty := (.array .boolean)) X hc_9 in_9 3 (by decide) ty_9 tyok_9 nm_9 LK_435 (fun _ _ _ _ h => h) rfl hin rfl (by decide +kernel) nfA d_M_init_25 (h.mono (fun M25 h => ?_))
  refine aw_aload_n X 0 rfl d_M_init_28 rfl ?_
  refine aw_bipush X (40) (by decide) d_M_init_29 ?_
  refine aw_nAI (atype := .int) X rfl LK_17 40 (by decide) (Nat.le_of_ble_eq_true rfl) (Nat.le_of_ble_eq_true rfl) d_M_init_31 (h.mono (fun a31 M31 h => ?_))
  refine aw_pFF (ty := (.array .int)) X hc_9 in_9 4 (by decide) ty_9 tyok_9 nm_9 LK_436 (fun _ _ _ _ h => h) rfl hin rfl (by decide +kernel) nfA d_M_init_33 (h.mono (fun M33 h => ?_))
  refine aw_aload_n X 0 rfl d_M_init_36 rfl ?_
  refine aw_bipush X (40) (by decide) d_M_init_37 ?_
  refine aw_nAZ (atype := .boolean) X rfl LK_432 40 (by decide) (Nat.le_of_ble_eq_true rfl) (Nat.le_of_ble_eq_true rfl) d_M_init_39 (h.mono (fun a39 M39 h => ?_))
  refine aw_pFF (ty := (.array .boolean)) X hc_9 in_9 5 (by decide) ty_9 tyok_9 nm_9 LK_437 (fun _ _ _ _ h => h) rfl hin rfl (by decide +kernel) nfA d_M_init_41 (h.mono (fun M41 h => ?_))
  refine aw_aload_n X 0 rfl d_M_init_44 rfl ?_
  refine aw_bipush X (40) (by decide) d_M_init_45 ?_
  refine aw_nAI (atype := .int) X rfl LK_17 40 (by decide) (Nat.le_of_ble_eq_true rfl) (Nat.le_of_ble_eq_true rfl) d_M_init_47 (h.mono (fun a47 M47 h => ?_))
  refine aw_pFF (ty := (.array .int)) X hc_9 in_9 6 (by decide) ty_9 tyok_9 nm_9 LK_438 (fun _ _ _ _ h => h) rfl hin rfl (by decide +kernel) nfA d_M_init_49 (h.mono (fun M49 h => ?_))
  refine aw_aload_n X 0 rfl d_M_init_52 rfl ?_
  refine aw_bipush X (6) (by decide) d_M_init_53 ?_
  refine aw_nAZ (atype := .boolean) X rfl LK_432 6 (by decide) (Nat.le_of_ble_eq_true rfl) (Nat.le_of_ble_eq_true rfl) d_M_init_55 (h.mono (fun a55 M55 h => ?_))
  refine aw_pFF (ty := (.array .boolean)) X hc_9 in_9 7 (by decide) ty_9 tyok_9 nm_9 LK_439 (fun _ _ _ _ h => h) rfl hin rfl (by decide +kernel) nfA d_M_init_57 (h.mono (fun M57 h => ?_))
  refine aw_aload_n X 0 rfl d_M_init_60 rfl ?_
  refine aw_bipush X (7) (by decide) d_M_init_61 ?_
  refine aw_nAZ (atype := .boolean) X rfl LK_432 7 (by decide) (Nat.le_of_ble_eq_true rfl) (Nat.le_of_ble_eq_true rfl) d_M_init_63 (h.mono (fun a63 M63 h => ?_))
  refine aw_pFF (ty := (.array .boolean)) X hc_9 in_9 8 (by decide) ty_9 tyok_9 nm_9 LK_440 (fun _ _ _ _ h => h) rfl hin rfl (by decide +kernel) nfA d_M_init_65 (h.mono (fun M65 h => ?_))
  refine aw_aload_n X 0 rfl d_M_init_68 rfl ?_
  refine aw_bipush X (7) (by decide) d_M_init_69 ?_
  refine aw_nAI (atype := .int) X rfl LK_17 7 (by decide) (Nat.le_of_ble_eq_true rfl) (Nat.le_of_ble_eq_true rfl) d_M_init_71 (h.mono (fun a71 M71 h => ?_))
  refine aw_pFF (ty := (.array .int)) X hc_9 in_9 9 (by decide) ty_9 tyok_9 nm_9 LK_441 (fun _ _ _ _ h => h) rfl hin rfl (by decide +kernel) nfA d_M_init_73 (h.mono (fun M73 h => ?_))
  refine aw_aload_n X 0 rfl d_M_init_76 rfl ?_
  refine aw_bipush X (56) (by decide) d_M_init_77 ?_
  refine aw_nAI (atype := .int) X rfl LK_17 56 (by decide) (Nat.le_of_ble_eq_true rfl) (Nat.le_of_ble_eq_true rfl) d_M_init_79 (h.mono (fun a79 M79 h => ?_))
  refine aw_pFF (ty := (.array .int)) X hc_9 in_9 10 (by decide) ty_9 tyok_9 nm_9 LK_442 (fun _ _ _ _ h => h) rfl hin rfl (by decide +kernel) nfA d_M_init_81 (h.mono (fun M81 h => ?_))
  refine aw_aload_n X 0 rfl d_M_init_84 rfl ?_
  refine aw_bipush X (56) (by decide) d_M_init_85 ?_
  refine aw_nAI (atype := .int) X rfl LK_17 56 (by decide) (Nat.le_of_ble_eq_true rfl) (Nat.le_of_ble_eq_true rfl) d_M_init_87 (h.mono (fun a87 M87 h => ?_))
  refine aw_pFF (ty := (.array .int)) X hc_9 in_9 11 (by decide) ty_9 tyok_9 nm_9 LK_443 (fun _ _ _ _ h => h) rfl hin rfl (by decide +kernel) nfA d_M_init_89 (h.mono (fun M89 h => ?_))
  refine aw_aload_n X 0 rfl d_M_init_92 rfl ?_
  refine aw_bipush X (56) (by decide) d_M_init_93 ?_
  refine aw_nAI (atype := .int) X rfl LK_17 56 (by decide) (Nat.le_of_ble_eq_true rfl) (Nat.le_of_ble_eq_true rfl) d_M_init_95 (h.mono (fun a95 M95 h => ?_))
  refine aw_pFF (ty := (.array .int)) X hc_9 in_9 12 (by decide) ty_9 tyok_9 nm_9 LK_444 (fun _ _ _ _ h => h) rfl hin rfl (by decide +kernel) nfA d_M_init_97 (h.mono (fun M97 h => ?_))
  refine aw_aload_n X 0 rfl d_M_init_100 rfl ?_
  refine aw_bipush X (56) (by decide) d_M_init_101 ?_
  refine aw_nAI (atype := .int) X rfl LK_17 56 (by decide) (Nat.le_of_ble_eq_true rfl) (Nat.le_of_ble_eq_true rfl) d_M_init_103 (h.mono (fun a103 M103 h => ?_))
  refine aw_pFF (ty := (.array .int)) X hc_9 in_9 13 (by decide) ty_9 tyok_9 nm_9 LK_445 (fun _ _ _ _ h => h) rfl hin rfl (by decide +kernel) nfA d_M_init_105 (h.mono (fun M105 h => ?_))
  refine aw_aload_n X 0 rfl d_M_init_108 rfl ?_
  refine aw_iconst X (-1) (by decide) d_M_init_109 ?_
  refine aw_pF (ty := .int) X hc_9 in_9 14 (by decide) ty_9 tyok_9 nm_9 LK_446 (fun _ _ _ _ h => h) rfl (by decide +kernel) (fun _ => ⟨rfl, rfl⟩) d_M_init_110 (h.mono (fun M110 h => ?_))
  refine aw_aload_n X 0 rfl d_M_init_113 rfl ?_
  refine aw_sipush X (514) (by decide) d_M_init_114 ?_
  refine aw_nAI (atype := .int) X rfl LK_17 514 (by decide) (Nat.le_of_ble_eq_true rfl) (Nat.le_of_ble_eq_true rfl) d_M_init_117 (h.mono (fun a117 M117 h => ?_))
  refine aw_pFF (ty := (.array .int)) X hc_9 in_9 16 (by decide) ty_9 tyok_9 nm_9 LK_447 (fun _ _ _ _ h => h) rfl hin rfl (by decide +kernel) nfA d_M_init_119 (h.mono (fun M119 h => ?_))
  refine aw_aload_n X 0 rfl d_M_init_122 rfl ?_
  refine aw_sipush X (1542) (by decide) d_M_init_123 ?_
  refine aw_nAI (atype := .int) X rfl LK_17 1542 (by decide) (Nat.le_of_ble_eq_true rfl) (Nat.le_of_ble_eq_true rfl) d_M_init_126 (h.mono (fun a126 M126 h => ?_))
  refine aw_pFF (ty := (.array .int)) X hc_9 in_9 17 (by decide) ty_9 tyok_9 nm_9 LK_448 (fun _ _ _ _ h => h) rfl hin rfl (by decide +kernel) nfA d_M_init_128 (h.mono (fun M128 h => ?_))
  refine aw_aload_n X 0 rfl d_M_init_131 rfl ?_
  refine aw_sipush X (514) (by decide) d_M_init_132 ?_
  refine aw_nAZ (atype := .boolean) X rfl LK_432 514 (by decide) (Nat.le_of_ble_eq_true rfl) (Nat.le_of_ble_eq_true rfl) d_M_init_135 (h.mono (fun a135 M135 h => ?_))
  refine aw_pFF (ty := (.array .boolean)) X hc_9 in_9 18 (by decide) ty_9 tyok_9 nm_9 LK_449 (fun _ _ _ _ h => h) rfl hin rfl (by decide +kernel) nfA d_M_init_137 (h.mono (fun M137 h => ?_))
  refine aw_aload_n X 0 rfl d_M_init_140 rfl ?_
  refine aw_sipush X (514) (by decide) d_M_init_141 ?_
  refine aw_nAI (atype := .int) X rfl LK_17 514 (by decide) (Nat.le_of_ble_eq_true rfl) (Nat.le_of_ble_eq_true rfl) d_M_init_144 (h.mono (fun a144 M144 h => ?_))
  refine aw_pFF (ty := (.array .int)) X hc_9 in_9 19 (by decide) ty_9 tyok_9 nm_9 LK_450 (fun _ _ _ _ h => h) rfl hin rfl (by decide +kernel) nfA d_M_init_146 (h.mono (fun M146 h => ?_))
  refine aw_aload_n X 0 rfl d_M_init_149 rfl ?_
  refine aw_sipush X (514) (by decide) d_M_init_150 ?_
  refine aw_nAI (atype := .int) X rfl LK_17 514 (by decide) (Nat.le_of_ble_eq_true rfl) (Nat.le_of_ble_eq_true rfl) d_M_init_153 (h.mono (fun a153 M153 h => ?_))
  refine aw_pFF (ty := (.array .int)) X hc_9 in_9 20 (by decide) ty_9 tyok_9 nm_9 LK_451 (fun _ _ _ _ h => h) rfl hin rfl (by decide +kernel) nfA d_M_init_155 (h.mono (fun M155 h => ?_))
  refine aw_aload_n X 0 rfl d_M_init_158 rfl ?_
  refine aw_sipush X (514) (by decide) d_M_init_159 ?_
  refine aw_nAI (atype := .int) X rfl LK_17 514 (by decide) (Nat.le_of_ble_eq_true rfl) (Nat.le_of_ble_eq_true rfl) d_M_init_162 (h.mono (fun a162 M162 h => ?_))
  refine aw_pFF (ty := (.array .int)) X hc_9 in_9 21 (by decide) ty_9 tyok_9 nm_9 LK_452 (fun _ _ _ _ h => h) rfl hin rfl (by decide +kernel) nfA d_M_init_164 (h.mono (fun M164 h => ?_))
  refine aw_aload_n X 0 rfl d_M_init_167 rfl ?_
  refine aw_sipush X (2056) (by decide) d_M_init_168 ?_
  refine aw_nAI (atype := .int) X rfl LK_17 2056 (by decide) (Nat.le_of_ble_eq_true rfl) (Nat.le_of_ble_eq_true rfl) d_M_init_171 (h.mono (fun a171 M171 h => ?_))
  refine aw_pFF (ty := (.array .int)) X hc_9 in_9 22 (by decide) ty_9 tyok_9 nm_9 LK_453 (fun _ _ _ _ h => h) rfl hin rfl (by decide +kernel) nfA d_M_init_173 (h.mono (fun M173 h => ?_))
  refine aw_aload_n X 0 rfl d_M_init_176 rfl ?_
  refine aw_iconst X (4) (by decide) d_M_init_177 ?_
  refine aw_nAI (atype := .int) X rfl LK_17 4 (by decide) (Nat.le_of_ble_eq_true rfl) (Nat.le_of_ble_eq_true rfl) d_M_init_178 (h.mono (fun a178 M178 h => ?_))
  refine aw_pFF (ty := (.array .int)) X hc_9 in_9 26 (by decide) ty_9 tyok_9 nm_9 LK_454 (fun _ _ _ _ h => h) rfl hin rfl (by decide +kernel) nfA d_M_init_180 (h.mono (fun M180 h => ?_))
  refine aw_aload_n X 0 rfl d_M_init_183 rfl ?_
  refine aw_iconst X (4) (by decide) d_M_init_184 ?_
  refine aw_nAI (atype := .int) X rfl LK_17 4 (by decide) (Nat.le_of_ble_eq_true rfl) (Nat.le_of_ble_eq_true rfl) d_M_init_185 (h.mono (fun a185 M185 h => ?_))
  refine aw_pFF (ty := (.array .int)) X hc_9 in_9 27 (by decide) ty_9 tyok_9 nm_9 LK_455 (fun _ _ _ _ h => h) rfl hin rfl (by decide +kernel) nfA d_M_init_187 (h.mono (fun M187 h => ?_))
  refine aw_aload_n X 0 rfl d_M_init_190 rfl ?_
  refine aw_iconst X (4) (by decide) d_M_init_191 ?_
  refine aw_nAI (atype := .int) X rfl LK_17 4 (by decide) (Nat.le_of_ble_eq_true rfl) (Nat.le_of_ble_eq_true rfl) d_M_init_192 (h.mono (fun a192 M192 h => ?_))
  refine aw_pFF (ty := (.array .int)) X hc_9 in_9 28 (by decide) ty_9 tyok_9 nm_9 LK_456 (fun _ _ _ _ h => h) rfl hin rfl (by decide +kernel) nfA d_M_init_194 (h.mono (fun M194 h => ?_))
  refine aw_aload_n X 0 rfl d_M_init_197 rfl ?_
  refine aw_iconst X (4) (by decide) d_M_init_198 ?_
  refine aw_nAI (atype := .int) X rfl LK_17 4 (by decide) (Nat.le_of_ble_eq_true rfl) (Nat.le_of_ble_eq_true rfl) d_M_init_199 (h.mono (fun a199 M199 h => ?_))
  refine aw_pFF (ty := (.array .int)) X hc_9 in_9 29 (by decide) ty_9 tyok_9 nm_9 LK_457 (fun _ _ _ _ h => h) rfl hin rfl (by decide +kernel) nfA d_M_init_201 (h.mono (fun M201 h => ?_))
  refine aw_aload_n X 0 rfl d_M_init_204 rfl ?_
  refine aw_bipush X (16) (by decide) d_M_init_205 ?_
  refine aw_nAI (atype := .int) X rfl LK_17 16 (by decide) (Nat.le_of_ble_eq_true rfl) (Nat.le_of_ble_eq_true rfl) d_M_init_207 (h.mono (fun a207 M207 h => ?_))
  refine aw_pFF (ty := (.array .int)) X hc_9 in_9 30 (by decide) ty_9 tyok_9 nm_9 LK_458 (fun _ _ _ _ h => h) rfl hin rfl (by decide +kernel) nfA d_M_init_209 (h.mono (fun M209 h => ?_))
  refine aw_aload_n X 0 rfl d_M_init_212 rfl ?_
  refine aw_iconst X (4) (by decide) d_M_init_213 ?_
  refine aw_nAI (atype := .int) X rfl LK_17 4 (by decide) (Nat.le_of_ble_eq_true rfl) (Nat.le_of_ble_eq_true rfl) d_M_init_214 (h.mono (fun a214 M214 h => ?_))
  refine aw_pFF (ty := (.array .int)) X hc_9 in_9 31 (by decide) ty_9 tyok_9 nm_9 LK_459 (fun _ _ _ _ h => h) rfl hin rfl (by decide +kernel) nfA d_M_init_216 (h.mono (fun M216 h => ?_))
  refine aw_aload_n X 0 rfl d_M_init_219 rfl ?_
  refine aw_bipush X (6) (by decide) d_M_init_220 ?_
  refine aw_nAI (atype := .int) X rfl LK_17 6 (by decide) (Nat.le_of_ble_eq_true rfl) (Nat.le_of_ble_eq_true rfl) d_M_init_222 (h.mono (fun a222 M222 h => ?_))
  refine aw_pFF (ty := (.array .int)) X hc_9 in_9 32 (by decide) ty_9 tyok_9 nm_9 LK_460 (fun _ _ _ _ h => h) rfl hin rfl (by decide +kernel) nfA d_M_init_224 (h.mono (fun M224 h => ?_))
  refine aw_aload_n X 0 rfl d_M_init_227 rfl ?_
  refine aw_iload_n X 1 rfl d_M_init_228 rfl ?_
  refine aw_iconst X (1) (by decide) d_M_init_229 ?_
  refine aw_icmp_ge (tgt := 237) X d_M_init_230 (by decide) (fun c => ?_) (fun c => ?_)
  · have h := h.1 c
    refine aw_iload_n X 1 rfl d_M_init_237 rfl ?_
    refine aw_iconst X (4) (by decide) d_M_init_238 ?_
    refine aw_icmp_le (tgt := 246) X d_M_init_239 (by decide) (fun c => ?_) (fun c => ?_)
    · have h := h.1 c
      refine aw_iload_n X 1 rfl d_M_init_246 rfl ?_
      exact sd_M_init_247 X hr hin h
    · have h := h.2 c
      refine aw_iconst X (4) (by decide) d_M_init_242 ?_
      refine aw_goto (tgt := 247) X d_M_init_243 (by decide) ?_
      exact sd_M_init_247 X hr hin h
  · have h := h.2 c
    refine aw_iconst X (1) (by decide) d_M_init_233 ?_
    refine aw_goto (tgt := 247) X d_M_init_234 (by decide) ?_
    exact sd_M_init_247 X hr hin h
end
theorem t_M_init (l : Launch) {D : va_G} {dA : Nat → ClassId} {B : Nat} {zE : ZT} {M : wM} {ad : Ro → Nat} {post : wM → Prop} {x0 : Option Ro} {x1 : Int32} (hlv : lvS M [vR x0, vI x1]) (h : wp_M_init post x0 x1 M) : Met l y_M_init w_M_init rm_M_init (PA D dA B zE M ad [vR x0, vI x1]) (QV D dA B zE M ad post) 27 6694 (wA B) :=
  AW_start [vR x0, vI x1] [(0, vR x0), (1, vI x1)] hlv (by decide +kernel) rfl (fun _ hw => List.mem_cons_of_mem _ hw) rfl (Nat.le_of_ble_eq_true rfl) (fun p e s m args below meth c X hr hin => sd_M_init_0 X hr hin h)
