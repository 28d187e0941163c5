abbrev rm_M_step : Room := { frames := 6, cells := 0, slots := 0, locals := 135 }
section
variable {p : Program} {l : Launch} {e : Env} {s : State} {m : MethodId} {args : Array Value} {below : List Frame} {meth : Method} {c : Code} {D : va_G} {dA : Nat → ClassId} {B : Nat} {zE : ZT} {ad0 : Ro → Nat} {M0 : wM}
def wp_M_step_127 (post : Int32 → wM → Prop) (x0 : Option Ro) (x1 : Int32) (x2 : Int32) (M : wM) : Prop := cV M x0 9 (wp_M_execute (fun M129 => gR M129 x0 9 18 (fun a133 => sZ M129 a133 x2 1 (fun M138 => cV M138 x0 9 (wp_M_tellClients (fun M140 => post 1 M140) x0 M138)))) x0 x2 M)
set_option maxRecDepth 100000 in
set_option maxHeartbeats 4000000 in
theorem sd_M_step_127 (X : Cx p s m args meth c b_M_step 3 R_M TBL D dA B zE) (hr : meth.sig.returnType = (some .int)) (hin : meth.name = y_M_step.name) {post : Int32 → wM → Prop} {x0 : Option Ro} {x1 : Int32} {x2 : Int32} {M : wM} (h : wp_M_step_127 post x0 x1 x2 M) : AW p l e (headSpec w_M_step rm_M_step).room s m args below meth c (MQ below (QI D dA B zE M0 ad0 post) args s 0 0 (wA B)) D dA B zE 3 ad0 M0 M 0 0 127 [(0, vR x0), (1, vI x1), (2, vI x2)] [] := by
  unfold wp_M_step_127 at h
  refine aw_aload_n X 0 rfl d_M_step_127 rfl ?_
  refine aw_iload_n X 2 rfl d_M_step_128 rfl ?_
  obtain ⟨⟨r129, f129, e129, g129⟩, h⟩ := h
  cases e129
  refine aw_cVv X [_] (fun ad hlv => t_M_execute l hlv h) (cwV 1 X.hts (gd_V LK_491 LK_492 LK_493 LK_463 LK_code_M_execute) rfl rfl rfl (by decide +kernel) ⟨(Nat.le_of_ble_eq_true rfl), (Nat.le_of_ble_eq_true rfl)⟩) ⟨9, f129, _, g129, hc_9, rfl⟩ rfl rfl (Nat.le_of_ble_eq_true rfl) d_M_step_129 ⟨(Nat.le_of_ble_eq_true rfl), (Nat.le_of_ble_eq_true rfl)⟩ (fun M129 h => ?_)
  refine aw_aload_n X 0 rfl d_M_step_132 rfl ?_
  refine aw_gR X hc_9 in_9 18 (by decide) LK_449 (fun _ _ _ _ h => h) d_M_step_133 (h.mono (fun a133 h => ?_))
  refine aw_iload_n X 2 rfl d_M_step_136 rfl ?_
  refine aw_iconst X (1) (by decide) d_M_step_137 ?_
  refine aw_sZ X d_M_step_138 (h.mono (fun M138 h => ?_))
  refine aw_aload_n X 0 rfl d_M_step_139 rfl ?_
  obtain ⟨⟨r140, f140, e140, g140⟩, h⟩ := h
  cases e140
  refine aw_cVv X [] (fun ad hlv => t_M_tellClients l hlv h) (cwV 0 X.hts (gd_V LK_496 LK_497 LK_498 LK_463 LK_code_M_tellClients) rfl rfl rfl (by decide +kernel) ⟨(Nat.le_of_ble_eq_true rfl), (Nat.le_of_ble_eq_true rfl)⟩) ⟨9, f140, _, g140, hc_9, rfl⟩ rfl rfl (Nat.le_of_ble_eq_true rfl) d_M_step_140 ⟨(Nat.le_of_ble_eq_true rfl), (Nat.le_of_ble_eq_true rfl)⟩ (fun M140 h => ?_)
  refine aw_iconst X (1) (by decide) d_M_step_143 ?_
  exact aw_iret X hr (Nat.le_of_ble_eq_true rfl) (Nat.le_of_ble_eq_true rfl) d_M_step_144 h
def wp_M_step_88 (post : Int32 → wM → Prop) (x0 : Option Ro) (x1 : Int32) (x2 : Int32) (M : wM) : Prop := cV M x0 9 (wp_M_completeIfDone (fun M89 => post 3 M89) x0 M)
set_option maxRecDepth 100000 in
set_option maxHeartbeats 4000000 in
theorem sd_M_step_88 (X : Cx p s m args meth c b_M_step 3 R_M TBL D dA B zE) (hr : meth.sig.returnType = (some .int)) (hin : meth.name = y_M_step.name) {post : Int32 → wM → Prop} {x0 : Option Ro} {x1 : Int32} {x2 : Int32} {M : wM} (h : wp_M_step_88 post x0 x1 x2 M) : AW p l e (headSpec w_M_step rm_M_step).room s m args below meth c (MQ below (QI D dA B zE M0 ad0 post) args s 0 0 (wA B)) D dA B zE 3 ad0 M0 M 0 0 88 [(0, vR x0), (1, vI x1), (2, vI x2)] [] := by
  unfold wp_M_step_88 at h
  refine aw_aload_n X 0 rfl d_M_step_88 rfl ?_
  obtain ⟨⟨r89, f89, e89, g89⟩, h⟩ := h
  cases e89
  refine aw_cVv X [] (fun ad hlv => t_M_completeIfDone l hlv h) (cwV 0 X.hts (gd_V LK_505 LK_506 LK_507 LK_463 LK_code_M_completeIfDone) rfl rfl rfl (by decide +kernel) ⟨(Nat.le_of_ble_eq_true rfl), (Nat.le_of_ble_eq_true rfl)⟩) ⟨9, f89, _, g89, hc_9, rfl⟩ rfl rfl (Nat.le_of_ble_eq_true rfl) d_M_step_89 ⟨(Nat.le_of_ble_eq_true rfl), (Nat.le_of_ble_eq_true rfl)⟩ (fun M89 h => ?_)
  refine aw_iconst X (3) (by decide) d_M_step_92 ?_
  exact aw_iret X hr (Nat.le_of_ble_eq_true rfl) (Nat.le_of_ble_eq_true rfl) d_M_step_93 h
def wp_M_step_38 (post : Int32 → wM → Prop) (x0 : Option Ro) (x1 : Int32) (x2 : Int32) (M : wM) : Prop := gI M x0 9 15 (fun a40 => (x2 ≤ a40 → gR M x0 9 19 (fun a49 => lI M a49 x2 (fun a54 => sI M a49 x2 (a54 ||| (1 <<< (x1 &&& 31))) (fun M59 => gR M59 x0 9 16 (fun a61 => lI M59 a61 x2 (fun a65 => (0 ≤ a65 → gR M59 x0 9 8 (fun a95 => gR M59 x0 9 16 (fun a99 => lI M59 a99 x2 (fun a103 => lZ M59 a95 a103 (fun a104 => (a104 = 0 → wp_M_step_127 post x0 x1 x2 M59) ∧ (¬ a104 = 0 → gR M59 x0 9 19 (fun a109 => lI M59 a109 x2 (fun a113 => gI M59 x0 9 0 (fun a116 => (a113 = ((1 <<< (a116 &&& 31)) - 1) → wp_M_step_127 post x0 x1 x2 M59) ∧ (¬ a113 = ((1 <<< (a116 &&& 31)) - 1) → post 2 M59)))))))))) ∧ (¬ 0 ≤ a65 → gI M59 x0 9 25 (fun a71 => (¬ x2 = a71 → wp_M_step_88 post x0 x1 x2 M59) ∧ (x2 = a71 → gR M59 x0 9 26 (fun a78 => cV M59 x0 9 (wp_M_rowsOf (fun a84 M84 => sI M84 a78 x1 a84 (fun M87 => wp_M_step_88 post x0 x1 x2 M87)) x0 x1 M59))))))))))) ∧ (¬ x2 ≤ a40 → post 0 M))
set_option maxRecDepth 100000 in
set_option maxHeartbeats 4000000 in
theorem sd_M_step_38 (X : Cx p s m args meth c b_M_step 3 R_M TBL D dA B zE) (hr : meth.sig.returnType = (some .int)) (hin : meth.name = y_M_step.name) {post : Int32 → wM → Prop} {x0 : Option Ro} {x1 : Int32} {x2 : Int32} {M : wM} (h : wp_M_step_38 post x0 x1 x2 M) : AW p l e (headSpec w_M_step rm_M_step).room s m args below meth c (MQ below (QI D dA B zE M0 ad0 post) args s 0 0 (wA B)) D dA B zE 3 ad0 M0 M 0 0 38 [(0, vR x0), (1, vI x1), (2, vI x2)] [] := by
  unfold wp_M_step_38 at h
  refine aw_iload_n X 2 rfl d_M_step_38 rfl ?_
  refine aw_aload_n X 0 rfl d_M_step_39 rfl ?_
  refine aw_gI X hc_9 in_9 15 (by decide) LK_465 (fun _ _ _ _ h => h) d_M_step_40 (h.mono (fun a40 h => ?_))
  refine aw_icmp_le (tgt := 48) X d_M_step_43 (by decide) (fun c => ?_) (fun c => ?_)
  · have h := h.1 c
    refine aw_aload_n X 0 rfl d_M_step_48 rfl ?_
    refine aw_gR X hc_9 in_9 19 (by decide) LK_450 (fun _ _ _ _ h => h) d_M_step_49 (h.mono (fun a49 h => ?_))
    refine aw_iload_n X 2 rfl d_M_step_52 rfl ?_
    refine aw_dup2 X rfl rfl d_M_step_53 ?_
    refine aw_lI X d_M_step_54 (h.mono (fun a54 h => ?_))
    refine aw_iconst X (1) (by decide) d_M_step_55 ?_
    refine aw_iload_n X 1 rfl d_M_step_56 rfl ?_
    refine aw_ishl X d_M_step_57 ?_
    refine aw_ior X d_M_step_58 ?_
    refine aw_sI X d_M_step_59 (h.mono (fun M59 h => ?_))
    refine aw_aload_n X 0 rfl d_M_step_60 rfl ?_
    refine aw_gR X hc_9 in_9 16 (by decide) LK_447 (fun _ _ _ _ h => h) d_M_step_61 (h.mono (fun a61 h => ?_))
    refine aw_iload_n X 2 rfl d_M_step_64 rfl ?_
    refine aw_lI X d_M_step_65 (h.mono (fun a65 h => ?_))
    refine aw_if_ge (tgt := 94) X d_M_step_66 (by decide) (fun c => ?_) (fun c => ?_)
    · have h := h.1 c
      refine aw_aload_n X 0 rfl d_M_step_94 rfl ?_
      refine aw_gR X hc_9 in_9 8 (by decide) LK_440 (fun _ _ _ _ h => h) d_M_step_95 (h.mono (fun a95 h => ?_))
      refine aw_aload_n X 0 rfl d_M_step_98 rfl ?_
      refine aw_gR X hc_9 in_9 16 (by decide) LK_447 (fun _ _ _ _ h => h) d_M_step_99 (h.mono (fun a99 h => ?_))
      refine aw_iload_n X 2 rfl d_M_step_102 rfl ?_
      refine aw_lI X d_M_step_103 (h.mono (fun a103 h => ?_))
      refine aw_lZ X d_M_step_104 (h.mono (fun a104 h => ?_))
      refine aw_if_eq (tgt := 127) X d_M_step_105 (by decide) (fun c => ?_) (fun c => ?_)
      · have h := h.1 c
        exact sd_M_step_127 X hr hin h
      · have h := h.2 c
        refine aw_aload_n X 0 rfl d_M_step_108 rfl ?_
        refine aw_gR X hc_9 in_9 19 (by decide) LK_450 (fun _ _ _ _ h => h) d_M_step_109 (h.mono (fun a109 h => ?_))
        refine aw_iload_n X 2 rfl d_M_step_112 rfl ?_
        refine aw_lI X d_M_step_113 (h.mono (fun a113 h => ?_))
        refine aw_iconst X (1) (by decide) d_M_step_114 ?_
        refine aw_aload_n X 0 rfl d_M_step_115 rfl ?_
        refine aw_gI X hc_9 in_9 0 (by decide) LK_430 (fun _ _ _ _ h => h) d_M_step_116 (h.mono (fun a116 h => ?_))
        refine aw_ishl X d_M_step_119 ?_
        refine aw_iconst X (1) (by decide) d_M_step_120 ?_
        refine aw_isub X d_M_step_121 ?_
        refine aw_icmp_eq (tgt := 127) X d_M_step_122 (by decide) (fun c => ?_) (fun c => ?_)
        · have h := h.1 c
          exact sd_M_step_127 X hr hin h
        · have h := h.2 c
          refine aw_iconst X (2) (by decide) d_M_step_125 ?_
          exact aw_iret X hr (Nat.le_of_ble_eq_true rfl) (Nat.le_of_ble_eq_true rfl) d_M_step_126 h
    · have h := h.2 c
      refine aw_iload_n X 2 rfl d_M_step_69 rfl ?_
      refine aw_aload_n X 0 rfl d_M_step_70 rfl ?_
      refine aw_gI X hc_9 in_9 25 (by decide) LK_500 (fun _ _ _ _ h => h) d_M_step_71 (h.mono (fun a71 h => ?_))
      refine aw_icmp_ne (tgt := 88) X d_M_step_74 (by decide) (fun c => ?_) (fun c => ?_)
      · have h := h.1 c
        exact sd_M_step_88 X hr hin h
      · have h := h.2 c
        refine aw_aload_n X 0 rfl d_M_step_77 rfl ?_
        refine aw_gR X hc_9 in_9 26 (by decide) LK_454 (fun _ _ _ _ h => h) d_M_step_78 (h.mono (fun a78 h => ?_))
        refine aw_iload_n X 1 rfl d_M_step_81 rfl ?_
        refine aw_aload_n X 0 rfl d_M_step_82 rfl ?_
        refine aw_iload_n X 1 rfl d_M_step_83 rfl ?_
        obtain ⟨⟨r84, f84, e84, g84⟩, h⟩ := h
        cases e84
        refine aw_cVi X [_] (fun ad hlv => t_M_rowsOf l hlv h) (cwV 1 X.hts (gd_V LK_509 LK_510 LK_511 LK_463 LK_code_M_rowsOf) rfl rfl rfl (by decide +kernel) ⟨(Nat.le_of_ble_eq_true rfl), (Nat.le_of_ble_eq_true rfl)⟩) ⟨9, f84, _, g84, hc_9, rfl⟩ rfl rfl (Nat.le_of_ble_eq_true rfl) d_M_step_84 ⟨(Nat.le_of_ble_eq_true rfl), (Nat.le_of_ble_eq_true rfl)⟩ (fun a84 M84 h => ?_)
        refine aw_sI X d_M_step_87 (h.mono (fun M87 h => ?_))
        exact sd_M_step_88 X hr hin h
  · have h := h.2 c
    refine aw_iconst X (0) (by decide) d_M_step_46 ?_
    exact aw_iret X hr (Nat.le_of_ble_eq_true rfl) (Nat.le_of_ble_eq_true rfl) d_M_step_47 h
def wp_M_step_15 (post : Int32 → wM → Prop) : Nat → Option Ro → Int32 → Int32 → wM → Prop
  | 0, _, _, _, _ => False
  | n + 1, x0, x1, x2, M => gI M x0 9 15 (fun a17 => (a17 < x2 → wp_M_step_38 post x0 x1 x2 M) ∧ (¬ a17 < x2 → cV M x0 9 (wp_M_waits (fun a26 M26 => (¬ a26 = 0 → wp_M_step_38 post x0 x1 x2 M26) ∧ (a26 = 0 → wp_M_step_15 post n x0 x1 (x2 + 1) M26)) x0 x1 x2 M)))
set_option maxRecDepth 100000 in
set_option maxHeartbeats 4000000 in
theorem sd_M_step_15 (X : Cx p s m args meth c b_M_step 3 R_M TBL D dA B zE) (hr : meth.sig.returnType = (some .int)) (hin : meth.name = y_M_step.name) {post : Int32 → wM → Prop} : ∀ (n : Nat) (x0 : Option Ro) (x1 : Int32) (x2 : Int32) (M : wM), wp_M_step_15 post n x0 x1 x2 M → AW p l e (headSpec w_M_step rm_M_step).room s m args below meth c (MQ below (QI D dA B zE M0 ad0 post) args s 0 0 (wA B)) D dA B zE 3 ad0 M0 M 0 0 15 [(0, vR x0), (1, vI x1), (2, vI x2)] [] := by
  intro n
  induction n with
  | zero => intro x0 x1 x2 M h; exact h.elim
  | succ n ih =>
    intro x0 x1 x2 M h
    unfold wp_M_step_15 at h
    refine aw_iload_n X 2 rfl d_M_step_15 rfl ?_
    refine aw_aload_n X 0 rfl d_M_step_16 rfl ?_
    refine aw_gI X hc_9 in_9 15 (by decide) LK_465 (fun _ _ _ _ h => h) d_M_step_17 (h.mono (fun a17 h => ?_))
    refine aw_icmp_gt (tgt := 38) X d_M_step_20 (by decide) (fun c => ?_) (fun c => ?_)
    · have h := h.1 c
      exact sd_M_step_38 X hr hin h
    · have h := h.2 c
      refine aw_aload_n X 0 rfl d_M_step_23 rfl ?_
      refine aw_iload_n X 1 rfl d_M_step_24 rfl ?_
      refine aw_iload_n X 2 rfl d_M_step_25 rfl ?_
      obtain ⟨⟨r26, f26, e26, g26⟩, h⟩ := h
      cases e26
      refine aw_cVi X [_, _] (fun ad hlv => t_M_waits l hlv h) (cwV 2 X.hts (gd_V LK_513 LK_514 LK_515 LK_463 LK_code_M_waits) rfl rfl rfl (by decide +kernel) ⟨(Nat.le_of_ble_eq_true rfl), (Nat.le_of_ble_eq_true rfl)⟩) ⟨9, f26, _, g26, hc_9, rfl⟩ rfl rfl (Nat.le_of_ble_eq_true rfl) d_M_step_26 ⟨(Nat.le_of_ble_eq_true rfl), (Nat.le_of_ble_eq_true rfl)⟩ (fun a26 M26 h => ?_)
      refine aw_if_ne (tgt := 38) X d_M_step_29 (by decide) (fun c => ?_) (fun c => ?_)
      · have h := h.1 c
        exact sd_M_step_38 X hr hin h
      · have h := h.2 c
        refine aw_iinc (y := x2 + 1) (lvn := [(2, _), (0, _), (1, _)]) X 2 rfl d_M_step_32 rfl (by decide) rfl ?_
        refine aw_goto (tgt := 15) X d_M_step_35 (by decide) ?_
        refine aw_lv [1, 2, 0] rfl ?_
        exact ih _ _ _ _ h
def wp_M_step (post : Int32 → wM → Prop) (x0 : Option Ro) (x1 : Int32) (M : wM) : Prop := gI M x0 9 0 (fun a2 => wp_M_outside (fun a5 M5 => (a5 = 0 → (∃ n, wp_M_step_15 post n x0 x1 1 M5)) ∧ (¬ a5 = 0 → post (-1) M5)) x1 a2 M)
set_option maxRecDepth 100000 in
set_option maxHeartbeats 4000000 in
theorem sd_M_step_0 (X : Cx p s m args meth c b_M_step 3 R_M TBL D dA B zE) (hr : meth.sig.returnType = (some .int)) (hin : meth.name = y_M_step.name) {post : Int32 → wM → Prop} {x0 : Option Ro} {x1 : Int32} {M : wM} (h : wp_M_step post x0 x1 M) : AW p l e (headSpec w_M_step rm_M_step).room s m args below meth c (MQ below (QI D dA B zE M0 ad0 post) args s 0 0 (wA B)) D dA B zE 3 ad0 M0 M 0 0 0 [(0, vR x0), (1, vI x1)] [] := by
  unfold wp_M_step at h
  refine aw_iload_n X 1 rfl d_M_step_0 rfl ?_
  refine aw_aload_n X 0 rfl d_M_step_1 rfl ?_
  refine aw_gI X hc_9 in_9 0 (by decide) LK_430 (fun _ _ _ _ h => h) d_M_step_2 (h.mono (fun a2 h => ?_))
  refine aw_cSi X [_, _] (fun ad hlv => t_M_outside l hlv h) (cwS 2 X.hts (gd_S LK_461 LK_462 LK_463 LK_code_M_outside) rfl rfl rfl (by decide +kernel) ⟨(Nat.le_of_ble_eq_true rfl), (Nat.le_of_ble_eq_true rfl)⟩) rfl rfl (Nat.le_of_ble_eq_true rfl) d_M_step_5 ⟨(Nat.le_of_ble_eq_true rfl), (Nat.le_of_ble_eq_true rfl)⟩ (fun a5 M5 h => ?_)
  refine aw_if_eq (tgt := 13) X d_M_step_8 (by decide) (fun c => ?_) (fun c => ?_)
  · have h := h.1 c
    refine aw_iconst X (1) (by decide) d_M_step_13 ?_
    refine aw_istore_n (lvn := [(2, _), (0, _), (1, _)]) X d_M_step_14 rfl (by decide) rfl ?_
    refine aw_lv [1, 2, 0] rfl ?_
    obtain ⟨n, h⟩ := h
    exact sd_M_step_15 X hr hin n _ _ _ _ h
  · have h := h.2 c
    refine aw_iconst X (-1) (by decide) d_M_step_11 ?_
    exact aw_iret X hr (Nat.le_of_ble_eq_true rfl) (Nat.le_of_ble_eq_true rfl) d_M_step_12 h
end
theorem t_M_step (l : Launch) {D : va_G} {dA : Nat → ClassId} {B : Nat} {zE : ZT} {M : wM} {ad : Ro → Nat} {post : Int32 → wM → Prop} {x0 : Option Ro} {x1 : Int32} (hlv : lvS M [vR x0, vI x1]) (h : wp_M_step post x0 x1 M) : Met l y_M_step w_M_step rm_M_step (PA D dA B zE M ad [vR x0, vI x1]) (QI D dA B zE M ad post) 0 0 (wA B) :=
  AW_start [vR x0, vI x1] [(0, vR x0), (1, vI x1)] hlv (by decide +kernel) rfl (fun _ hw => List.mem_cons_of_mem _ hw) rfl (Nat.le_of_ble_eq_true rfl) (fun p e s m args below meth c X hr hin => sd_M_step_0 X hr hin h)
abbrev rm_M_flush : Room := { frames := 1, cells := 0, slots := 0, locals := 23 }
section
variable {p : Program} {l : Launch} {e : Env} {s : State} {m : MethodId} {args : Array Value} {below : List Frame} {meth : Method} {c : Code} {D : va_G} {dA : Nat → ClassId} {B : Nat} {zE : ZT} {ad0 : Ro → Nat} {M0 : wM}
def wp_M_flush (post : Int32 → wM → Prop) (x0 : Option Ro) (M : wM) : Prop := gI M x0 9 15 (fun a2 => pF M x0 9 23 (vI a2) (fun M5 => cV M5 x0 9 (wp_M_tellClients (fun M9 => gI M9 x0 9 23 (fun a13 => post a13 M9)) x0 M5)))
set_option maxRecDepth 100000 in
set_option maxHeartbeats 4000000 in
theorem sd_M_flush_0 (X : Cx p s m args meth c b_M_flush 1 R_M TBL D dA B zE) (hr : meth.sig.returnType = (some .int)) (hin : meth.name = y_M_flush.name) {post : Int32 → wM → Prop} {x0 : Option Ro} {M : wM} (h : wp_M_flush post x0 M) : AW p l e (headSpec w_M_flush rm_M_flush).room s m args below meth c (MQ below (QI D dA B zE M0 ad0 post) args s 0 0 (wA B)) D dA B zE 1 ad0 M0 M 0 0 0 [(0, vR x0)] [] := by
  unfold wp_M_flush at h
  refine aw_aload_n X 0 rfl d_M_flush_0 rfl ?_
  refine aw_aload_n X 0 rfl d_M_flush_1 rfl ?_
  refine aw_gI X hc_9 in_9 15 (by decide) LK_465 (fun _ _ _ _ h => h) d_M_flush_2 (h.mono (fun a2 h => ?_))
  refine aw_pF (ty := .int) X hc_9 in_9 23 (by decide) ty_9 tyok_9 nm_9 LK_495 (fun _ _ _ _ h => h) rfl (by decide +kernel) (fun _ => ⟨rfl, rfl⟩) d_M_flush_5 (h.mono (fun M5 h => ?_))
  refine aw_aload_n X 0 rfl d_M_flush_8 rfl ?_
  obtain ⟨⟨r9, f9, e9, g9⟩, h⟩ := h
  cases e9
  refine aw_cVv X [] (fun ad hlv => t_M_tellClients l hlv h) (cwV 0 X.hts (gd_V LK_496 LK_497 LK_498 LK_463 LK_code_M_tellClients) rfl rfl rfl (by decide +kernel) ⟨(Nat.le_of_ble_eq_true rfl), (Nat.le_of_ble_eq_true rfl)⟩) ⟨9, f9, _, g9, hc_9, rfl⟩ rfl rfl (Nat.le_of_ble_eq_true rfl) d_M_flush_9 ⟨(Nat.le_of_ble_eq_true rfl), (Nat.le_of_ble_eq_true rfl)⟩ (fun M9 h => ?_)
  refine aw_aload_n X 0 rfl d_M_flush_12 rfl ?_
  refine aw_gI X hc_9 in_9 23 (by decide) LK_495 (fun _ _ _ _ h => h) d_M_flush_13 (h.mono (fun a13 h => ?_))
  exact aw_iret X hr (Nat.le_of_ble_eq_true rfl) (Nat.le_of_ble_eq_true rfl) d_M_flush_16 h
end
theorem t_M_flush (l : Launch) {D : va_G} {dA : Nat → ClassId} {B : Nat} {zE : ZT} {M : wM} {ad : Ro → Nat} {post : Int32 → wM → Prop} {x0 : Option Ro} (hlv : lvS M [vR x0]) (h : wp_M_flush post x0 M) : Met l y_M_flush w_M_flush rm_M_flush (PA D dA B zE M ad [vR x0]) (QI D dA B zE M ad post) 0 0 (wA B) :=
  AW_start [vR x0] [(0, vR x0)] hlv (by decide +kernel) rfl (fun _ hw => List.mem_cons_of_mem _ hw) rfl (Nat.le_of_ble_eq_true rfl) (fun p e s m args below meth c X hr hin => sd_M_flush_0 X hr hin h)
abbrev rm_M_snapshot : Room := { frames := 1, cells := 0, slots := 0, locals := 21 }
section
variable {p : Program} {l : Launch} {e : Env} {s : State} {m : MethodId} {args : Array Value} {below : List Frame} {meth : Method} {c : Code} {D : va_G} {dA : Nat → ClassId} {B : Nat} {zE : ZT} {ad0 : Ro → Nat} {M0 : wM}
def wp_M_snapshot (post : Int32 → wM → Prop) (x0 : Option Ro) (M : wM) : Prop := gI M x0 9 25 (fun a1 => (a1 ≤ 0 → cV M x0 9 (wp_M_next (fun a12 M12 => pF M12 x0 9 25 (vI a12) (fun M15 => gI M15 x0 9 25 (fun a19 => post a19 M15))) x0 (-1) M)) ∧ (¬ a1 ≤ 0 → post (-1) M))
set_option maxRecDepth 100000 in
set_option maxHeartbeats 4000000 in
theorem sd_M_snapshot_0 (X : Cx p s m args meth c b_M_snapshot 1 R_M TBL D dA B zE) (hr : meth.sig.returnType = (some .int)) (hin : meth.name = y_M_snapshot.name) {post : Int32 → wM → Prop} {x0 : Option Ro} {M : wM} (h : wp_M_snapshot post x0 M) : AW p l e (headSpec w_M_snapshot rm_M_snapshot).room s m args below meth c (MQ below (QI D dA B zE M0 ad0 post) args s 0 0 (wA B)) D dA B zE 1 ad0 M0 M 0 0 0 [(0, vR x0)] [] := by
  unfold wp_M_snapshot at h
  refine aw_aload_n X 0 rfl d_M_snapshot_0 rfl ?_
  refine aw_gI X hc_9 in_9 25 (by decide) LK_500 (fun _ _ _ _ h => h) d_M_snapshot_1 (h.mono (fun a1 h => ?_))
  refine aw_if_le (tgt := 9) X d_M_snapshot_4 (by decide) (fun c => ?_) (fun c => ?_)
  · have h := h.1 c
    refine aw_aload_n X 0 rfl d_M_snapshot_9 rfl ?_
    refine aw_aload_n X 0 rfl d_M_snapshot_10 rfl ?_
    refine aw_iconst X (-1) (by decide) d_M_snapshot_11 ?_
    obtain ⟨⟨r12, f12, e12, g12⟩, h⟩ := h
    cases e12
    refine aw_cVi X [_] (fun ad hlv => t_M_next l hlv h) (cwV 1 X.hts (gd_V LK_471 LK_472 LK_473 LK_463 LK_code_M_next) rfl rfl rfl (by decide +kernel) ⟨(Nat.le_of_ble_eq_true rfl), (Nat.le_of_ble_eq_true rfl)⟩) ⟨9, f12, _, g12, hc_9, rfl⟩ rfl rfl (Nat.le_of_ble_eq_true rfl) d_M_snapshot_12 ⟨(Nat.le_of_ble_eq_true rfl), (Nat.le_of_ble_eq_true rfl)⟩ (fun a12 M12 h => ?_)
    refine aw_pF (ty := .int) X hc_9 in_9 25 (by decide) ty_9 tyok_9 nm_9 LK_500 (fun _ _ _ _ h => h) rfl (by decide +kernel) (fun _ => ⟨rfl, rfl⟩) d_M_snapshot_15 (h.mono (fun M15 h => ?_))
    refine aw_aload_n X 0 rfl d_M_snapshot_18 rfl ?_
    refine aw_gI X hc_9 in_9 25 (by decide) LK_500 (fun _ _ _ _ h => h) d_M_snapshot_19 (h.mono (fun a19 h => ?_))
    exact aw_iret X hr (Nat.le_of_ble_eq_true rfl) (Nat.le_of_ble_eq_true rfl) d_M_snapshot_22 h
  · have h := h.2 c
    refine aw_iconst X (-1) (by decide) d_M_snapshot_7 ?_
    exact aw_iret X hr (Nat.le_of_ble_eq_true rfl) (Nat.le_of_ble_eq_true rfl) d_M_snapshot_8 h
end
theorem t_M_snapshot (l : Launch) {D : va_G} {dA : Nat → ClassId} {B : Nat} {zE : ZT} {M : wM} {ad : Ro → Nat} {post : Int32 → wM → Prop} {x0 : Option Ro} (hlv : lvS M [vR x0]) (h : wp_M_snapshot post x0 M) : Met l y_M_snapshot w_M_snapshot rm_M_snapshot (PA D dA B zE M ad [vR x0]) (QI D dA B zE M ad post) 0 0 (wA B) :=
  AW_start [vR x0] [(0, vR x0)] hlv (by decide +kernel) rfl (fun _ hw => List.mem_cons_of_mem _ hw) rfl (Nat.le_of_ble_eq_true rfl) (fun p e s m args below meth c X hr hin => sd_M_snapshot_0 X hr hin h)
abbrev rm_M_scan : Room := { frames := 6, cells := 0, slots := 0, locals := 135 }
section
variable {p : Program} {l : Launch} {e : Env} {s : State} {m : MethodId} {args : Array Value} {below : List Frame} {meth : Method} {c : Code} {D : va_G} {dA : Nat → ClassId} {B : Nat} {zE : ZT} {ad0 : Ro → Nat} {M0 : wM}
def wp_M_scan_68 (post : Int32 → wM → Prop) (x0 : Option Ro) (x1 : Int32) (x2 : Int32) (x3 : Int32) (s0 : Int32) (M : wM) : Prop := gR M x0 9 26 (fun a71 => sI M a71 x1 s0 (fun M77 => cV M77 x0 9 (wp_M_completeIfDone (fun M79 => post s0 M79) x0 M77)))
set_option maxRecDepth 100000 in
set_option maxHeartbeats 4000000 in
theorem sd_M_scan_68 (X : Cx p s m args meth c b_M_scan 5 R_M TBL D dA B zE) (hr : meth.sig.returnType = (some .int)) (hin : meth.name = y_M_scan.name) {post : Int32 → wM → Prop} {x0 : Option Ro} {x1 : Int32} {x2 : Int32} {x3 : Int32} {s0 : Int32} {M : wM} (h : wp_M_scan_68 post x0 x1 x2 x3 s0 M) : AW p l e (headSpec w_M_scan rm_M_scan).room s m args below meth c (MQ below (QI D dA B zE M0 ad0 post) args s 0 0 (wA B)) D dA B zE 5 ad0 M0 M 0 0 68 [(0, vR x0), (1, vI x1), (2, vI x2), (3, vI x3)] [vI s0] := by
  unfold wp_M_scan_68 at h
  refine aw_istore (lvn := [(4, _), (0, _), (1, _), (2, _), (3, _)]) X d_M_scan_68 (by decide) rfl ?_
  refine aw_aload_n X 1 rfl d_M_scan_70 rfl ?_
  refine aw_gR X hc_9 in_9 26 (by decide) LK_454 (fun _ _ _ _ h => h) d_M_scan_71 (h.mono (fun a71 h => ?_))
  refine aw_iload_n X 2 rfl d_M_scan_74 rfl ?_
  refine aw_iload X 0 rfl d_M_scan_75 ?_
  refine aw_sI X d_M_scan_77 (h.mono (fun M77 h => ?_))
  refine aw_aload_n X 1 rfl d_M_scan_78 rfl ?_
  obtain ⟨⟨r79, f79, e79, g79⟩, h⟩ := h
  cases e79
  refine aw_cVv X [] (fun ad hlv => t_M_completeIfDone l hlv h) (cwV 0 X.hts (gd_V LK_505 LK_506 LK_507 LK_463 LK_code_M_completeIfDone) rfl rfl rfl (by decide +kernel) ⟨(Nat.le_of_ble_eq_true rfl), (Nat.le_of_ble_eq_true rfl)⟩) ⟨9, f79, _, g79, hc_9, rfl⟩ rfl rfl (Nat.le_of_ble_eq_true rfl) d_M_scan_79 ⟨(Nat.le_of_ble_eq_true rfl), (Nat.le_of_ble_eq_true rfl)⟩ (fun M79 h => ?_)
  refine aw_iload X 0 rfl d_M_scan_82 ?_
  exact aw_iret X hr (Nat.le_of_ble_eq_true rfl) (Nat.le_of_ble_eq_true rfl) d_M_scan_84 h
def wp_M_scan_45 (post : Int32 → wM → Prop) (x0 : Option Ro) (x1 : Int32) (x2 : Int32) (s0 : Int32) (M : wM) : Prop := gR M x0 9 26 (fun a47 => lI M a47 x1 (fun a51 => (a51 ≤ s0 → wp_M_scan_68 post x0 x1 x2 s0 0 M) ∧ (¬ a51 ≤ s0 → gR M x0 9 26 (fun a57 => lI M a57 x1 (fun a61 => wp_M_scan_68 post x0 x1 x2 s0 (a61 - s0) M)))))
set_option maxRecDepth 100000 in
set_option maxHeartbeats 4000000 in
theorem sd_M_scan_45 (X : Cx p s m args meth c b_M_scan 5 R_M TBL D dA B zE) (hr : meth.sig.returnType = (some .int)) (hin : meth.name = y_M_scan.name) {post : Int32 → wM → Prop} {x0 : Option Ro} {x1 : Int32} {x2 : Int32} {s0 : Int32} {M : wM} (h : wp_M_scan_45 post x0 x1 x2 s0 M) : AW p l e (headSpec w_M_scan rm_M_scan).room s m args below meth c (MQ below (QI D dA B zE M0 ad0 post) args s 0 0 (wA B)) D dA B zE 5 ad0 M0 M 0 0 45 [(0, vR x0), (1, vI x1), (2, vI x2)] [vI s0] := by
  unfold wp_M_scan_45 at h
  refine aw_istore_n (lvn := [(3, _), (0, _), (1, _), (2, _)]) X d_M_scan_45 rfl (by decide) rfl ?_
  refine aw_aload_n X 1 rfl d_M_scan_46 rfl ?_
  refine aw_gR X hc_9 in_9 26 (by decide) LK_454 (fun _ _ _ _ h => h) d_M_scan_47 (h.mono (fun a47 h => ?_))
  refine aw_iload_n X 2 rfl d_M_scan_50 rfl ?_
  refine aw_lI X d_M_scan_51 (h.mono (fun a51 h => ?_))
  refine aw_iload_n X 0 rfl d_M_scan_52 rfl ?_
  refine aw_icmp_le (tgt := 67) X d_M_scan_53 (by decide) (fun c => ?_) (fun c => ?_)
  · have h := h.1 c
    refine aw_iconst X (0) (by decide) d_M_scan_67 ?_
    refine aw_lv [1, 2, 3, 0] rfl ?_
    exact sd_M_scan_68 X hr hin h
  · have h := h.2 c
    refine aw_aload_n X 1 rfl d_M_scan_56 rfl ?_
    refine aw_gR X hc_9 in_9 26 (by decide) LK_454 (fun _ _ _ _ h => h) d_M_scan_57 (h.mono (fun a57 h => ?_))
    refine aw_iload_n X 2 rfl d_M_scan_60 rfl ?_
    refine aw_lI X d_M_scan_61 (h.mono (fun a61 h => ?_))
    refine aw_iload_n X 0 rfl d_M_scan_62 rfl ?_
    refine aw_isub X d_M_scan_63 ?_
    refine aw_goto (tgt := 68) X d_M_scan_64 (by decide) ?_
    refine aw_lv [1, 2, 3, 0] rfl ?_
    exact sd_M_scan_68 X hr hin h
def wp_M_scan_34 (post : Int32 → wM → Prop) (x0 : Option Ro) (x1 : Int32) (x2 : Int32) (M : wM) : Prop := post (-1) M
set_option maxRecDepth 100000 in
set_option maxHeartbeats 4000000 in
theorem sd_M_scan_34 (X : Cx p s m args meth c b_M_scan 5 R_M TBL D dA B zE) (hr : meth.sig.returnType = (some .int)) (hin : meth.name = y_M_scan.name) {post : Int32 → wM → Prop} {x0 : Option Ro} {x1 : Int32} {x2 : Int32} {M : wM} (h : wp_M_scan_34 post x0 x1 x2 M) : AW p l e (headSpec w_M_scan rm_M_scan).room s m args below meth c (MQ below (QI D dA B zE M0 ad0 post) args s 0 0 (wA B)) D dA B zE 5 ad0 M0 M 0 0 34 [(0, vR x0), (1, vI x1), (2, vI x2)] [] := by
  unfold wp_M_scan_34 at h
  refine aw_iconst X (-1) (by decide) d_M_scan_34 ?_
  exact aw_iret X hr (Nat.le_of_ble_eq_true rfl) (Nat.le_of_ble_eq_true rfl) d_M_scan_35 h
def wp_M_scan (post : Int32 → wM → Prop) (x0 : Option Ro) (x1 : Int32) (x2 : Int32) (M : wM) : Prop := gI M x0 9 0 (fun a2 => wp_M_outside (fun a5 M5 => (¬ a5 = 0 → wp_M_scan_34 post x0 x1 x2 M5) ∧ (a5 = 0 → gI M5 x0 9 25 (fun a12 => (a12 = 0 → wp_M_scan_34 post x0 x1 x2 M5) ∧ (¬ a12 = 0 → gR M5 x0 9 19 (fun a19 => gI M5 x0 9 25 (fun a23 => lI M5 a19 a23 (fun a26 => (¬ ((a26 >>> (x1 &&& 31)) &&& 1) = 0 → (0 ≤ x2 → wp_M_scan_45 post x0 x1 x2 x2 M5) ∧ (¬ 0 ≤ x2 → wp_M_scan_45 post x0 x1 x2 0 M5)) ∧ (((a26 >>> (x1 &&& 31)) &&& 1) = 0 → wp_M_scan_34 post x0 x1 x2 M5)))))))) x1 a2 M)
set_option maxRecDepth 100000 in
set_option maxHeartbeats 4000000 in
theorem sd_M_scan_0 (X : Cx p s m args meth c b_M_scan 5 R_M TBL D dA B zE) (hr : meth.sig.returnType = (some .int)) (hin : meth.name = y_M_scan.name) {post : Int32 → wM → Prop} {x0 : Option Ro} {x1 : Int32} {x2 : Int32} {M : wM} (h : wp_M_scan post x0 x1 x2 M) : AW p l e (headSpec w_M_scan rm_M_scan).room s m args below meth c (MQ below (QI D dA B zE M0 ad0 post) args s 0 0 (wA B)) D dA B zE 5 ad0 M0 M 0 0 0 [(0, vR x0), (1, vI x1), (2, vI x2)] [] := by
  unfold wp_M_scan at h
  refine aw_iload_n X 1 rfl d_M_scan_0 rfl ?_
  refine aw_aload_n X 0 rfl d_M_scan_1 rfl ?_
  refine aw_gI X hc_9 in_9 0 (by decide) LK_430 (fun _ _ _ _ h => h) d_M_scan_2 (h.mono (fun a2 h => ?_))
  refine aw_cSi X [_, _] (fun ad hlv => t_M_outside l hlv h) (cwS 2 X.hts (gd_S LK_461 LK_462 LK_463 LK_code_M_outside) rfl rfl rfl (by decide +kernel) ⟨(Nat.le_of_ble_eq_true rfl), (Nat.le_of_ble_eq_true rfl)⟩) rfl rfl (Nat.le_of_ble_eq_true rfl) d_M_scan_5 ⟨(Nat.le_of_ble_eq_true rfl), (Nat.le_of_ble_eq_true rfl)⟩ (fun a5 M5 h => ?_)
  refine aw_if_ne (tgt := 34) X d_M_scan_8 (by decide) (fun c => ?_) (fun c => ?_)
  · have h := h.1 c
    exact sd_M_scan_34 X hr hin h
  · have h := h.2 c
    refine aw_aload_n X 0 rfl d_M_scan_11 rfl ?_
    refine aw_gI X hc_9 in_9 25 (by decide) LK_500 (fun _ _ _ _ h => h) d_M_scan_12 (h.mono (fun a12 h => ?_))
    refine aw_if_eq (tgt := 34) X d_M_scan_15 (by decide) (fun c => ?_) (fun c => ?_)
    · have h := h.1 c
      exact sd_M_scan_34 X hr hin h
    · have h := h.2 c
      refine aw_aload_n X 0 rfl d_M_scan_18 rfl ?_
      refine aw_gR X hc_9 in_9 19 (by decide) LK_450 (fun _ _ _ _ h => h) d_M_scan_19 (h.mono (fun a19 h => ?_))
      refine aw_aload_n X 0 rfl d_M_scan_22 rfl ?_
      refine aw_gI X hc_9 in_9 25 (by decide) LK_500 (fun _ _ _ _ h => h) d_M_scan_23 (h.mono (fun a23 h => ?_))
      refine aw_lI X d_M_scan_26 (h.mono (fun a26 h => ?_))
      refine aw_iload_n X 1 rfl d_M_scan_27 rfl ?_
      refine aw_ishr X d_M_scan_28 ?_
      refine aw_iconst X (1) (by decide) d_M_scan_29 ?_
      refine aw_iand X d_M_scan_30 ?_
      refine aw_if_ne (tgt := 36) X d_M_scan_31 (by decide) (fun c => ?_) (fun c => ?_)
      · have h := h.1 c
        refine aw_iload_n X 2 rfl d_M_scan_36 rfl ?_
        refine aw_if_ge (tgt := 44) X d_M_scan_37 (by decide) (fun c => ?_) (fun c => ?_)
        · have h := h.1 c
          refine aw_iload_n X 2 rfl d_M_scan_44 rfl ?_
          exact sd_M_scan_45 X hr hin h
        · have h := h.2 c
          refine aw_iconst X (0) (by decide) d_M_scan_40 ?_
          refine aw_goto (tgt := 45) X d_M_scan_41 (by decide) ?_
          exact sd_M_scan_45 X hr hin h
      · have h := h.2 c
        exact sd_M_scan_34 X hr hin h
end
theorem t_M_scan (l : Launch) {D : va_G} {dA : Nat → ClassId} {B : Nat} {zE : ZT} {M : wM} {ad : Ro → Nat} {post : Int32 → wM → Prop} {x0 : Option Ro} {x1 : Int32} {x2 : Int32} (hlv : lvS M [vR x0, vI x1, vI x2]) (h : wp_M_scan post x0 x1 x2 M) : Met l y_M_scan w_M_scan rm_M_scan (PA D dA B zE M ad [vR x0, vI x1, vI x2]) (QI D dA B zE M ad post) 0 0 (wA B) :=
  AW_start [vR x0, vI x1, vI x2] [(0, vR x0), (1, vI x1), (2, vI x2)] hlv (by decide +kernel) rfl (fun _ hw => List.mem_cons_of_mem _ hw) rfl (Nat.le_of_ble_eq_true rfl) (fun p e s m args below meth c X hr hin => sd_M_scan_0 X hr hin h)
abbrev rm_M_crash : Room := { frames := 5, cells := 0, slots := 0, locals := 114 }
section
variable {p : Program} {l : Launch} {e : Env} {s : State} {m : MethodId} {args : Array Value} {below : List Frame} {meth : Method} {c : Code} {D : va_G} {dA : Nat → ClassId} {B : Nat} {zE : ZT} {ad0 : Ro → Nat} {M0 : wM}
def wp_M_crash_68 (post : Int32 → wM → Prop) (k46 : Option Ro → Int32 → wM → Prop) (x0 : Option Ro) (x1 : Int32) (M : wM) : Prop := k46 x0 (x1 + 1) M
set_option maxRecDepth 100000 in
set_option maxHeartbeats 4000000 in
theorem sd_M_crash_68 (X : Cx p s m args meth c b_M_crash 2 R_M TBL D dA B zE) (hr : meth.sig.returnType = (some .int)) (hin : meth.name = y_M_crash.name) {post : Int32 → wM → Prop} {k46 : Option Ro → Int32 → wM → Prop} (hk46 : ∀ (x0 : Option Ro) (x1 : Int32) (M : wM), k46 x0 x1 M → AW p l e (headSpec w_M_crash rm_M_crash).room s m args below meth c (MQ below (QI D dA B zE M0 ad0 post) args s 0 0 (wA B)) D dA B zE 2 ad0 M0 M 0 0 46 [(0, vR x0), (1, vI x1)] []) {x0 : Option Ro} {x1 : Int32} {M : wM} (h : wp_M_crash_68 post k46 x0 x1 M) : AW p l e (headSpec w_M_crash rm_M_crash).room s m args below meth c (MQ below (QI D dA B zE M0 ad0 post) args s 0 0 (wA B)) D dA B zE 2 ad0 M0 M 0 0 68 [(0, vR x0), (1, vI x1)] [] := by
  unfold wp_M_crash_68 at h
  refine aw_iinc (y := x1 + 1) (lvn := [(1, _), (0, _)]) X 1 rfl d_M_crash_68 rfl (by decide) rfl ?_
  refine aw_goto (tgt := 46) X d_M_crash_71 (by decide) ?_
  refine aw_lv [1, 0] rfl ?_
  exact hk46 _ _ _ h
def wp_M_crash_46 (post : Int32 → wM → Prop) : Nat → Option Ro → Int32 → wM → Prop
  | 0, _, _, _ => False
  | n + 1, x0, x1, M => ((4 : Int32) ≤ x1 → gI M x0 9 23 (fun a75 => post a75 M)) ∧ (¬ (4 : Int32) ≤ x1 → gR M x0 9 27 (fun a52 => lI M a52 x1 (fun a56 => (¬ a56 = (1 : Int32) → wp_M_crash_68 post (fun x0 x1 M => wp_M_crash_46 post n x0 x1 M) x0 x1 M) ∧ (a56 = (1 : Int32) → gR M x0 9 27 (fun a62 => sI M a62 x1 4 (fun M67 => wp_M_crash_68 post (fun x0 x1 M => wp_M_crash_46 post n x0 x1 M) x0 x1 M67))))))
set_option maxRecDepth 100000 in
set_option maxHeartbeats 4000000 in
theorem sd_M_crash_46 (X : Cx p s m args meth c b_M_crash 2 R_M TBL D dA B zE) (hr : meth.sig.returnType = (some .int)) (hin : meth.name = y_M_crash.name) {post : Int32 → wM → Prop} : ∀ (n : Nat) (x0 : Option Ro) (x1 : Int32) (M : wM), wp_M_crash_46 post n x0 x1 M → AW p l e (headSpec w_M_crash rm_M_crash).room s m args below meth c (MQ below (QI D dA B zE M0 ad0 post) args s 0 0 (wA B)) D dA B zE 2 ad0 M0 M 0 0 46 [(0, vR x0), (1, vI x1)] [] := by
  intro n
  induction n with
  | zero => intro x0 x1 M h; exact h.elim
  | succ n ih =>
    intro x0 x1 M h
    unfold wp_M_crash_46 at h
    refine aw_iload_n X 1 rfl d_M_crash_46 rfl ?_
    refine aw_iconst X (4) (by decide) d_M_crash_47 ?_
    refine aw_icmp_ge (tgt := 74) X d_M_crash_48 (by decide) (fun c => ?_) (fun c => ?_)
    · have h := h.1 c
      refine aw_aload_n X 0 rfl d_M_crash_74 rfl ?_
      refine aw_gI X hc_9 in_9 23 (by decide) LK_495 (fun _ _ _ _ h => h) d_M_crash_75 (h.mono (fun a75 h => ?_))
      exact aw_iret X hr (Nat.le_of_ble_eq_true rfl) (Nat.le_of_ble_eq_true rfl) d_M_crash_78 h
    · have h := h.2 c
      refine aw_aload_n X 0 rfl d_M_crash_51 rfl ?_
      refine aw_gR X hc_9 in_9 27 (by decide) LK_455 (fun _ _ _ _ h => h) d_M_crash_52 (h.mono (fun a52 h => ?_))
      refine aw_iload_n X 1 rfl d_M_crash_55 rfl ?_
      refine aw_lI X d_M_crash_56 (h.mono (fun a56 h => ?_))
      refine aw_iconst X (1) (by decide) d_M_crash_57 ?_
      refine aw_icmp_ne (tgt := 68) X d_M_crash_58 (by decide) (fun c => ?_) (fun c => ?_)
      · have h := h.1 c
        exact sd_M_crash_68 X hr hin ih h
      · have h := h.2 c
        refine aw_aload_n X 0 rfl d_M_crash_61 rfl ?_
        refine aw_gR X hc_9 in_9 27 (by decide) LK_455 (fun _ _ _ _ h => h) d_M_crash_62 (h.mono (fun a62 h => ?_))
        refine aw_iload_n X 1 rfl d_M_crash_65 rfl ?_
        refine aw_iconst X (4) (by decide) d_M_crash_66 ?_
        refine aw_sI X d_M_crash_67 (h.mono (fun M67 h => ?_))
        exact sd_M_crash_68 X hr hin ih h
def wp_M_crash_23 (post : Int32 → wM → Prop) : Nat → Option Ro → Int32 → wM → Prop
  | 0, _, _, _ => False
  | n + 1, x0, x1, M => gI M x0 9 15 (fun a25 => (a25 < x1 → (∃ n, wp_M_crash_46 post n x0 0 M)) ∧ (¬ a25 < x1 → gR M x0 9 18 (fun a32 => sZ M a32 x1 1 (fun M37 => wp_M_crash_23 post n x0 (x1 + 1) M37))))
set_option maxRecDepth 100000 in
set_option maxHeartbeats 4000000 in
theorem sd_M_crash_23 (X : Cx p s m args meth c b_M_crash 2 R_M TBL D dA B zE) (hr : meth.sig.returnType = (some .int)) (hin : meth.name = y_M_crash.name) {post : Int32 → wM → Prop} : ∀ (n : Nat) (x0 : Option Ro) (x1 : Int32) (M : wM), wp_M_crash_23 post n x0 x1 M → AW p l e (headSpec w_M_crash rm_M_crash).room s m args below meth c (MQ below (QI D dA B zE M0 ad0 post) args s 0 0 (wA B)) D dA B zE 2 ad0 M0 M 0 0 23 [(0, vR x0), (1, vI x1)] [] := by
  intro n
  induction n with
  | zero => intro x0 x1 M h; exact h.elim
  | succ n ih =>
    intro x0 x1 M h
    unfold wp_M_crash_23 at h
    refine aw_iload_n X 1 rfl d_M_crash_23 rfl ?_
    refine aw_aload_n X 0 rfl d_M_crash_24 rfl ?_
    refine aw_gI X hc_9 in_9 15 (by decide) LK_465 (fun _ _ _ _ h => h) d_M_crash_25 (h.mono (fun a25 h => ?_))
    refine aw_icmp_gt (tgt := 44) X d_M_crash_28 (by decide) (fun c => ?_) (fun c => ?_)
    · have h := h.1 c
      refine aw_iconst X (0) (by decide) d_M_crash_44 ?_
      refine aw_istore_n (lvn := [(1, _), (0, _)]) X d_M_crash_45 rfl (by decide) rfl ?_
      refine aw_lv [1, 0] rfl ?_
      obtain ⟨n, h⟩ := h
      exact sd_M_crash_46 X hr hin n _ _ _ h
    · have h := h.2 c
      refine aw_aload_n X 0 rfl d_M_crash_31 rfl ?_
      refine aw_gR X hc_9 in_9 18 (by decide) LK_449 (fun _ _ _ _ h => h) d_M_crash_32 (h.mono (fun a32 h => ?_))
      refine aw_iload_n X 1 rfl d_M_crash_35 rfl ?_
      refine aw_iconst X (1) (by decide) d_M_crash_36 ?_
      refine aw_sZ X d_M_crash_37 (h.mono (fun M37 h => ?_))
      refine aw_iinc (y := x1 + 1) (lvn := [(1, _), (0, _)]) X 1 rfl d_M_crash_38 rfl (by decide) rfl ?_
      refine aw_goto (tgt := 23) X d_M_crash_41 (by decide) ?_
      refine aw_lv [1, 0] rfl ?_
      exact ih _ _ _ h
def wp_M_crash (post : Int32 → wM → Prop) (x0 : Option Ro) (M : wM) : Prop := gI M x0 9 23 (fun a2 => pF M x0 9 15 (vI a2) (fun M5 => gI M5 x0 9 15 (fun a10 => cV M5 x0 9 (wp_M_replay (fun M13 => pF M13 x0 9 25 (vI 0) (fun M18 => (∃ n, wp_M_crash_23 post n x0 1 M18))) x0 a10 M5))))
set_option maxRecDepth 100000 in
set_option maxHeartbeats 4000000 in
theorem sd_M_crash_0 (X : Cx p s m args meth c b_M_crash 2 R_M TBL D dA B zE) (hr : meth.sig.returnType = (some .int)) (hin : meth.name = y_M_crash.name) {post : Int32 → wM → Prop} {x0 : Option Ro} {M : wM} (h : wp_M_crash post x0 M) : AW p l e (headSpec w_M_crash rm_M_crash).room s m args below meth c (MQ below (QI D dA B zE M0 ad0 post) args s 0 0 (wA B)) D dA B zE 2 ad0 M0 M 0 0 0 [(0, vR x0)] [] := by
  unfold wp_M_crash at h
  refine aw_aload_n X 0 rfl d_M_crash_0 rfl ?_
  refine aw_aload_n X 0 rfl d_M_crash_1 rfl ?_
  refine aw_gI X hc_9 in_9 23 (by decide) LK_495 (fun _ _ _ _ h => h) d_M_crash_2 (h.mono (fun a2 h => ?_))
  refine aw_pF (ty := .int) X hc_9 in_9 15 (by decide) ty_9 tyok_9 nm_9 LK_465 (fun _ _ _ _ h => h) rfl (by decide +kernel) (fun _ => ⟨rfl, rfl⟩) d_M_crash_5 (h.mono (fun M5 h => ?_))
  refine aw_aload_n X 0 rfl d_M_crash_8 rfl ?_
  refine aw_aload_n X 0 rfl d_M_crash_9 rfl ?_
  refine aw_gI X hc_9 in_9 15 (by decide) LK_465 (fun _ _ _ _ h => h) d_M_crash_10 (h.mono (fun a10 h => ?_))
  obtain ⟨⟨r13, f13, e13, g13⟩, h⟩ := h
  cases e13
  refine aw_cVv X [_] (fun ad hlv => t_M_replay l hlv h) (cwV 1 X.hts (gd_V LK_501 LK_502 LK_503 LK_463 LK_code_M_replay) rfl rfl rfl (by decide +kernel) ⟨(Nat.le_of_ble_eq_true rfl), (Nat.le_of_ble_eq_true rfl)⟩) ⟨9, f13, _, g13, hc_9, rfl⟩ rfl rfl (Nat.le_of_ble_eq_true rfl) d_M_crash_13 ⟨(Nat.le_of_ble_eq_true rfl), (Nat.le_of_ble_eq_true rfl)⟩ (fun M13 h => ?_)
  refine aw_aload_n X 0 rfl d_M_crash_16 rfl ?_
  refine aw_iconst X (0) (by decide) d_M_crash_17 ?_
  refine aw_pF (ty := .int) X hc_9 in_9 25 (by decide) ty_9 tyok_9 nm_9 LK_500 (fun _ _ _ _ h => h) rfl (by decide +kernel) (fun _ => ⟨rfl, rfl⟩) d_M_crash_18 (h.mono (fun M18 h => ?_))
  refine aw_iconst X (1) (by decide) d_M_crash_21 ?_
  refine aw_istore_n (lvn := [(1, _), (0, _)]) X d_M_crash_22 rfl (by decide) rfl ?_
  refine aw_lv [1, 0] rfl ?_
  obtain ⟨n, h⟩ := h
  exact sd_M_crash_23 X hr hin n _ _ _ h
end
theorem t_M_crash (l : Launch) {D : va_G} {dA : Nat → ClassId} {B : Nat} {zE : ZT} {M : wM} {ad : Ro → Nat} {post : Int32 → wM → Prop} {x0 : Option Ro} (hlv : lvS M [vR x0]) (h : wp_M_crash post x0 M) : Met l y_M_crash w_M_crash rm_M_crash (PA D dA B zE M ad [vR x0]) (QI D dA B zE M ad post) 0 0 (wA B) :=
  AW_start [vR x0] [(0, vR x0)] hlv (by decide +kernel) rfl (fun _ hw => List.mem_cons_of_mem _ hw) rfl (Nat.le_of_ble_eq_true rfl) (fun p e s m args below meth c X hr hin => sd_M_crash_0 X hr hin h)
abbrev rm_M_answer : Room := { frames := 1, cells := 0, slots := 0, locals := 21 }
section
variable {p : Program} {l : Launch} {e : Env} {s : State} {m : MethodId} {args : Array Value} {below : List Frame} {meth : Method} {c : Code} {D : va_G} {dA : Nat → ClassId} {B : Nat} {zE : ZT} {ad0 : Ro → Nat} {M0 : wM}
def wp_M_answer_18 (post : Int32 → wM → Prop) (x0 : Option Ro) (x1 : Int32) (s0 : Int32) (M : wM) : Prop := post s0 M
set_option maxRecDepth 100000 in
set_option maxHeartbeats 4000000 in
theorem sd_M_answer_18 (X : Cx p s m args meth c b_M_answer 2 R_M TBL D dA B zE) (hr : meth.sig.returnType = (some .int)) (hin : meth.name = y_M_answer.name) {post : Int32 → wM → Prop} {x0 : Option Ro} {x1 : Int32} {s0 : Int32} {M : wM} (h : wp_M_answer_18 post x0 x1 s0 M) : AW p l e (headSpec w_M_answer rm_M_answer).room s m args below meth c (MQ below (QI D dA B zE M0 ad0 post) args s 0 0 (wA B)) D dA B zE 2 ad0 M0 M 0 0 18 [(0, vR x0), (1, vI x1)] [vI s0] := by
  unfold wp_M_answer_18 at h
  exact aw_iret X hr (Nat.le_of_ble_eq_true rfl) (Nat.le_of_ble_eq_true rfl) d_M_answer_18 h
def wp_M_answer (post : Int32 → wM → Prop) (x0 : Option Ro) (x1 : Int32) (M : wM) : Prop := wp_M_outside (fun a2 M2 => (a2 = 0 → gR M2 x0 9 27 (fun a13 => lI M2 a13 x1 (fun a17 => wp_M_answer_18 post x0 x1 a17 M2))) ∧ (¬ a2 = 0 → wp_M_answer_18 post x0 x1 (-1) M2)) x1 4 M
set_option maxRecDepth 100000 in
set_option maxHeartbeats 4000000 in
theorem sd_M_answer_0 (X : Cx p s m args meth c b_M_answer 2 R_M TBL D dA B zE) (hr : meth.sig.returnType = (some .int)) (hin : meth.name = y_M_answer.name) {post : Int32 → wM → Prop} {x0 : Option Ro} {x1 : Int32} {M : wM} (h : wp_M_answer post x0 x1 M) : AW p l e (headSpec w_M_answer rm_M_answer).room s m args below meth c (MQ below (QI D dA B zE M0 ad0 post) args s 0 0 (wA B)) D dA B zE 2 ad0 M0 M 0 0 0 [(0, vR x0), (1, vI x1)] [] := by
  unfold wp_M_answer at h
  refine aw_iload_n X 1 rfl d_M_answer_0 rfl ?_
  refine aw_iconst X (4) (by decide) d_M_answer_1 ?_
  refine aw_cSi X [_, _] (fun ad hlv => t_M_outside l hlv h) (cwS 2 X.hts (gd_S LK_461 LK_462 LK_463 LK_code_M_outside) rfl rfl rfl (by decide +kernel) ⟨(Nat.le_of_ble_eq_true rfl), (Nat.le_of_ble_eq_true rfl)⟩) rfl rfl (Nat.le_of_ble_eq_true rfl) d_M_answer_2 ⟨(Nat.le_of_ble_eq_true rfl), (Nat.le_of_ble_eq_true rfl)⟩ (fun a2 M2 h => ?_)
  refine aw_if_eq (tgt := 12) X d_M_answer_5 (by decide) (fun c => ?_) (fun c => ?_)
  · have h := h.1 c
    refine aw_aload_n X 0 rfl d_M_answer_12 rfl ?_
    refine aw_gR X hc_9 in_9 27 (by decide) LK_455 (fun _ _ _ _ h => h) d_M_answer_13 (h.mono (fun a13 h => ?_))
    refine aw_iload_n X 1 rfl d_M_answer_16 rfl ?_
    refine aw_lI X d_M_answer_17 (h.mono (fun a17 h => ?_))
    exact sd_M_answer_18 X hr hin h
  · have h := h.2 c
    refine aw_iconst X (-1) (by decide) d_M_answer_8 ?_
    refine aw_goto (tgt := 18) X d_M_answer_9 (by decide) ?_
    exact sd_M_answer_18 X hr hin h
end
theorem t_M_answer (l : Launch) {D : va_G} {dA : Nat → ClassId} {B : Nat} {zE : ZT} {M : wM} {ad : Ro → Nat} {post : Int32 → wM → Prop} {x0 : Option Ro} {x1 : Int32} (hlv : lvS M [vR x0, vI x1]) (h : wp_M_answer post x0 x1 M) : Met l y_M_answer w_M_answer rm_M_answer (PA D dA B zE M ad [vR x0, vI x1]) (QI D dA B zE M ad post) 0 0 (wA B) :=
  AW_start [vR x0, vI x1] [(0, vR x0), (1, vI x1)] hlv (by decide +kernel) rfl (fun _ hw => List.mem_cons_of_mem _ hw) rfl (Nat.le_of_ble_eq_true rfl) (fun p e s m args below meth c X hr hin => sd_M_answer_0 X hr hin h)
abbrev rm_M_output : Room := { frames := 1, cells := 0, slots := 0, locals := 21 }
section
variable {p : Program} {l : Launch} {e : Env} {s : State} {m : MethodId} {args : Array Value} {below : List Frame} {meth : Method} {c : Code} {D : va_G} {dA : Nat → ClassId} {B : Nat} {zE : ZT} {ad0 : Ro → Nat} {M0 : wM}
def wp_M_output_98 (post : Int64 → wM → Prop) (x0 : Option Ro) (x1 : Int32) (x2 : Int32) (s0 : Int64) (M : wM) : Prop := post s0 M
set_option maxRecDepth 100000 in
set_option maxHeartbeats 4000000 in
theorem sd_M_output_98 (X : Cx p s m args meth c b_M_output 3 R_M TBL D dA B zE) (hr : meth.sig.returnType = (some .long)) (hin : meth.name = y_M_output.name) {post : Int64 → wM → Prop} {x0 : Option Ro} {x1 : Int32} {x2 : Int32} {s0 : Int64} {M : wM} (h : wp_M_output_98 post x0 x1 x2 s0 M) : AW p l e (headSpec w_M_output rm_M_output).room s m args below meth c (MQ below (QL D dA B zE M0 ad0 post) args s 0 0 (wA B)) D dA B zE 3 ad0 M0 M 0 0 98 [(0, vR x0), (1, vI x1), (2, vI x2)] [vL s0] := by
  unfold wp_M_output_98 at h
  exact aw_lret X hr (Nat.le_of_ble_eq_true rfl) (Nat.le_of_ble_eq_true rfl) d_M_output_98 h
def wp_M_output_40 (post : Int64 → wM → Prop) (x0 : Option Ro) (x1 : Int32) (x2 : Int32) (s0 : Int64) (M : wM) : Prop := post s0 M
set_option maxRecDepth 100000 in
set_option maxHeartbeats 4000000 in
theorem sd_M_output_40 (X : Cx p s m args meth c b_M_output 3 R_M TBL D dA B zE) (hr : meth.sig.returnType = (some .long)) (hin : meth.name = y_M_output.name) {post : Int64 → wM → Prop} {x0 : Option Ro} {x1 : Int32} {x2 : Int32} {s0 : Int64} {M : wM} (h : wp_M_output_40 post x0 x1 x2 s0 M) : AW p l e (headSpec w_M_output rm_M_output).room s m args below meth c (MQ below (QL D dA B zE M0 ad0 post) args s 0 0 (wA B)) D dA B zE 3 ad0 M0 M 0 0 40 [(0, vR x0), (1, vI x1), (2, vI x2)] [vL s0] := by
  unfold wp_M_output_40 at h
  exact aw_lret X hr (Nat.le_of_ble_eq_true rfl) (Nat.le_of_ble_eq_true rfl) d_M_output_40 h
def wp_M_output (post : Int64 → wM → Prop) (x0 : Option Ro) (x1 : Int32) (x2 : Int32) (M : wM) : Prop := wp_M_outside (fun a2 M2 => (a2 = 0 → gR M2 x0 9 27 (fun a13 => lI M2 a13 x1 (fun a17 => (¬ a17 = (3 : Int32) → gR M2 x0 9 27 (fun a42 => lI M2 a42 x1 (fun a46 => (a46 = (2 : Int32) → (¬ x2 = ((-1) : Int32) → gR M2 x0 9 29 (fun a70 => lI M2 a70 x1 (fun a74 => wp_M_outside (fun a75 M75 => (a75 = 0 → gR M75 x0 9 30 (fun a88 => lI M75 a88 ((4 * x1) + x2) (fun a96 => wp_M_output_98 post x0 x1 x2 a96.toInt64 M75))) ∧ (¬ a75 = 0 → wp_M_output_98 post x0 x1 x2 (1000000000000) M75)) x2 a74 M2))) ∧ (x2 = ((-1) : Int32) → gR M2 x0 9 29 (fun a61 => lI M2 a61 x1 (fun a65 => post a65.toInt64 M2)))) ∧ (¬ a46 = (2 : Int32) → post (1000000000000) M2)))) ∧ (a17 = (3 : Int32) → (¬ x2 = ((-1) : Int32) → wp_M_output_40 post x0 x1 x2 (1000000000000) M2) ∧ (x2 = ((-1) : Int32) → gR M2 x0 9 31 (fun a28 => lI M2 a28 x1 (fun a32 => wp_M_output_40 post x0 x1 x2 a32.toInt64 M2))))))) ∧ (¬ a2 = 0 → post (1000000000000) M2)) x1 4 M
set_option maxRecDepth 100000 in
set_option maxHeartbeats 4000000 in
theorem sd_M_output_0 (X : Cx p s m args meth c b_M_output 3 R_M TBL D dA B zE) (hr : meth.sig.returnType = (some .long)) (hin : meth.name = y_M_output.name) {post : Int64 → wM → Prop} {x0 : Option Ro} {x1 : Int32} {x2 : Int32} {M : wM} (h : wp_M_output post x0 x1 x2 M) : AW p l e (headSpec w_M_output rm_M_output).room s m args below meth c (MQ below (QL D dA B zE M0 ad0 post) args s 0 0 (wA B)) D dA B zE 3 ad0 M0 M 0 0 0 [(0, vR x0), (1, vI x1), (2, vI x2)] [] := by
  unfold wp_M_output at h
  refine aw_iload_n X 1 rfl d_M_output_0 rfl ?_
  refine aw_iconst X (4) (by decide) d_M_output_1 ?_
  refine aw_cSi X [_, _] (fun ad hlv => t_M_outside l hlv h) (cwS 2 X.hts (gd_S LK_461 LK_462 LK_463 LK_code_M_outside) rfl rfl rfl (by decide +kernel) ⟨(Nat.le_of_ble_eq_true rfl), (Nat.le_of_ble_eq_true rfl)⟩) rfl rfl (Nat.le_of_ble_eq_true rfl) d_M_output_2 ⟨(Nat.le_of_ble_eq_true rfl), (Nat.le_of_ble_eq_true rfl)⟩ (fun a2 M2 h => ?_)
  refine aw_if_eq (tgt := 12) X d_M_output_5 (by decide) (fun c => ?_) (fun c => ?_)
  · have h := h.1 c
    refine aw_aload_n X 0 rfl d_M_output_12 rfl ?_
    refine aw_gR X hc_9 in_9 27 (by decide) LK_455 (fun _ _ _ _ h => h) d_M_output_13 (h.mono (fun a13 h => ?_))
    refine aw_iload_n X 1 rfl d_M_output_16 rfl ?_
    refine aw_lI X d_M_output_17 (h.mono (fun a17 h => ?_))
    refine aw_iconst X (3) (by decide) d_M_output_18 ?_
    refine aw_icmp_ne (tgt := 41) X d_M_output_19 (by decide) (fun c => ?_) (fun c => ?_)
    · have h := h.1 c
      refine aw_aload_n X 0 rfl d_M_output_41 rfl ?_
      refine aw_gR X hc_9 in_9 27 (by decide) LK_455 (fun _ _ _ _ h => h) d_M_output_42 (h.mono (fun a42 h => ?_))
      refine aw_iload_n X 1 rfl d_M_output_45 rfl ?_
      refine aw_lI X d_M_output_46 (h.mono (fun a46 h => ?_))
      refine aw_iconst X (2) (by decide) d_M_output_47 ?_
      refine aw_icmp_eq (tgt := 55) X d_M_output_48 (by decide) (fun c => ?_) (fun c => ?_)
      · have h := h.1 c
        refine aw_iload_n X 2 rfl d_M_output_55 rfl ?_
        refine aw_iconst X (-1) (by decide) d_M_output_56 ?_
        refine aw_icmp_ne (tgt := 68) X d_M_output_57 (by decide) (fun c => ?_) (fun c => ?_)
        · have h := h.1 c
          refine aw_iload_n X 2 rfl d_M_output_68 rfl ?_
          refine aw_aload_n X 0 rfl d_M_output_69 rfl ?_
          refine aw_gR X hc_9 in_9 29 (by decide) LK_457 (fun _ _ _ _ h => h) d_M_output_70 (h.mono (fun a70 h => ?_))
          refine aw_iload_n X 1 rfl d_M_output_73 rfl ?_
          refine aw_lI X d_M_output_74 (h.mono (fun a74 h => ?_))
          refine aw_cSi X [_, _] (fun ad hlv => t_M_outside l hlv h) (cwS 2 X.hts (gd_S LK_461 LK_462 LK_463 LK_code_M_outside) rfl rfl rfl (by decide +kernel) ⟨(Nat.le_of_ble_eq_true rfl), (Nat.le_of_ble_eq_true rfl)⟩) rfl rfl (Nat.le_of_ble_eq_true rfl) d_M_output_75 ⟨(Nat.le_of_ble_eq_true rfl), (Nat.le_of_ble_eq_true rfl)⟩ (fun a75 M75 h => ?_)
          refine aw_if_eq (tgt := 87) X d_M_output_78 (by decide) (fun c => ?_) (fun c => ?_)
          · have h := h.1 c
            refine aw_aload_n X 0 rfl d_M_output_87 rfl ?_
            refine aw_gR X hc_9 in_9 30 (by decide) LK_458 (fun _ _ _ _ h => h) d_M_output_88 (h.mono (fun a88 h => ?_))
            refine aw_iconst X (4) (by decide) d_M_output_91 ?_
            refine aw_iload_n X 1 rfl d_M_output_92 rfl ?_
            refine aw_imul X d_M_output_93 ?_
            refine aw_iload_n X 2 rfl d_M_output_94 rfl ?_
            refine aw_iadd X d_M_output_95 ?_
            refine aw_lI X d_M_output_96 (h.mono (fun a96 h => ?_))
            refine aw_i2l X d_M_output_97 ?_
            exact sd_M_output_98 X hr hin h
          · have h := h.2 c
            refine aw_ldc2 X LK_517 d_M_output_81 ?_
            refine aw_goto (tgt := 98) X d_M_output_84 (by decide) ?_
            exact sd_M_output_98 X hr hin h
        · have h := h.2 c
          refine aw_aload_n X 0 rfl d_M_output_60 rfl ?_
          refine aw_gR X hc_9 in_9 29 (by decide) LK_457 (fun _ _ _ _ h => h) d_M_output_61 (h.mono (fun a61 h => ?_))
          refine aw_iload_n X 1 rfl d_M_output_64 rfl ?_
          refine aw_lI X d_M_output_65 (h.mono (fun a65 h => ?_))
          refine aw_i2l X d_M_output_66 ?_
          exact aw_lret X hr (Nat.le_of_ble_eq_true rfl) (Nat.le_of_ble_eq_true rfl) d_M_output_67 h
      · have h := h.2 c
        refine aw_ldc2 X LK_517 d_M_output_51 ?_
        exact aw_lret X hr (Nat.le_of_ble_eq_true rfl) (Nat.le_of_ble_eq_true rfl) d_M_output_54 h
    · have h := h.2 c
      refine aw_iload_n X 2 rfl d_M_output_22 rfl ?_
      refine aw_iconst X (-1) (by decide) d_M_output_23 ?_
      refine aw_icmp_ne (tgt := 37) X d_M_output_24 (by decide) (fun c => ?_) (fun c => ?_)
      · have h := h.1 c
        refine aw_ldc2 X LK_517 d_M_output_37 ?_
        exact sd_M_output_40 X hr hin h
      · have h := h.2 c
        refine aw_aload_n X 0 rfl d_M_output_27 rfl ?_
        refine aw_gR X hc_9 in_9 31 (by decide) LK_459 (fun _ _ _ _ h => h) d_M_output_28 (h.mono (fun a28 h => ?_))
        refine aw_iload_n X 1 rfl d_M_output_31 rfl ?_
        refine aw_lI X d_M_output_32 (h.mono (fun a32 h => ?_))
        refine aw_i2l X d_M_output_33 ?_
        refine aw_goto (tgt := 40) X d_M_output_34 (by decide) ?_
        exact sd_M_output_40 X hr hin h
  · have h := h.2 c
    refine aw_ldc2 X LK_517 d_M_output_8 ?_
    exact aw_lret X hr (Nat.le_of_ble_eq_true rfl) (Nat.le_of_ble_eq_true rfl) d_M_output_11 h
end
theorem t_M_output (l : Launch) {D : va_G} {dA : Nat → ClassId} {B : Nat} {zE : ZT} {M : wM} {ad : Ro → Nat} {post : Int64 → wM → Prop} {x0 : Option Ro} {x1 : Int32} {x2 : Int32} (hlv : lvS M [vR x0, vI x1, vI x2]) (h : wp_M_output post x0 x1 x2 M) : Met l y_M_output w_M_output rm_M_output (PA D dA B zE M ad [vR x0, vI x1, vI x2]) (QL D dA B zE M ad post) 0 0 (wA B) :=
  AW_start [vR x0, vI x1, vI x2] [(0, vR x0), (1, vI x1), (2, vI x2)] hlv (by decide +kernel) rfl (fun _ hw => List.mem_cons_of_mem _ hw) rfl (Nat.le_of_ble_eq_true rfl) (fun p e s m args below meth c X hr hin => sd_M_output_0 X hr hin h)
abbrev rm_M_row : Room := { frames := 1, cells := 0, slots := 0, locals := 21 }
section
variable {p : Program} {l : Launch} {e : Env} {s : State} {m : MethodId} {args : Array Value} {below : List Frame} {meth : Method} {c : Code} {D : va_G} {dA : Nat → ClassId} {B : Nat} {zE : ZT} {ad0 : Ro → Nat} {M0 : wM}
def wp_M_row_31 (post : Int64 → wM → Prop) (x0 : Option Ro) (x1 : Int32) (s0 : Int64) (M : wM) : Prop := post s0 M
set_option maxRecDepth 100000 in
set_option maxHeartbeats 4000000 in
theorem sd_M_row_31 (X : Cx p s m args meth c b_M_row 2 R_M TBL D dA B zE) (hr : meth.sig.returnType = (some .long)) (hin : meth.name = y_M_row.name) {post : Int64 → wM → Prop} {x0 : Option Ro} {x1 : Int32} {s0 : Int64} {M : wM} (h : wp_M_row_31 post x0 x1 s0 M) : AW p l e (headSpec w_M_row rm_M_row).room s m args below meth c (MQ below (QL D dA B zE M0 ad0 post) args s 0 0 (wA B)) D dA B zE 2 ad0 M0 M 0 0 31 [(0, vR x0), (1, vI x1)] [vL s0] := by
  unfold wp_M_row_31 at h
  exact aw_lret X hr (Nat.le_of_ble_eq_true rfl) (Nat.le_of_ble_eq_true rfl) d_M_row_31 h
def wp_M_row_18 (post : Int64 → wM → Prop) (x0 : Option Ro) (x1 : Int32) (M : wM) : Prop := wp_M_row_31 post x0 x1 (1000000000000) M
set_option maxRecDepth 100000 in
set_option maxHeartbeats 4000000 in
theorem sd_M_row_18 (X : Cx p s m args meth c b_M_row 2 R_M TBL D dA B zE) (hr : meth.sig.returnType = (some .long)) (hin : meth.name = y_M_row.name) {post : Int64 → wM → Prop} {x0 : Option Ro} {x1 : Int32} {M : wM} (h : wp_M_row_18 post x0 x1 M) : AW p l e (headSpec w_M_row rm_M_row).room s m args below meth c (MQ below (QL D dA B zE M0 ad0 post) args s 0 0 (wA B)) D dA B zE 2 ad0 M0 M 0 0 18 [(0, vR x0), (1, vI x1)] [] := by
  unfold wp_M_row_18 at h
  refine aw_ldc2 X LK_517 d_M_row_18 ?_
  refine aw_goto (tgt := 31) X d_M_row_21 (by decide) ?_
  exact sd_M_row_31 X hr hin h
def wp_M_row (post : Int64 → wM → Prop) (x0 : Option Ro) (x1 : Int32) (M : wM) : Prop := wp_M_outside (fun a3 M3 => (¬ a3 = 0 → wp_M_row_18 post x0 x1 M3) ∧ (a3 = 0 → gR M3 x0 9 1 (fun a10 => lZ M3 a10 x1 (fun a14 => (¬ a14 = 0 → gR M3 x0 9 2 (fun a25 => lI M3 a25 x1 (fun a29 => wp_M_row_31 post x0 x1 a29.toInt64 M3))) ∧ (a14 = 0 → wp_M_row_18 post x0 x1 M3))))) x1 32 M
set_option maxRecDepth 100000 in
set_option maxHeartbeats 4000000 in
theorem sd_M_row_0 (X : Cx p s m args meth c b_M_row 2 R_M TBL D dA B zE) (hr : meth.sig.returnType = (some .long)) (hin : meth.name = y_M_row.name) {post : Int64 → wM → Prop} {x0 : Option Ro} {x1 : Int32} {M : wM} (h : wp_M_row post x0 x1 M) : AW p l e (headSpec w_M_row rm_M_row).room s m args below meth c (MQ below (QL D dA B zE M0 ad0 post) args s 0 0 (wA B)) D dA B zE 2 ad0 M0 M 0 0 0 [(0, vR x0), (1, vI x1)] [] := by
  unfold wp_M_row at h
  refine aw_iload_n X 1 rfl d_M_row_0 rfl ?_
  refine aw_bipush X (32) (by decide) d_M_row_1 ?_
  refine aw_cSi X [_, _] (fun ad hlv => t_M_outside l hlv h) (cwS 2 X.hts (gd_S LK_461 LK_462 LK_463 LK_code_M_outside) rfl rfl rfl (by decide +kernel) ⟨(Nat.le_of_ble_eq_true rfl), (Nat.le_of_ble_eq_true rfl)⟩) rfl rfl (Nat.le_of_ble_eq_true rfl) d_M_row_3 ⟨(Nat.le_of_ble_eq_true rfl), (Nat.le_of_ble_eq_true rfl)⟩ (fun a3 M3 h => ?_)
  refine aw_if_ne (tgt := 18) X d_M_row_6 (by decide) (fun c => ?_) (fun c => ?_)
  · have h := h.1 c
    exact sd_M_row_18 X hr hin h
  · have h := h.2 c
    refine aw_aload_n X 0 rfl d_M_row_9 rfl ?_
    refine aw_gR X hc_9 in_9 1 (by decide) LK_433 (fun _ _ _ _ h => h) d_M_row_10 (h.mono (fun a10 h => ?_))
    refine aw_iload_n X 1 rfl d_M_row_13 rfl ?_
    refine aw_lZ X d_M_row_14 (h.mono (fun a14 h => ?_))
    refine aw_if_ne (tgt := 24) X d_M_row_15 (by decide) (fun c => ?_) (fun c => ?_)
    · have h := h.1 c
      refine aw_aload_n X 0 rfl d_M_row_24 rfl ?_
      refine aw_gR X hc_9 in_9 2 (by decide) LK_434 (fun _ _ _ _ h => h) d_M_row_25 (h.mono (fun a25 h => ?_))
      refine aw_iload_n X 1 rfl d_M_row_28 rfl ?_
      refine aw_lI X d_M_row_29 (h.mono (fun a29 h => ?_))
      refine aw_i2l X d_M_row_30 ?_
      exact sd_M_row_31 X hr hin h
    · have h := h.2 c
      exact sd_M_row_18 X hr hin h
end
theorem t_M_row (l : Launch) {D : va_G} {dA : Nat → ClassId} {B : Nat} {zE : ZT} {M : wM} {ad : Ro → Nat} {post : Int64 → wM → Prop} {x0 : Option Ro} {x1 : Int32} (hlv : lvS M [vR x0, vI x1]) (h : wp_M_row post x0 x1 M) : Met l y_M_row w_M_row rm_M_row (PA D dA B zE M ad [vR x0, vI x1]) (QL D dA B zE M ad post) 0 0 (wA B) :=
  AW_start [vR x0, vI x1] [(0, vR x0), (1, vI x1)] hlv (by decide +kernel) rfl (fun _ hw => List.mem_cons_of_mem _ hw) rfl (Nat.le_of_ble_eq_true rfl) (fun p e s m args below meth c X hr hin => sd_M_row_0 X hr hin h)
abbrev rm_M_replicated : Room := { frames := 1, cells := 0, slots := 0, locals := 21 }
section
variable {p : Program} {l : Launch} {e : Env} {s : State} {m : MethodId} {args : Array Value} {below : List Frame} {meth : Method} {c : Code} {D : va_G} {dA : Nat → ClassId} {B : Nat} {zE : ZT} {ad0 : Ro → Nat} {M0 : wM}
def wp_M_replicated_25 (post : Int64 → wM → Prop) (x0 : Option Ro) (x1 : Int32) (s0 : Int64) (M : wM) : Prop := post s0 M
set_option maxRecDepth 100000 in
set_option maxHeartbeats 4000000 in
theorem sd_M_replicated_25 (X : Cx p s m args meth c b_M_replicated 2 R_M TBL D dA B zE) (hr : meth.sig.returnType = (some .long)) (hin : meth.name = y_M_replicated.name) {post : Int64 → wM → Prop} {x0 : Option Ro} {x1 : Int32} {s0 : Int64} {M : wM} (h : wp_M_replicated_25 post x0 x1 s0 M) : AW p l e (headSpec w_M_replicated rm_M_replicated).room s m args below meth c (MQ below (QL D dA B zE M0 ad0 post) args s 0 0 (wA B)) D dA B zE 2 ad0 M0 M 0 0 25 [(0, vR x0), (1, vI x1)] [vL s0] := by
  unfold wp_M_replicated_25 at h
  exact aw_lret X hr (Nat.le_of_ble_eq_true rfl) (Nat.le_of_ble_eq_true rfl) d_M_replicated_25 h
def wp_M_replicated (post : Int64 → wM → Prop) (x0 : Option Ro) (x1 : Int32) (M : wM) : Prop := wp_M_outside (fun a3 M3 => (a3 = 0 → gR M3 x0 9 2 (fun a16 => lI M3 a16 (32 + x1) (fun a23 => wp_M_replicated_25 post x0 x1 a23.toInt64 M3))) ∧ (¬ a3 = 0 → wp_M_replicated_25 post x0 x1 (1000000000000) M3)) x1 8 M
set_option maxRecDepth 100000 in
set_option maxHeartbeats 4000000 in
theorem sd_M_replicated_0 (X : Cx p s m args meth c b_M_replicated 2 R_M TBL D dA B zE) (hr : meth.sig.returnType = (some .long)) (hin : meth.name = y_M_replicated.name) {post : Int64 → wM → Prop} {x0 : Option Ro} {x1 : Int32} {M : wM} (h : wp_M_replicated post x0 x1 M) : AW p l e (headSpec w_M_replicated rm_M_replicated).room s m args below meth c (MQ below (QL D dA B zE M0 ad0 post) args s 0 0 (wA B)) D dA B zE 2 ad0 M0 M 0 0 0 [(0, vR x0), (1, vI x1)] [] := by
  unfold wp_M_replicated at h
  refine aw_iload_n X 1 rfl d_M_replicated_0 rfl ?_
  refine aw_bipush X (8) (by decide) d_M_replicated_1 ?_
  refine aw_cSi X [_, _] (fun ad hlv => t_M_outside l hlv h) (cwS 2 X.hts (gd_S LK_461 LK_462 LK_463 LK_code_M_outside) rfl rfl rfl (by decide +kernel) ⟨(Nat.le_of_ble_eq_true rfl), (Nat.le_of_ble_eq_true rfl)⟩) rfl rfl (Nat.le_of_ble_eq_true rfl) d_M_replicated_3 ⟨(Nat.le_of_ble_eq_true rfl), (Nat.le_of_ble_eq_true rfl)⟩ (fun a3 M3 h => ?_)
  refine aw_if_eq (tgt := 15) X d_M_replicated_6 (by decide) (fun c => ?_) (fun c => ?_)
  · have h := h.1 c
    refine aw_aload_n X 0 rfl d_M_replicated_15 rfl ?_
    refine aw_gR X hc_9 in_9 2 (by decide) LK_434 (fun _ _ _ _ h => h) d_M_replicated_16 (h.mono (fun a16 h => ?_))
    refine aw_bipush X (32) (by decide) d_M_replicated_19 ?_
    refine aw_iload_n X 1 rfl d_M_replicated_21 rfl ?_
    refine aw_iadd X d_M_replicated_22 ?_
    refine aw_lI X d_M_replicated_23 (h.mono (fun a23 h => ?_))
    refine aw_i2l X d_M_replicated_24 ?_
    exact sd_M_replicated_25 X hr hin h
  · have h := h.2 c
    refine aw_ldc2 X LK_517 d_M_replicated_9 ?_
    refine aw_goto (tgt := 25) X d_M_replicated_12 (by decide) ?_
    exact sd_M_replicated_25 X hr hin h
end
theorem t_M_replicated (l : Launch) {D : va_G} {dA : Nat → ClassId} {B : Nat} {zE : ZT} {M : wM} {ad : Ro → Nat} {post : Int64 → wM → Prop} {x0 : Option Ro} {x1 : Int32} (hlv : lvS M [vR x0, vI x1]) (h : wp_M_replicated post x0 x1 M) : Met l y_M_replicated w_M_replicated rm_M_replicated (PA D dA B zE M ad [vR x0, vI x1]) (QL D dA B zE M ad post) 0 0 (wA B) :=
  AW_start [vR x0, vI x1] [(0, vR x0), (1, vI x1)] hlv (by decide +kernel) rfl (fun _ hw => List.mem_cons_of_mem _ hw) rfl (Nat.le_of_ble_eq_true rfl) (fun p e s m args below meth c X hr hin => sd_M_replicated_0 X hr hin h)
abbrev rm_M_waiting : Room := { frames := 2, cells := 0, slots := 0, locals := 44 }
section
variable {p : Program} {l : Launch} {e : Env} {s : State} {m : MethodId} {args : Array Value} {below : List Frame} {meth : Method} {c : Code} {D : va_G} {dA : Nat → ClassId} {B : Nat} {zE : ZT} {ad0 : Ro → Nat} {M0 : wM}
def wp_M_waiting_37 (post : Int32 → wM → Prop) (k17 : Option Ro → Int32 → Int32 → Int32 → wM → Prop) (x0 : Option Ro) (x1 : Int32) (x2 : Int32) (x3 : Int32) (M : wM) : Prop := k17 x0 x1 x2 (x3 + 1) M
set_option maxRecDepth 100000 in
set_option maxHeartbeats 4000000 in
theorem sd_M_waiting_37 (X : Cx p s m args meth c b_M_waiting 4 R_M TBL D dA B zE) (hr : meth.sig.returnType = (some .int)) (hin : meth.name = y_M_waiting.name) {post : Int32 → wM → Prop} {k17 : Option Ro → Int32 → Int32 → Int32 → wM → Prop} (hk17 : ∀ (x0 : Option Ro) (x1 : Int32) (x2 : Int32) (x3 : Int32) (M : wM), k17 x0 x1 x2 x3 M → AW p l e (headSpec w_M_waiting rm_M_waiting).room s m args below meth c (MQ below (QI D dA B zE M0 ad0 post) args s 0 0 (wA B)) D dA B zE 4 ad0 M0 M 0 0 17 [(0, vR x0), (1, vI x1), (2, vI x2), (3, vI x3)] []) {x0 : Option Ro} {x1 : Int32} {x2 : Int32} {x3 : Int32} {M : wM} (h : wp_M_waiting_37 post k17 x0 x1 x2 x3 M) : AW p l e (headSpec w_M_waiting rm_M_waiting).room s m args below meth c (MQ below (QI D dA B zE M0 ad0 post) args s 0 0 (wA B)) D dA B zE 4 ad0 M0 M 0 0 37 [(0, vR x0), (1, vI x1), (2, vI x2), (3, vI x3)] [] := by
  unfold wp_M_waiting_37 at h
  refine aw_iinc (y := x3 + 1) (lvn := [(3, _), (0, _), (1, _), (2, _)]) X 3 rfl d_M_waiting_37 rfl (by decide) rfl ?_
  refine aw_goto (tgt := 17) X d_M_waiting_40 (by decide) ?_
  refine aw_lv [1, 2, 3, 0] rfl ?_
  exact hk17 _ _ _ _ _ h
def wp_M_waiting_17 (post : Int32 → wM → Prop) : Nat → Option Ro → Int32 → Int32 → Int32 → wM → Prop
  | 0, _, _, _, _, _ => False
  | n + 1, x0, x1, x2, x3, M => gI M x0 9 15 (fun a19 => (a19 < x3 → post x2 M) ∧ (¬ a19 < x3 → cV M x0 9 (wp_M_waits (fun a28 M28 => (a28 = 0 → wp_M_waiting_37 post (fun x0 x1 x2 x3 M => wp_M_waiting_17 post n x0 x1 x2 x3 M) x0 x1 x2 x3 M28) ∧ (¬ a28 = 0 → wp_M_waiting_37 post (fun x0 x1 x2 x3 M => wp_M_waiting_17 post n x0 x1 x2 x3 M) x0 x1 (x2 + 1) x3 M28)) x0 x1 x3 M)))
set_option maxRecDepth 100000 in
set_option maxHeartbeats 4000000 in
theorem sd_M_waiting_17 (X : Cx p s m args meth c b_M_waiting 4 R_M TBL D dA B zE) (hr : meth.sig.returnType = (some .int)) (hin : meth.name = y_M_waiting.name) {post : Int32 → wM → Prop} : ∀ (n : Nat) (x0 : Option Ro) (x1 : Int32) (x2 : Int32) (x3 : Int32) (M : wM), wp_M_waiting_17 post n x0 x1 x2 x3 M → AW p l e (headSpec w_M_waiting rm_M_waiting).room s m args below meth c (MQ below (QI D dA B zE M0 ad0 post) args s 0 0 (wA B)) D dA B zE 4 ad0 M0 M 0 0 17 [(0, vR x0), (1, vI x1), (2, vI x2), (3, vI x3)] [] := by
  intro n
  induction n with
  | zero => intro x0 x1 x2 x3 M h; exact h.elim
  | succ n ih =>
    intro x0 x1 x2 x3 M h
    unfold wp_M_waiting_17 at h
    refine aw_iload_n X 3 rfl d_M_waiting_17 rfl ?_
    refine aw_aload_n X 0 rfl d_M_waiting_18 rfl ?_
    refine aw_gI X hc_9 in_9 15 (by decide) LK_465 (fun _ _ _ _ h => h) d_M_waiting_19 (h.mono (fun a19 h => ?_))
    refine aw_icmp_gt (tgt := 43) X d_M_waiting_22 (by decide) (fun c => ?_) (fun c => ?_)
    · have h := h.1 c
      refine aw_iload_n X 2 rfl d_M_waiting_43 rfl ?_
      exact aw_iret X hr (Nat.le_of_ble_eq_true rfl) (Nat.le_of_ble_eq_true rfl) d_M_waiting_44 h
    · have h := h.2 c
      refine aw_aload_n X 0 rfl d_M_waiting_25 rfl ?_
      refine aw_iload_n X 1 rfl d_M_waiting_26 rfl ?_
      refine aw_iload_n X 3 rfl d_M_waiting_27 rfl ?_
      obtain ⟨⟨r28, f28, e28, g28⟩, h⟩ := h
      cases e28
      refine aw_cVi X [_, _] (fun ad hlv => t_M_waits l hlv h) (cwV 2 X.hts (gd_V LK_513 LK_514 LK_515 LK_463 LK_code_M_waits) rfl rfl rfl (by decide +kernel) ⟨(Nat.le_of_ble_eq_true rfl), (Nat.le_of_ble_eq_true rfl)⟩) ⟨9, f28, _, g28, hc_9, rfl⟩ rfl rfl (Nat.le_of_ble_eq_true rfl) d_M_waiting_28 ⟨(Nat.le_of_ble_eq_true rfl), (Nat.le_of_ble_eq_true rfl)⟩ (fun a28 M28 h => ?_)
      refine aw_if_eq (tgt := 37) X d_M_waiting_31 (by decide) (fun c => ?_) (fun c => ?_)
      · have h := h.1 c
        exact sd_M_waiting_37 X hr hin ih h
      · have h := h.2 c
        refine aw_iinc (y := x2 + 1) (lvn := [(2, _), (0, _), (1, _), (3, _)]) X 2 rfl d_M_waiting_34 rfl (by decide) rfl ?_
        refine aw_lv [1, 2, 0, 3] rfl ?_
        exact sd_M_waiting_37 X hr hin ih h
def wp_M_waiting (post : Int32 → wM → Prop) (x0 : Option Ro) (x1 : Int32) (M : wM) : Prop := gI M x0 9 0 (fun a2 => wp_M_outside (fun a5 M5 => (a5 = 0 → (∃ n, wp_M_waiting_17 post n x0 x1 0 1 M5)) ∧ (¬ a5 = 0 → post (-1) M5)) x1 a2 M)
set_option maxRecDepth 100000 in
set_option maxHeartbeats 4000000 in
theorem sd_M_waiting_0 (X : Cx p s m args meth c b_M_waiting 4 R_M TBL D dA B zE) (hr : meth.sig.returnType = (some .int)) (hin : meth.name = y_M_waiting.name) {post : Int32 → wM → Prop} {x0 : Option Ro} {x1 : Int32} {M : wM} (h : wp_M_waiting post x0 x1 M) : AW p l e (headSpec w_M_waiting rm_M_waiting).room s m args below meth c (MQ below (QI D dA B zE M0 ad0 post) args s 0 0 (wA B)) D dA B zE 4 ad0 M0 M 0 0 0 [(0, vR x0), (1, vI x1)] [] := by
  unfold wp_M_waiting at h
  refine aw_iload_n X 1 rfl d_M_waiting_0 rfl ?_
  refine aw_aload_n X 0 rfl d_M_waiting_1 rfl ?_
  refine aw_gI X hc_9 in_9 0 (by decide) LK_430 (fun _ _ _ _ h => h) d_M_waiting_2 (h.mono (fun a2 h => ?_))
  refine aw_cSi X [_, _] (fun ad hlv => t_M_outside l hlv h) (cwS 2 X.hts (gd_S LK_461 LK_462 LK_463 LK_code_M_outside) rfl rfl rfl (by decide +kernel) ⟨(Nat.le_of_ble_eq_true rfl), (Nat.le_of_ble_eq_true rfl)⟩) rfl rfl (Nat.le_of_ble_eq_true rfl) d_M_waiting_5 ⟨(Nat.le_of_ble_eq_true rfl), (Nat.le_of_ble_eq_true rfl)⟩ (fun a5 M5 h => ?_)
  refine aw_if_eq (tgt := 13) X d_M_waiting_8 (by decide) (fun c => ?_) (fun c => ?_)
  · have h := h.1 c
    refine aw_iconst X (0) (by decide) d_M_waiting_13 ?_
    refine aw_istore_n (lvn := [(2, _), (0, _), (1, _)]) X d_M_waiting_14 rfl (by decide) rfl ?_
    refine aw_iconst X (1) (by decide) d_M_waiting_15 ?_
    refine aw_istore_n (lvn := [(3, _), (2, _), (0, _), (1, _)]) X d_M_waiting_16 rfl (by decide) rfl ?_
    refine aw_lv [2, 3, 1, 0] rfl ?_
    obtain ⟨n, h⟩ := h
    exact sd_M_waiting_17 X hr hin n _ _ _ _ _ h
  · have h := h.2 c
    refine aw_iconst X (-1) (by decide) d_M_waiting_11 ?_
    exact aw_iret X hr (Nat.le_of_ble_eq_true rfl) (Nat.le_of_ble_eq_true rfl) d_M_waiting_12 h
end
theorem t_M_waiting (l : Launch) {D : va_G} {dA : Nat → ClassId} {B : Nat} {zE : ZT} {M : wM} {ad : Ro → Nat} {post : Int32 → wM → Prop} {x0 : Option Ro} {x1 : Int32} (hlv : lvS M [vR x0, vI x1]) (h : wp_M_waiting post x0 x1 M) : Met l y_M_waiting w_M_waiting rm_M_waiting (PA D dA B zE M ad [vR x0, vI x1]) (QI D dA B zE M ad post) 0 0 (wA B) :=
  AW_start [vR x0, vI x1] [(0, vR x0), (1, vI x1)] hlv (by decide +kernel) rfl (fun _ hw => List.mem_cons_of_mem _ hw) rfl (Nat.le_of_ble_eq_true rfl) (fun p e s m args below meth c X hr hin => sd_M_waiting_0 X hr hin h)
