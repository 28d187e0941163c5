def fw_M_rows_20 (Q : Int32 → RA → RF → Prop) (x1 : Int32) (s0 : Int32) (A : RA) (F : RF) : Prop := Q s0 A F
set_option maxRecDepth 100000 in
set_option maxHeartbeats 4000000 in
theorem fs_M_rows_20 {N : wM} {Q : Int32 → RA → RF → Prop} {post : Int32 → wM → Prop} {M : wM} (k : ∀ r A F M, RM N A F M → Q r A F → post r M) {x1 : Int32} {s0 : Int32} {A : RA} {F : RF} (h : RM N A F M) (hf : fw_M_rows_20 Q x1 s0 A F) : wp_M_rows_20 post (some (40, 0)) x1 s0 M := by
  unfold fw_M_rows_20 at hf
  unfold wp_M_rows_20
  exact k _ _ _ _ h hf
def fw_M_rows (Q : Int32 → RA → RF → Prop) (x1 : Int32) (A : RA) (F : RF) : Prop := fw_M_outside (fun a5 => (a5 = 0 → fw_M_rowsOf (fun a17 A17 F17 => fw_M_rows_20 Q x1 a17 A17 F17) x1 A F) ∧ (¬ a5 = 0 → fw_M_rows_20 Q x1 (-1) A F)) x1 (F 0)
set_option maxRecDepth 100000 in
set_option maxHeartbeats 4000000 in
theorem fs_M_rows {N : wM} {Q : Int32 → RA → RF → Prop} {post : Int32 → wM → Prop} {x1 : Int32} {A : RA} {F : RF} {M : wM} (h : RM N A F M) (hf : fw_M_rows Q x1 A F) (k : ∀ r A F M, RM N A F M → Q r A F → post r M) : wp_M_rows post (some (40, 0)) x1 M := by
  unfold fw_M_rows at hf
  unfold wp_M_rows
  refine r_gI h rfl ?_
  refine fs_M_outside hf (fun a5 hf => ?_)
  refine ⟨fun c => ?_, fun c => ?_⟩
  · have hf := hf.1 c
    refine ⟨⟨_, _, rfl, h.1⟩, ?_⟩
    refine fs_M_rowsOf h hf (fun a17 A17 F17 M h hf => ?_)
    exact fs_M_rows_20 k h hf
  · have hf := hf.2 c
    exact fs_M_rows_20 k h hf
def fw_M_stalledAt_53 (Q : Int32 → RA → RF → Prop) (k2 : Int32 → RA → RF → Prop) (x1 : Int32) (A : RA) (F : RF) : Prop := k2 (x1 + 1) A F
set_option maxRecDepth 100000 in
set_option maxHeartbeats 4000000 in
theorem fs_M_stalledAt_53 {N : wM} {Q : Int32 → RA → RF → Prop} {post : Int32 → wM → Prop} {M : wM} (k : ∀ r A F M, RM N A F M → Q r A F → post r M) {k2 : Int32 → RA → RF → Prop} {m2 : Option Ro → Int32 → wM → Prop} (hk2 : ∀ (x1 : Int32) (A : RA) (F : RF) (M : wM), RM N A F M → k2 x1 A F → m2 (some (40, 0)) x1 M) {x1 : Int32} {A : RA} {F : RF} (h : RM N A F M) (hf : fw_M_stalledAt_53 Q k2 x1 A F) : wp_M_stalledAt_53 post m2 (some (40, 0)) x1 M := by
  unfold fw_M_stalledAt_53 at hf
  unfold wp_M_stalledAt_53
  exact hk2 _ _ _ _ h hf
def fw_M_stalledAt_2 (Q : Int32 → RA → RF → Prop) : Nat → Int32 → RA → RF → Prop
  | 0, _, _, _ => False
  | n + 1, x1, A, F => ((F 15) < x1 → Q 0 A F) ∧ (¬ (F 15) < x1 → flI A 16 x1 (fun a15 => (a15 < 0 → fw_M_stalledAt_53 Q (fun x1 A F => fw_M_stalledAt_2 Q n x1 A F) x1 A F) ∧ (¬ a15 < 0 → flI A 16 x1 (fun a28 => flI A 8 a28 (fun a29 => (a29 = 0 → fw_M_stalledAt_53 Q (fun x1 A F => fw_M_stalledAt_2 Q n x1 A F) x1 A F) ∧ (¬ a29 = 0 → flI A 18 x1 (fun a38 => (¬ a38 = 0 → fw_M_stalledAt_53 Q (fun x1 A F => fw_M_stalledAt_2 Q n x1 A F) x1 A F) ∧ (a38 = 0 → flI A 19 x1 (fun a47 => (a47 = 0 → fw_M_stalledAt_53 Q (fun x1 A F => fw_M_stalledAt_2 Q n x1 A F) x1 A F) ∧ (¬ a47 = 0 → Q x1 A F))))))))))
set_option maxRecDepth 100000 in
set_option maxHeartbeats 4000000 in
theorem fs_M_stalledAt_2 {N : wM} {Q : Int32 → RA → RF → Prop} {post : Int32 → wM → Prop} (k : ∀ r A F M, RM N A F M → Q r A F → post r M) : ∀ (n : Nat) (x1 : Int32) (A : RA) (F : RF) (M : wM), RM N A F M → fw_M_stalledAt_2 Q n x1 A F → wp_M_stalledAt_2 post n (some (40, 0)) x1 M := by
  intro n
  induction n with
  | zero => intro x1 A F M h hf; exact hf.elim
  | succ n ih =>
    intro x1 A F M h hf
    unfold fw_M_stalledAt_2 at hf
    unfold wp_M_stalledAt_2
    refine r_gI h rfl ?_
    refine ⟨fun c => ?_, fun c => ?_⟩
    · have hf := hf.1 c
      exact k _ _ _ _ h hf
    · have hf := hf.2 c
      refine r_gR h rfl ?_
      refine r_lI h rfl (eq_true (by decide)) hf.1 ?_
      have hf := hf.2
      refine ⟨fun c => ?_, fun c => ?_⟩
      · have hf := hf.1 c
        exact fs_M_stalledAt_53 k ih h hf
      · have hf := hf.2 c
        refine r_gR h rfl ?_
        refine r_gR h rfl ?_
        refine r_lI h rfl (eq_true (by decide)) hf.1 ?_
        have hf := hf.2
        refine r_lZ h rfl (eq_true (by decide)) hf.1 ?_
        have hf := hf.2
        refine ⟨fun c => ?_, fun c => ?_⟩
        · have hf := hf.1 c
          exact fs_M_stalledAt_53 k ih h hf
        · have hf := hf.2 c
          refine r_gR h rfl ?_
          refine r_lZ h rfl (eq_true (by decide)) hf.1 ?_
          have hf := hf.2
          refine ⟨fun c => ?_, fun c => ?_⟩
          · have hf := hf.1 c
            exact fs_M_stalledAt_53 k ih h hf
          · have hf := hf.2 c
            refine r_gR h rfl ?_
            refine r_lI h rfl (eq_true (by decide)) hf.1 ?_
            have hf := hf.2
            refine ⟨fun c => ?_, fun c => ?_⟩
            · have hf := hf.1 c
              exact fs_M_stalledAt_53 k ih h hf
            · have hf := hf.2 c
              exact k _ _ _ _ h hf
def fw_M_stalledAt (Q : Int32 → RA → RF → Prop)  (A : RA) (F : RF) : Prop := (∃ n, fw_M_stalledAt_2 Q n 1 A F)
set_option maxRecDepth 100000 in
set_option maxHeartbeats 4000000 in
theorem fs_M_stalledAt {N : wM} {Q : Int32 → RA → RF → Prop} {post : Int32 → wM → Prop}  {A : RA} {F : RF} {M : wM} (h : RM N A F M) (hf : fw_M_stalledAt Q  A F) (k : ∀ r A F M, RM N A F M → Q r A F → post r M) : wp_M_stalledAt post (some (40, 0)) M := by
  unfold fw_M_stalledAt at hf
  unfold wp_M_stalledAt
  obtain ⟨n, hf⟩ := hf
  exact ⟨n, fs_M_stalledAt_2 k n _ _ _ _ h hf⟩
def fw_M_count (Q : Int32 → RA → RF → Prop) (x1 : Int32) (A : RA) (F : RF) : Prop := (x1 = 0 → Q (F 15) A F) ∧ (¬ x1 = 0 → (x1 = 1 → Q (F 23) A F) ∧ (¬ x1 = 1 → (x1 = 2 → fw_M_logged (fun a51 A51 F51 => Q a51 A51 F51)  A F) ∧ (¬ x1 = 2 → (x1 = 3 → Q (F 24) A F) ∧ (¬ x1 = 3 → (x1 = 4 → Q (F 25) A F) ∧ (¬ x1 = 4 → (x1 = 5 → fw_M_stalledAt (fun a66 A66 F66 => Q a66 A66 F66)  A F) ∧ (¬ x1 = 5 → Q (-1) A F))))))
set_option maxRecDepth 100000 in
set_option maxHeartbeats 4000000 in
theorem fs_M_count {N : wM} {Q : Int32 → RA → RF → Prop} {post : Int32 → wM → Prop} {x1 : Int32} {A : RA} {F : RF} {M : wM} (h : RM N A F M) (hf : fw_M_count Q x1 A F) (k : ∀ r A F M, RM N A F M → Q r A F → post r M) : wp_M_count post (some (40, 0)) x1 M := by
  unfold fw_M_count at hf
  unfold wp_M_count
  refine ⟨fun c => ?_, fun c => ?_⟩
  · have hf := hf.1 c
    refine r_gI h rfl ?_
    exact k _ _ _ _ h hf
  · have hf := hf.2 c
    refine ⟨fun c => ?_, fun c => ?_⟩
    · have hf := hf.1 c
      refine r_gI h rfl ?_
      exact k _ _ _ _ h hf
    · have hf := hf.2 c
      refine ⟨fun c => ?_, fun c => ?_⟩
      · have hf := hf.1 c
        refine ⟨⟨_, _, rfl, h.1⟩, ?_⟩
        refine fs_M_logged h hf (fun a51 A51 F51 M h hf => ?_)
        exact k _ _ _ _ h hf
      · have hf := hf.2 c
        refine ⟨fun c => ?_, fun c => ?_⟩
        · have hf := hf.1 c
          refine r_gI h rfl ?_
          exact k _ _ _ _ h hf
        · have hf := hf.2 c
          refine ⟨fun c => ?_, fun c => ?_⟩
          · have hf := hf.1 c
            refine r_gI h rfl ?_
            exact k _ _ _ _ h hf
          · have hf := hf.2 c
            refine ⟨fun c => ?_, fun c => ?_⟩
            · have hf := hf.1 c
              refine ⟨⟨_, _, rfl, h.1⟩, ?_⟩
              refine fs_M_stalledAt h hf (fun a66 A66 F66 M h hf => ?_)
              exact k _ _ _ _ h hf
            · have hf := hf.2 c
              exact k _ _ _ _ h hf
