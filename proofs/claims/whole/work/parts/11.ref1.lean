def fw_M_execute_210 (Q : RA → RF → Prop) : Nat → Int32 → Int32 → Int32 → Int32 → RA → RF → Prop
  | 0, _, _, _, _, _, _ => False
  | n + 1, x1, x2, x3, x4, A, F => ((40 : Int32) ≤ x4 → Q A F) ∧ (¬ (40 : Int32) ≤ x4 → flI A 5 x4 (fun a229 => fsZ A 1 x4 a229 (fun A230 => flI A230 6 x4 (fun a243 => fsI A230 2 x4 a243 (fun A244 => fw_M_execute_210 Q n x1 x2 x3 (x4 + 1) A244 F)))))
set_option maxRecDepth 100000 in
set_option maxHeartbeats 4000000 in
theorem fs_M_execute_210 {N : wM} {Q : RA → RF → Prop} {post : wM → Prop} (k : ∀ A F M, RM N A F M → Q A F → post M) : ∀ (n : Nat) (x1 : Int32) (x2 : Int32) (x3 : Int32) (x4 : Int32) (A : RA) (F : RF) (M : wM), RM N A F M → fw_M_execute_210 Q n x1 x2 x3 x4 A F → wp_M_execute_210 post n (some (40, 0)) x1 x2 x3 x4 M := by
  intro n
  induction n with
  | zero => intro x1 x2 x3 x4 A F M h hf; exact hf.elim
  | succ n ih =>
    intro x1 x2 x3 x4 A F M h hf
    unfold fw_M_execute_210 at hf
    unfold wp_M_execute_210
    refine ⟨fun c => ?_, fun c => ?_⟩
    · have hf := hf.1 c
      exact k _ _ _ h hf
    · have hf := hf.2 c
      refine r_gR h rfl ?_
      refine r_gR h rfl ?_
      refine r_lZ h rfl (eq_true (by decide)) hf.1 ?_
      have hf := hf.2
      refine r_sZ h rfl (eq_true (by decide)) hf.1 hf.2.1 (fun M h => ?_)
      have hf := hf.2.2
      refine r_gR h rfl ?_
      refine r_gR h rfl ?_
      refine r_lI h rfl (eq_true (by decide)) hf.1 ?_
      have hf := hf.2
      refine r_sI h rfl (eq_true (by decide)) hf.1 (fun M h => ?_)
      have hf := hf.2
      exact ih _ _ _ _ _ _ _ h hf
def fw_M_execute_190 (Q : RA → RF → Prop) (x1 : Int32) (x2 : Int32) (x3 : Int32) (A : RA) (F : RF) : Prop := flI A 20 x1 (fun a195 => (0 ≤ a195 → fsI A 21 x1 0 (fun A206 => (∃ n, fw_M_execute_210 Q n x1 x2 x3 0 A206 F))) ∧ (¬ 0 ≤ a195 → Q A F))
set_option maxRecDepth 100000 in
set_option maxHeartbeats 4000000 in
theorem fs_M_execute_190 {N : wM} {Q : RA → RF → Prop} {post : wM → Prop} {M : wM} (k : ∀ A F M, RM N A F M → Q A F → post M) {x1 : Int32} {x2 : Int32} {x3 : Int32} {A : RA} {F : RF} (h : RM N A F M) (hf : fw_M_execute_190 Q x1 x2 x3 A F) : wp_M_execute_190 post (some (40, 0)) x1 x2 x3 M := by
  unfold fw_M_execute_190 at hf
  unfold wp_M_execute_190
  refine r_gR h rfl ?_
  refine r_lI h rfl (eq_true (by decide)) hf.1 ?_
  have hf := hf.2
  refine ⟨fun c => ?_, fun c => ?_⟩
  · have hf := hf.1 c
    refine r_gR h rfl ?_
    refine r_sI h rfl (eq_true (by decide)) hf.1 (fun M h => ?_)
    have hf := hf.2
    obtain ⟨n, hf⟩ := hf
    exact ⟨n, fs_M_execute_210 k n _ _ _ _ _ _ _ h hf⟩
  · have hf := hf.2 c
    exact k _ _ _ h hf
def fw_M_execute_185 (Q : RA → RF → Prop) (k100 : Int32 → Int32 → Int32 → RA → RF → Prop) (x1 : Int32) (x2 : Int32) (x3 : Int32) (x4 : Int32) (s0 : Int32) (s1 : Int32) (A : RA) (F : RF) : Prop := k100 x1 x2 (s1 + s0) A F
set_option maxRecDepth 100000 in
set_option maxHeartbeats 4000000 in
theorem fs_M_execute_185 {N : wM} {Q : RA → RF → Prop} {post : wM → Prop} {M : wM} (k : ∀ A F M, RM N A F M → Q A F → post M) {k100 : Int32 → Int32 → Int32 → RA → RF → Prop} {m100 : Option Ro → Int32 → Int32 → Int32 → wM → Prop} (hk100 : ∀ (x1 : Int32) (x2 : Int32) (x3 : Int32) (A : RA) (F : RF) (M : wM), RM N A F M → k100 x1 x2 x3 A F → m100 (some (40, 0)) x1 x2 x3 M) {x1 : Int32} {x2 : Int32} {x3 : Int32} {x4 : Int32} {s0 : Int32} {s1 : Int32} {A : RA} {F : RF} (h : RM N A F M) (hf : fw_M_execute_185 Q k100 x1 x2 x3 x4 s0 s1 A F) : wp_M_execute_185 post m100 (some (40, 0)) x1 x2 x3 x4 s0 s1 M := by
  unfold fw_M_execute_185 at hf
  unfold wp_M_execute_185
  exact hk100 _ _ _ _ _ _ h hf
def fw_M_execute_184 (Q : RA → RF → Prop) (k100 : Int32 → Int32 → Int32 → RA → RF → Prop) (x1 : Int32) (x2 : Int32) (x3 : Int32) (x4 : Int32) (s0 : Int32) (A : RA) (F : RF) : Prop := fw_M_execute_185 Q k100 x1 x2 x3 x4 1 s0 A F
set_option maxRecDepth 100000 in
set_option maxHeartbeats 4000000 in
theorem fs_M_execute_184 {N : wM} {Q : RA → RF → Prop} {post : wM → Prop} {M : wM} (k : ∀ A F M, RM N A F M → Q A F → post M) {k100 : Int32 → Int32 → Int32 → RA → RF → Prop} {m100 : Option Ro → Int32 → Int32 → Int32 → wM → Prop} (hk100 : ∀ (x1 : Int32) (x2 : Int32) (x3 : Int32) (A : RA) (F : RF) (M : wM), RM N A F M → k100 x1 x2 x3 A F → m100 (some (40, 0)) x1 x2 x3 M) {x1 : Int32} {x2 : Int32} {x3 : Int32} {x4 : Int32} {s0 : Int32} {A : RA} {F : RF} (h : RM N A F M) (hf : fw_M_execute_184 Q k100 x1 x2 x3 x4 s0 A F) : wp_M_execute_184 post m100 (some (40, 0)) x1 x2 x3 x4 s0 M := by
  unfold fw_M_execute_184 at hf
  unfold wp_M_execute_184
  exact fs_M_execute_185 k hk100 h hf
def fw_M_execute_144 (Q : RA → RF → Prop) (k100 : Int32 → Int32 → Int32 → RA → RF → Prop) (x1 : Int32) (x2 : Int32) (x3 : Int32) (x4 : Int32) (A : RA) (F : RF) : Prop := flI A 10 x4 (fun a151 => (¬ a151 = (7 : Int32) → fw_M_execute_184 Q k100 x1 x2 x3 x4 x3 A F) ∧ (a151 = (7 : Int32) → flI A 11 x4 (fun a167 => flI A 32 a167 (fun a168 => (¬ a168 = 0 → fw_M_execute_184 Q k100 x1 x2 x3 x4 x3 A F) ∧ (a168 = 0 → flI A 12 x4 (fun a179 => fw_M_execute_185 Q k100 x1 x2 x3 x4 (1 + a179) x3 A F))))))
set_option maxRecDepth 100000 in
set_option maxHeartbeats 4000000 in
theorem fs_M_execute_144 {N : wM} {Q : RA → RF → Prop} {post : wM → Prop} {M : wM} (k : ∀ A F M, RM N A F M → Q A F → post M) {k100 : Int32 → Int32 → Int32 → RA → RF → Prop} {m100 : Option Ro → Int32 → Int32 → Int32 → wM → Prop} (hk100 : ∀ (x1 : Int32) (x2 : Int32) (x3 : Int32) (A : RA) (F : RF) (M : wM), RM N A F M → k100 x1 x2 x3 A F → m100 (some (40, 0)) x1 x2 x3 M) {x1 : Int32} {x2 : Int32} {x3 : Int32} {x4 : Int32} {A : RA} {F : RF} (h : RM N A F M) (hf : fw_M_execute_144 Q k100 x1 x2 x3 x4 A F) : wp_M_execute_144 post m100 (some (40, 0)) x1 x2 x3 x4 M := by
  unfold fw_M_execute_144 at hf
  unfold wp_M_execute_144
  refine r_gR h rfl ?_
  refine r_lI h rfl (eq_true (by decide)) hf.1 ?_
  have hf := hf.2
  refine ⟨fun c => ?_, fun c => ?_⟩
  · have hf := hf.1 c
    exact fs_M_execute_184 k hk100 h hf
  · have hf := hf.2 c
    refine r_gR h rfl ?_
    refine r_gR h rfl ?_
    refine r_lI h rfl (eq_true (by decide)) hf.1 ?_
    have hf := hf.2
    refine r_lI h rfl (eq_true (by decide)) hf.1 ?_
    have hf := hf.2
    refine ⟨fun c => ?_, fun c => ?_⟩
    · have hf := hf.1 c
      exact fs_M_execute_184 k hk100 h hf
    · have hf := hf.2 c
      refine r_gR h rfl ?_
      refine r_lI h rfl (eq_true (by decide)) hf.1 ?_
      have hf := hf.2
      exact fs_M_execute_185 k hk100 h hf
def fw_M_execute_100 (Q : RA → RF → Prop) : Nat → Int32 → Int32 → Int32 → RA → RF → Prop
  | 0, _, _, _, _, _ => False
  | n + 1, x1, x2, x3, A, F => flI A 9 x2 (fun a106 => (a106 ≤ x3 → fw_M_execute_190 Q x1 x2 x3 A F) ∧ (¬ a106 ≤ x3 → flI A 20 x1 (fun a115 => (0 ≤ a115 → fw_M_execute_190 Q x1 x2 x3 A F) ∧ (¬ 0 ≤ a115 → fw_M_statement (fun a131 A131 F131 => (¬ a131 = 0 → fw_M_execute_144 Q (fun x1 x2 x3 A F => fw_M_execute_100 Q n x1 x2 x3 A F) x1 x2 x3 ((8 * x2) + x3) A131 F131) ∧ (a131 = 0 → fsI A131 20 x1 x3 (fun A143 => fw_M_execute_144 Q (fun x1 x2 x3 A F => fw_M_execute_100 Q n x1 x2 x3 A F) x1 x2 x3 ((8 * x2) + x3) A143 F131))) x1 ((8 * x2) + x3) A F))))
set_option maxRecDepth 100000 in
set_option maxHeartbeats 4000000 in
theorem fs_M_execute_100 {N : wM} {Q : RA → RF → Prop} {post : wM → Prop} (k : ∀ A F M, RM N A F M → Q A F → post M) : ∀ (n : Nat) (x1 : Int32) (x2 : Int32) (x3 : Int32) (A : RA) (F : RF) (M : wM), RM N A F M → fw_M_execute_100 Q n x1 x2 x3 A F → wp_M_execute_100 post n (some (40, 0)) x1 x2 x3 M := by
  intro n
  induction n with
  | zero => intro x1 x2 x3 A F M h hf; exact hf.elim
  | succ n ih =>
    intro x1 x2 x3 A F M h hf
    unfold fw_M_execute_100 at hf
    unfold wp_M_execute_100
    refine r_gR h rfl ?_
    refine r_lI h rfl (eq_true (by decide)) hf.1 ?_
    have hf := hf.2
    refine ⟨fun c => ?_, fun c => ?_⟩
    · have hf := hf.1 c
      exact fs_M_execute_190 k h hf
    · have hf := hf.2 c
      refine r_gR h rfl ?_
      refine r_lI h rfl (eq_true (by decide)) hf.1 ?_
      have hf := hf.2
      refine ⟨fun c => ?_, fun c => ?_⟩
      · have hf := hf.1 c
        exact fs_M_execute_190 k h hf
      · have hf := hf.2 c
        refine ⟨⟨_, _, rfl, h.1⟩, ?_⟩
        refine fs_M_statement h hf (fun a131 A131 F131 M h hf => ?_)
        refine ⟨fun c => ?_, fun c => ?_⟩
        · have hf := hf.1 c
          exact fs_M_execute_144 k ih h hf
        · have hf := hf.2 c
          refine r_gR h rfl ?_
          refine r_sI h rfl (eq_true (by decide)) hf.1 (fun M h => ?_)
          have hf := hf.2
          exact fs_M_execute_144 k ih h hf
def fw_M_execute_70 (Q : RA → RF → Prop) (k40 : Int32 → Int32 → RA → RF → Prop) (x1 : Int32) (x2 : Int32) (s0 : Int32) (s1 : Int32) (A : RA) (F : RF) : Prop := fsI A 32 s1 s0 (fun A70 => k40 x1 (x2 + 1) A70 F)
set_option maxRecDepth 100000 in
set_option maxHeartbeats 4000000 in
theorem fs_M_execute_70 {N : wM} {Q : RA → RF → Prop} {post : wM → Prop} {M : wM} (k : ∀ A F M, RM N A F M → Q A F → post M) {k40 : Int32 → Int32 → RA → RF → Prop} {m40 : Option Ro → Int32 → Int32 → wM → Prop} (hk40 : ∀ (x1 : Int32) (x2 : Int32) (A : RA) (F : RF) (M : wM), RM N A F M → k40 x1 x2 A F → m40 (some (40, 0)) x1 x2 M) {x1 : Int32} {x2 : Int32} {s0 : Int32} {s1 : Int32} {A : RA} {F : RF} (h : RM N A F M) (hf : fw_M_execute_70 Q k40 x1 x2 s0 s1 A F) : wp_M_execute_70 post m40 (some (40, 0)) x1 x2 s0 s1 (some (41, 32)) M := by
  unfold fw_M_execute_70 at hf
  unfold wp_M_execute_70
  refine r_sI h rfl (eq_true (by decide)) hf.1 (fun M h => ?_)
  have hf := hf.2
  exact hk40 _ _ _ _ _ h hf
def fw_M_execute_40 (Q : RA → RF → Prop) : Nat → Int32 → Int32 → RA → RF → Prop
  | 0, _, _, _, _ => False
  | n + 1, x1, x2, A, F => ((6 : Int32) ≤ x2 → fsI A 21 x1 0 (fun A83 => fsI A83 20 x1 (-1) (fun A90 => flI A90 16 x1 (fun a96 => (∃ n, fw_M_execute_100 Q n x1 a96 0 A90 F))))) ∧ (¬ (6 : Int32) ≤ x2 → ((3 : Int32) ≤ x2 → fw_M_execute_70 Q (fun x1 x2 A F => fw_M_execute_40 Q n x1 x2 A F) x1 x2 0 x2 A F) ∧ (¬ (3 : Int32) ≤ x2 → flI A 17 ((3 * x1) + x2) (fun a65 => fw_M_execute_70 Q (fun x1 x2 A F => fw_M_execute_40 Q n x1 x2 A F) x1 x2 a65 x2 A F)))
set_option maxRecDepth 100000 in
set_option maxHeartbeats 4000000 in
theorem fs_M_execute_40 {N : wM} {Q : RA → RF → Prop} {post : wM → Prop} (k : ∀ A F M, RM N A F M → Q A F → post M) : ∀ (n : Nat) (x1 : Int32) (x2 : Int32) (A : RA) (F : RF) (M : wM), RM N A F M → fw_M_execute_40 Q n x1 x2 A F → wp_M_execute_40 post n (some (40, 0)) x1 x2 M := by
  intro n
  induction n with
  | zero => intro x1 x2 A F M h hf; exact hf.elim
  | succ n ih =>
    intro x1 x2 A F M h hf
    unfold fw_M_execute_40 at hf
    unfold wp_M_execute_40
    refine ⟨fun c => ?_, fun c => ?_⟩
    · have hf := hf.1 c
      refine r_gR h rfl ?_
      refine r_sI h rfl (eq_true (by decide)) hf.1 (fun M h => ?_)
      have hf := hf.2
      refine r_gR h rfl ?_
      refine r_sI h rfl (eq_true (by decide)) hf.1 (fun M h => ?_)
      have hf := hf.2
      refine r_gR h rfl ?_
      refine r_lI h rfl (eq_true (by decide)) hf.1 ?_
      have hf := hf.2
      obtain ⟨n, hf⟩ := hf
      exact ⟨n, fs_M_execute_100 k n _ _ _ _ _ _ h hf⟩
    · have hf := hf.2 c
      refine r_gR h rfl ?_
      refine ⟨fun c => ?_, fun c => ?_⟩
      · have hf := hf.1 c
        exact fs_M_execute_70 k ih h hf
      · have hf := hf.2 c
        refine r_gR h rfl ?_
        refine r_lI h rfl (eq_true (by decide)) hf.1 ?_
        have hf := hf.2
        exact fs_M_execute_70 k ih h hf
def fw_M_execute_2 (Q : RA → RF → Prop) : Nat → Int32 → Int32 → RA → RF → Prop
  | 0, _, _, _, _ => False
  | n + 1, x1, x2, A, F => ((40 : Int32) ≤ x2 → (∃ n, fw_M_execute_40 Q n x1 0 A F)) ∧ (¬ (40 : Int32) ≤ x2 → flI A 1 x2 (fun a18 => fsZ A 5 x2 a18 (fun A19 => flI A19 2 x2 (fun a30 => fsI A19 6 x2 a30 (fun A31 => fw_M_execute_2 Q n x1 (x2 + 1) A31 F)))))
set_option maxRecDepth 100000 in
set_option maxHeartbeats 4000000 in
theorem fs_M_execute_2 {N : wM} {Q : RA → RF → Prop} {post : wM → Prop} (k : ∀ A F M, RM N A F M → Q A F → post M) : ∀ (n : Nat) (x1 : Int32) (x2 : Int32) (A : RA) (F : RF) (M : wM), RM N A F M → fw_M_execute_2 Q n x1 x2 A F → wp_M_execute_2 post n (some (40, 0)) x1 x2 M := by
  intro n
  induction n with
  | zero => intro x1 x2 A F M h hf; exact hf.elim
  | succ n ih =>
    intro x1 x2 A F M h hf
    unfold fw_M_execute_2 at hf
    unfold wp_M_execute_2
    refine ⟨fun c => ?_, fun c => ?_⟩
    · have hf := hf.1 c
      obtain ⟨n, hf⟩ := hf
      exact ⟨n, fs_M_execute_40 k n _ _ _ _ _ h hf⟩
    · have hf := hf.2 c
      refine r_gR h rfl ?_
      refine r_gR h rfl ?_
      refine r_lZ h rfl (eq_true (by decide)) hf.1 ?_
      have hf := hf.2
      refine r_sZ h rfl (eq_true (by decide)) hf.1 hf.2.1 (fun M h => ?_)
      have hf := hf.2.2
      refine r_gR h rfl ?_
      refine r_gR h rfl ?_
      refine r_lI h rfl (eq_true (by decide)) hf.1 ?_
      have hf := hf.2
      refine r_sI h rfl (eq_true (by decide)) hf.1 (fun M h => ?_)
      have hf := hf.2
      exact ih _ _ _ _ _ h hf
def fw_M_execute (Q : RA → RF → Prop) (x1 : Int32) (A : RA) (F : RF) : Prop := (∃ n, fw_M_execute_2 Q n x1 0 A F)
set_option maxRecDepth 100000 in
set_option maxHeartbeats 4000000 in
theorem fs_M_execute {N : wM} {Q : RA → RF → Prop} {post : wM → Prop} {x1 : Int32} {A : RA} {F : RF} {M : wM} (h : RM N A F M) (hf : fw_M_execute Q x1 A F) (k : ∀ A F M, RM N A F M → Q A F → post M) : wp_M_execute post (some (40, 0)) x1 M := by
  unfold fw_M_execute at hf
  unfold wp_M_execute
  obtain ⟨n, hf⟩ := hf
  exact ⟨n, fs_M_execute_2 k n _ _ _ _ _ h hf⟩
def fw_M_replay_64 (Q : RA → RF → Prop) (k45 : Int32 → Int32 → RA → RF → Prop) (x1 : Int32) (x2 : Int32) (A : RA) (F : RF) : Prop := k45 x1 (x2 + 1) A F
set_option maxRecDepth 100000 in
set_option maxHeartbeats 4000000 in
theorem fs_M_replay_64 {N : wM} {Q : RA → RF → Prop} {post : wM → Prop} {M : wM} (k : ∀ A F M, RM N A F M → Q A F → post M) {k45 : Int32 → Int32 → RA → RF → Prop} {m45 : Option Ro → Int32 → Int32 → wM → Prop} (hk45 : ∀ (x1 : Int32) (x2 : Int32) (A : RA) (F : RF) (M : wM), RM N A F M → k45 x1 x2 A F → m45 (some (40, 0)) x1 x2 M) {x1 : Int32} {x2 : Int32} {A : RA} {F : RF} (h : RM N A F M) (hf : fw_M_replay_64 Q k45 x1 x2 A F) : wp_M_replay_64 post m45 (some (40, 0)) x1 x2 M := by
  unfold fw_M_replay_64 at hf
  unfold wp_M_replay_64
  exact hk45 _ _ _ _ _ h hf
def fw_M_replay_45 (Q : RA → RF → Prop) : Nat → Int32 → Int32 → RA → RF → Prop
  | 0, _, _, _, _ => False
  | n + 1, x1, x2, A, F => (x1 < x2 → Q A F) ∧ (¬ x1 < x2 → flI A 16 x2 (fun a55 => (a55 < 0 → fw_M_replay_64 Q (fun x1 x2 A F => fw_M_replay_45 Q n x1 x2 A F) x1 x2 A F) ∧ (¬ a55 < 0 → fw_M_execute (fun A61 F61 => fw_M_replay_64 Q (fun x1 x2 A F => fw_M_replay_45 Q n x1 x2 A F) x1 x2 A61 F61) x2 A F)))
set_option maxRecDepth 100000 in
set_option maxHeartbeats 4000000 in
theorem fs_M_replay_45 {N : wM} {Q : RA → RF → Prop} {post : wM → Prop} (k : ∀ A F M, RM N A F M → Q A F → post M) : ∀ (n : Nat) (x1 : Int32) (x2 : Int32) (A : RA) (F : RF) (M : wM), RM N A F M → fw_M_replay_45 Q n x1 x2 A F → wp_M_replay_45 post n (some (40, 0)) x1 x2 M := by
  intro n
  induction n with
  | zero => intro x1 x2 A F M h hf; exact hf.elim
  | succ n ih =>
    intro x1 x2 A F M h hf
    unfold fw_M_replay_45 at hf
    unfold wp_M_replay_45
    refine ⟨fun c => ?_, fun c => ?_⟩
    · have hf := hf.1 c
      exact k _ _ _ h hf
    · have hf := hf.2 c
      refine r_gR h rfl ?_
      refine r_lI h rfl (eq_true (by decide)) hf.1 ?_
      have hf := hf.2
      refine ⟨fun c => ?_, fun c => ?_⟩
      · have hf := hf.1 c
        exact fs_M_replay_64 k ih h hf
      · have hf := hf.2 c
        refine ⟨⟨_, _, rfl, h.1⟩, ?_⟩
        refine fs_M_execute h hf (fun A61 F61 M h hf => ?_)
        exact fs_M_replay_64 k ih h hf
def fw_M_replay_2 (Q : RA → RF → Prop) : Nat → Int32 → Int32 → RA → RF → Prop
  | 0, _, _, _, _ => False
  | n + 1, x1, x2, A, F => ((40 : Int32) ≤ x2 → (∃ n, fw_M_replay_45 Q n x1 ((F 24) + 1) A F)) ∧ (¬ (40 : Int32) ≤ x2 → flI A 3 x2 (fun a18 => fsZ A 1 x2 a18 (fun A19 => flI A19 4 x2 (fun a30 => fsI A19 2 x2 a30 (fun A31 => fw_M_replay_2 Q n x1 (x2 + 1) A31 F)))))
set_option maxRecDepth 100000 in
set_option maxHeartbeats 4000000 in
theorem fs_M_replay_2 {N : wM} {Q : RA → RF → Prop} {post : wM → Prop} (k : ∀ A F M, RM N A F M → Q A F → post M) : ∀ (n : Nat) (x1 : Int32) (x2 : Int32) (A : RA) (F : RF) (M : wM), RM N A F M → fw_M_replay_2 Q n x1 x2 A F → wp_M_replay_2 post n (some (40, 0)) x1 x2 M := by
  intro n
  induction n with
  | zero => intro x1 x2 A F M h hf; exact hf.elim
  | succ n ih =>
    intro x1 x2 A F M h hf
    unfold fw_M_replay_2 at hf
    unfold wp_M_replay_2
    refine ⟨fun c => ?_, fun c => ?_⟩
    · have hf := hf.1 c
      refine r_gI h rfl ?_
      obtain ⟨n, hf⟩ := hf
      exact ⟨n, fs_M_replay_45 k n _ _ _ _ _ h hf⟩
    · have hf := hf.2 c
      refine r_gR h rfl ?_
      refine r_gR h rfl ?_
      refine r_lZ h rfl (eq_true (by decide)) hf.1 ?_
      have hf := hf.2
      refine r_sZ h rfl (eq_true (by decide)) hf.1 hf.2.1 (fun M h => ?_)
      have hf := hf.2.2
      refine r_gR h rfl ?_
      refine r_gR h rfl ?_
      refine r_lI h rfl (eq_true (by decide)) hf.1 ?_
      have hf := hf.2
      refine r_sI h rfl (eq_true (by decide)) hf.1 (fun M h => ?_)
      have hf := hf.2
      exact ih _ _ _ _ _ h hf
def fw_M_replay (Q : RA → RF → Prop) (x1 : Int32) (A : RA) (F : RF) : Prop := (∃ n, fw_M_replay_2 Q n x1 0 A F)
set_option maxRecDepth 100000 in
set_option maxHeartbeats 4000000 in
theorem fs_M_replay {N : wM} {Q : RA → RF → Prop} {post : wM → Prop} {x1 : Int32} {A : RA} {F : RF} {M : wM} (h : RM N A F M) (hf : fw_M_replay Q x1 A F) (k : ∀ A F M, RM N A F M → Q A F → post M) : wp_M_replay post (some (40, 0)) x1 M := by
  unfold fw_M_replay at hf
  unfold wp_M_replay
  obtain ⟨n, hf⟩ := hf
  exact ⟨n, fs_M_replay_2 k n _ _ _ _ _ h hf⟩
def fw_M_tellClients_121 (Q : RA → RF → Prop) (k2 : Int32 → RA → RF → Prop) (x1 : Int32) (x2 : Int32) (A : RA) (F : RF) : Prop := k2 (x1 + 1) A F
set_option maxRecDepth 100000 in
set_option maxHeartbeats 4000000 in
theorem fs_M_tellClients_121 {N : wM} {Q : RA → RF → Prop} {post : wM → Prop} {M : wM} (k : ∀ A F M, RM N A F M → Q A F → post M) {k2 : Int32 → RA → RF → Prop} {m2 : Option Ro → Int32 → wM → Prop} (hk2 : ∀ (x1 : Int32) (A : RA) (F : RF) (M : wM), RM N A F M → k2 x1 A F → m2 (some (40, 0)) x1 M) {x1 : Int32} {x2 : Int32} {A : RA} {F : RF} (h : RM N A F M) (hf : fw_M_tellClients_121 Q k2 x1 x2 A F) : wp_M_tellClients_121 post m2 (some (40, 0)) x1 x2 M := by
  unfold fw_M_tellClients_121 at hf
  unfold wp_M_tellClients_121
  exact hk2 _ _ _ _ h hf
def fw_M_tellClients_90 (Q : RA → RF → Prop) (k2 : Int32 → RA → RF → Prop) : Nat → Int32 → Int32 → Int32 → RA → RF → Prop
  | 0, _, _, _, _, _ => False
  | n + 1, x1, x2, x3, A, F => ((4 : Int32) ≤ x3 → fw_M_tellClients_121 Q k2 x1 x2 A F) ∧ (¬ (4 : Int32) ≤ x3 → flI A 22 ((4 * x2) + x3) (fun a113 => fsI A 30 ((4 * x1) + x3) a113 (fun A114 => fw_M_tellClients_90 Q k2 n x1 x2 (x3 + 1) A114 F)))
set_option maxRecDepth 100000 in
set_option maxHeartbeats 4000000 in
theorem fs_M_tellClients_90 {N : wM} {Q : RA → RF → Prop} {post : wM → Prop} (k : ∀ A F M, RM N A F M → Q A F → post M) {k2 : Int32 → RA → RF → Prop} {m2 : Option Ro → Int32 → wM → Prop} (hk2 : ∀ (x1 : Int32) (A : RA) (F : RF) (M : wM), RM N A F M → k2 x1 A F → m2 (some (40, 0)) x1 M) : ∀ (n : Nat) (x1 : Int32) (x2 : Int32) (x3 : Int32) (A : RA) (F : RF) (M : wM), RM N A F M → fw_M_tellClients_90 Q k2 n x1 x2 x3 A F → wp_M_tellClients_90 post m2 n (some (40, 0)) x1 x2 x3 M := by
  intro n
  induction n with
  | zero => intro x1 x2 x3 A F M h hf; exact hf.elim
  | succ n ih =>
    intro x1 x2 x3 A F M h hf
    unfold fw_M_tellClients_90 at hf
    unfold wp_M_tellClients_90
    refine ⟨fun c => ?_, fun c => ?_⟩
    · have hf := hf.1 c
      exact fs_M_tellClients_121 k hk2 h hf
    · have hf := hf.2 c
      refine r_gR h rfl ?_
      refine r_gR h rfl ?_
      refine r_lI h rfl (eq_true (by decide)) hf.1 ?_
      have hf := hf.2
      refine r_sI h rfl (eq_true (by decide)) hf.1 (fun M h => ?_)
      have hf := hf.2
      exact ih _ _ _ _ _ _ h hf
def fw_M_tellClients_63 (Q : RA → RF → Prop) (k2 : Int32 → RA → RF → Prop) (x1 : Int32) (x2 : Int32) (s0 : Int32) (s1 : Int32) (A : RA) (F : RF) : Prop := fsI A 27 s1 s0 (fun A63 => flI A63 20 x2 (fun a74 => fsI A63 31 x1 a74 (fun A75 => flI A75 21 x2 (fun a86 => fsI A75 29 x1 a86 (fun A87 => (∃ n, fw_M_tellClients_90 Q k2 n x1 x2 0 A87 F))))))
set_option maxRecDepth 100000 in
set_option maxHeartbeats 4000000 in
theorem fs_M_tellClients_63 {N : wM} {Q : RA → RF → Prop} {post : wM → Prop} {M : wM} (k : ∀ A F M, RM N A F M → Q A F → post M) {k2 : Int32 → RA → RF → Prop} {m2 : Option Ro → Int32 → wM → Prop} (hk2 : ∀ (x1 : Int32) (A : RA) (F : RF) (M : wM), RM N A F M → k2 x1 A F → m2 (some (40, 0)) x1 M) {x1 : Int32} {x2 : Int32} {s0 : Int32} {s1 : Int32} {A : RA} {F : RF} (h : RM N A F M) (hf : fw_M_tellClients_63 Q k2 x1 x2 s0 s1 A F) : wp_M_tellClients_63 post m2 (some (40, 0)) x1 x2 s0 s1 (some (41, 27)) M := by
  unfold fw_M_tellClients_63 at hf
  unfold wp_M_tellClients_63
  refine r_sI h rfl (eq_true (by decide)) hf.1 (fun M h => ?_)
  have hf := hf.2
  refine r_gR h rfl ?_
  refine r_gR h rfl ?_
  refine r_lI h rfl (eq_true (by decide)) hf.1 ?_
  have hf := hf.2
  refine r_sI h rfl (eq_true (by decide)) hf.1 (fun M h => ?_)
  have hf := hf.2
  refine r_gR h rfl ?_
  refine r_gR h rfl ?_
  refine r_lI h rfl (eq_true (by decide)) hf.1 ?_
  have hf := hf.2
  refine r_sI h rfl (eq_true (by decide)) hf.1 (fun M h => ?_)
  have hf := hf.2
  obtain ⟨n, hf⟩ := hf
  exact ⟨n, fs_M_tellClients_90 k hk2 n _ _ _ _ _ _ h hf⟩
def fw_M_tellClients_2 (Q : RA → RF → Prop) : Nat → Int32 → RA → RF → Prop
  | 0, _, _, _ => False
  | n + 1, x1, A, F => ((4 : Int32) ≤ x1 → Q A F) ∧ (¬ (4 : Int32) ≤ x1 → flI A 28 x1 (fun a12 => flI A 27 x1 (fun a19 => (¬ a19 = (1 : Int32) → fw_M_tellClients_121 Q (fun x1 A F => fw_M_tellClients_2 Q n x1 A F) x1 a12 A F) ∧ (a19 = (1 : Int32) → flI A 18 a12 (fun a29 => (a29 = 0 → fw_M_tellClients_121 Q (fun x1 A F => fw_M_tellClients_2 Q n x1 A F) x1 a12 A F) ∧ (¬ a29 = 0 → (a12 ≤ (F 23) → flI A 20 a12 (fun a54 => (0 ≤ a54 → fw_M_tellClients_63 Q (fun x1 A F => fw_M_tellClients_2 Q n x1 A F) x1 a12 3 x1 A F) ∧ (¬ 0 ≤ a54 → fw_M_tellClients_63 Q (fun x1 A F => fw_M_tellClients_2 Q n x1 A F) x1 a12 2 x1 A F))) ∧ (¬ a12 ≤ (F 23) → fw_M_tellClients_121 Q (fun x1 A F => fw_M_tellClients_2 Q n x1 A F) x1 a12 A F)))))))
set_option maxRecDepth 100000 in
set_option maxHeartbeats 4000000 in
theorem fs_M_tellClients_2 {N : wM} {Q : RA → RF → Prop} {post : wM → Prop} (k : ∀ A F M, RM N A F M → Q A F → post M) : ∀ (n : Nat) (x1 : Int32) (A : RA) (F : RF) (M : wM), RM N A F M → fw_M_tellClients_2 Q n x1 A F → wp_M_tellClients_2 post n (some (40, 0)) x1 M := by
  intro n
  induction n with
  | zero => intro x1 A F M h hf; exact hf.elim
  | succ n ih =>
    intro x1 A F M h hf
    unfold fw_M_tellClients_2 at hf
    unfold wp_M_tellClients_2
    refine ⟨fun c => ?_, fun c => ?_⟩
    · have hf := hf.1 c
      exact k _ _ _ h hf
    · have hf := hf.2 c
      refine r_gR h rfl ?_
      refine r_lI h rfl (eq_true (by decide)) hf.1 ?_
      have hf := hf.2
      refine r_gR h rfl ?_
      refine r_lI h rfl (eq_true (by decide)) hf.1 ?_
      have hf := hf.2
      refine ⟨fun c => ?_, fun c => ?_⟩
      · have hf := hf.1 c
        exact fs_M_tellClients_121 k ih h hf
      · have hf := hf.2 c
        refine r_gR h rfl ?_
        refine r_lZ h rfl (eq_true (by decide)) hf.1 ?_
        have hf := hf.2
        refine ⟨fun c => ?_, fun c => ?_⟩
        · have hf := hf.1 c
          exact fs_M_tellClients_121 k ih h hf
        · have hf := hf.2 c
          refine r_gI h rfl ?_
          refine ⟨fun c => ?_, fun c => ?_⟩
          · have hf := hf.1 c
            refine r_gR h rfl ?_
            refine r_gR h rfl ?_
            refine r_lI h rfl (eq_true (by decide)) hf.1 ?_
            have hf := hf.2
            refine ⟨fun c => ?_, fun c => ?_⟩
            · have hf := hf.1 c
              exact fs_M_tellClients_63 k ih h hf
            · have hf := hf.2 c
              exact fs_M_tellClients_63 k ih h hf
          · have hf := hf.2 c
            exact fs_M_tellClients_121 k ih h hf
def fw_M_tellClients (Q : RA → RF → Prop)  (A : RA) (F : RF) : Prop := (∃ n, fw_M_tellClients_2 Q n 0 A F)
set_option maxRecDepth 100000 in
set_option maxHeartbeats 4000000 in
theorem fs_M_tellClients {N : wM} {Q : RA → RF → Prop} {post : wM → Prop}  {A : RA} {F : RF} {M : wM} (h : RM N A F M) (hf : fw_M_tellClients Q  A F) (k : ∀ A F M, RM N A F M → Q A F → post M) : wp_M_tellClients post (some (40, 0)) M := by
  unfold fw_M_tellClients at hf
  unfold wp_M_tellClients
  obtain ⟨n, hf⟩ := hf
  exact ⟨n, fs_M_tellClients_2 k n _ _ _ _ h hf⟩
def fw_M_completeIfDone_172 (Q : RA → RF → Prop) (k141 : Int32 → RA → RF → Prop) (x1 : Int32) (A : RA) (F : RF) : Prop := k141 (x1 + 1) A F
set_option maxRecDepth 100000 in
set_option maxHeartbeats 4000000 in
theorem fs_M_completeIfDone_172 {N : wM} {Q : RA → RF → Prop} {post : wM → Prop} {M : wM} (k : ∀ A F M, RM N A F M → Q A F → post M) {k141 : Int32 → RA → RF → Prop} {m141 : Option Ro → Int32 → wM → Prop} (hk141 : ∀ (x1 : Int32) (A : RA) (F : RF) (M : wM), RM N A F M → k141 x1 A F → m141 (some (40, 0)) x1 M) {x1 : Int32} {A : RA} {F : RF} (h : RM N A F M) (hf : fw_M_completeIfDone_172 Q k141 x1 A F) : wp_M_completeIfDone_172 post m141 (some (40, 0)) x1 M := by
  unfold fw_M_completeIfDone_172 at hf
  unfold wp_M_completeIfDone_172
  exact hk141 _ _ _ _ h hf
def fw_M_completeIfDone_141 (Q : RA → RF → Prop) : Nat → Int32 → RA → RF → Prop
  | 0, _, _, _ => False
  | n + 1, x1, A, F => ((F 15) < x1 → fw_M_tellClients (fun A179 F179 => Q A179 F179)  A F) ∧ (¬ (F 15) < x1 → flI A 16 x1 (fun a154 => (a154 < 0 → fw_M_completeIfDone_172 Q (fun x1 A F => fw_M_completeIfDone_141 Q n x1 A F) x1 A F) ∧ (¬ a154 < 0 → flI A 18 x1 (fun a163 => (a163 = 0 → fw_M_completeIfDone_172 Q (fun x1 A F => fw_M_completeIfDone_141 Q n x1 A F) x1 A F) ∧ (¬ a163 = 0 → fw_M_execute (fun A169 F169 => fw_M_completeIfDone_172 Q (fun x1 A F => fw_M_completeIfDone_141 Q n x1 A F) x1 A169 F169) x1 A F)))))
set_option maxRecDepth 100000 in
set_option maxHeartbeats 4000000 in
theorem fs_M_completeIfDone_141 {N : wM} {Q : RA → RF → Prop} {post : wM → Prop} (k : ∀ A F M, RM N A F M → Q A F → post M) : ∀ (n : Nat) (x1 : Int32) (A : RA) (F : RF) (M : wM), RM N A F M → fw_M_completeIfDone_141 Q n x1 A F → wp_M_completeIfDone_141 post n (some (40, 0)) x1 M := by
  intro n
  induction n with
  | zero => intro x1 A F M h hf; exact hf.elim
  | succ n ih =>
    intro x1 A F M h hf
    unfold fw_M_completeIfDone_141 at hf
    unfold wp_M_completeIfDone_141
    refine r_gI h rfl ?_
    refine ⟨fun c => ?_, fun c => ?_⟩
    · have hf := hf.1 c
      refine ⟨⟨_, _, rfl, h.1⟩, ?_⟩
      refine fs_M_tellClients h hf (fun A179 F179 M h hf => ?_)
      exact k _ _ _ h hf
    · have hf := hf.2 c
      refine r_gR h rfl ?_
      refine r_lI h rfl (eq_true (by decide)) hf.1 ?_
      have hf := hf.2
      refine ⟨fun c => ?_, fun c => ?_⟩
      · have hf := hf.1 c
        exact fs_M_completeIfDone_172 k ih h hf
      · have hf := hf.2 c
        refine r_gR h rfl ?_
        refine r_lZ h rfl (eq_true (by decide)) hf.1 ?_
        have hf := hf.2
        refine ⟨fun c => ?_, fun c => ?_⟩
        · have hf := hf.1 c
          exact fs_M_completeIfDone_172 k ih h hf
        · have hf := hf.2 c
          refine ⟨⟨_, _, rfl, h.1⟩, ?_⟩
          refine fs_M_execute h hf (fun A169 F169 M h hf => ?_)
          exact fs_M_completeIfDone_172 k ih h hf
def fw_M_completeIfDone_134 (Q : RA → RF → Prop) (x1 : Int32) (A : RA) (F : RF) : Prop := (∃ n, fw_M_completeIfDone_141 Q n ((F 24) + 1) A F)
set_option maxRecDepth 100000 in
set_option maxHeartbeats 4000000 in
theorem fs_M_completeIfDone_134 {N : wM} {Q : RA → RF → Prop} {post : wM → Prop} {M : wM} (k : ∀ A F M, RM N A F M → Q A F → post M) {x1 : Int32} {A : RA} {F : RF} (h : RM N A F M) (hf : fw_M_completeIfDone_134 Q x1 A F) : wp_M_completeIfDone_134 post (some (40, 0)) x1 M := by
  unfold fw_M_completeIfDone_134 at hf
  unfold wp_M_completeIfDone_134
  refine r_gI h rfl ?_
  obtain ⟨n, hf⟩ := hf
  exact ⟨n, fs_M_completeIfDone_141 k n _ _ _ _ h hf⟩
def fw_M_completeIfDone_66 (Q : RA → RF → Prop) : Nat → Int32 → RA → RF → Prop
  | 0, _, _, _ => False
  | n + 1, x1, A, F => ((40 : Int32) ≤ x1 → fpF F 24 (F 25) (fun F107 => fpF F107 25 0 (fun F112 => ((F112 24) ≤ (F112 23) → fw_M_completeIfDone_134 Q x1 A F112) ∧ (¬ (F112 24) ≤ (F112 23) → fpF F112 23 (F112 24) (fun F131 => fw_M_completeIfDone_134 Q x1 A F131))))) ∧ (¬ (40 : Int32) ≤ x1 → flI A 1 x1 (fun a82 => fsZ A 3 x1 a82 (fun A83 => flI A83 2 x1 (fun a94 => fsI A83 4 x1 a94 (fun A95 => fw_M_completeIfDone_66 Q n (x1 + 1) A95 F)))))
set_option maxRecDepth 100000 in
set_option maxHeartbeats 4000000 in
theorem fs_M_completeIfDone_66 {N : wM} {Q : RA → RF → Prop} {post : wM → Prop} (k : ∀ A F M, RM N A F M → Q A F → post M) : ∀ (n : Nat) (x1 : Int32) (A : RA) (F : RF) (M : wM), RM N A F M → fw_M_completeIfDone_66 Q n x1 A F → wp_M_completeIfDone_66 post n (some (40, 0)) x1 M := by
  intro n
  induction n with
  | zero => intro x1 A F M h hf; exact hf.elim
  | succ n ih =>
    intro x1 A F M h hf
    unfold fw_M_completeIfDone_66 at hf
    unfold wp_M_completeIfDone_66
    refine ⟨fun c => ?_, fun c => ?_⟩
    · have hf := hf.1 c
      refine r_gI h rfl ?_
      refine r_pF h rfl (fun M h => ?_) (by decide)
      refine r_pF h rfl (fun M h => ?_) (by decide)
      refine r_gI h rfl ?_
      refine r_gI h rfl ?_
      refine ⟨fun c => ?_, fun c => ?_⟩
      · have hf := hf.1 c
        exact fs_M_completeIfDone_134 k h hf
      · have hf := hf.2 c
        refine r_gI h rfl ?_
        refine r_pF h rfl (fun M h => ?_) (by decide)
        exact fs_M_completeIfDone_134 k h hf
    · have hf := hf.2 c
      refine r_gR h rfl ?_
      refine r_gR h rfl ?_
      refine r_lZ h rfl (eq_true (by decide)) hf.1 ?_
      have hf := hf.2
      refine r_sZ h rfl (eq_true (by decide)) hf.1 hf.2.1 (fun M h => ?_)
      have hf := hf.2.2
      refine r_gR h rfl ?_
      refine r_gR h rfl ?_
      refine r_lI h rfl (eq_true (by decide)) hf.1 ?_
      have hf := hf.2
      refine r_sI h rfl (eq_true (by decide)) hf.1 (fun M h => ?_)
      have hf := hf.2
      exact ih _ _ _ _ h hf
def fw_M_completeIfDone_30 (Q : RA → RF → Prop) : Nat → Int32 → RA → RF → Prop
  | 0, _, _, _ => False
  | n + 1, x1, A, F => ((F 0) ≤ x1 → fw_M_replay (fun A61 F61 => (∃ n, fw_M_completeIfDone_66 Q n 0 A61 F61)) ((F 25) - 1) A F) ∧ (¬ (F 0) ≤ x1 → flI A 26 x1 (fun a43 => (a43 ≤ 0 → fw_M_completeIfDone_30 Q n (x1 + 1) A F) ∧ (¬ a43 ≤ 0 → Q A F)))
set_option maxRecDepth 100000 in
set_option maxHeartbeats 4000000 in
theorem fs_M_completeIfDone_30 {N : wM} {Q : RA → RF → Prop} {post : wM → Prop} (k : ∀ A F M, RM N A F M → Q A F → post M) : ∀ (n : Nat) (x1 : Int32) (A : RA) (F : RF) (M : wM), RM N A F M → fw_M_completeIfDone_30 Q n x1 A F → wp_M_completeIfDone_30 post n (some (40, 0)) x1 M := by
  intro n
  induction n with
  | zero => intro x1 A F M h hf; exact hf.elim
  | succ n ih =>
    intro x1 A F M h hf
    unfold fw_M_completeIfDone_30 at hf
    unfold wp_M_completeIfDone_30
    refine r_gI h rfl ?_
    refine ⟨fun c => ?_, fun c => ?_⟩
    · have hf := hf.1 c
      refine r_gI h rfl ?_
      refine ⟨⟨_, _, rfl, h.1⟩, ?_⟩
      refine fs_M_replay h hf (fun A61 F61 M h hf => ?_)
      obtain ⟨n, hf⟩ := hf
      exact ⟨n, fs_M_completeIfDone_66 k n _ _ _ _ h hf⟩
    · have hf := hf.2 c
      refine r_gR h rfl ?_
      refine r_lI h rfl (eq_true (by decide)) hf.1 ?_
      have hf := hf.2
      refine ⟨fun c => ?_, fun c => ?_⟩
      · have hf := hf.1 c
        exact ih _ _ _ _ h hf
      · have hf := hf.2 c
        exact k _ _ _ h hf
def fw_M_completeIfDone_27 (Q : RA → RF → Prop)  (A : RA) (F : RF) : Prop := Q A F
set_option maxRecDepth 100000 in
set_option maxHeartbeats 4000000 in
theorem fs_M_completeIfDone_27 {N : wM} {Q : RA → RF → Prop} {post : wM → Prop} {M : wM} (k : ∀ A F M, RM N A F M → Q A F → post M)  {A : RA} {F : RF} (h : RM N A F M) (hf : fw_M_completeIfDone_27 Q  A F) : wp_M_completeIfDone_27 post (some (40, 0)) M := by
  unfold fw_M_completeIfDone_27 at hf
  unfold wp_M_completeIfDone_27
  exact k _ _ _ h hf
def fw_M_completeIfDone (Q : RA → RF → Prop)  (A : RA) (F : RF) : Prop := ((F 25) = 0 → fw_M_completeIfDone_27 Q A F) ∧ (¬ (F 25) = 0 → flI A 19 (F 25) (fun a15 => (a15 = ((1 <<< ((F 0) &&& 31)) - 1) → (∃ n, fw_M_completeIfDone_30 Q n 0 A F)) ∧ (¬ a15 = ((1 <<< ((F 0) &&& 31)) - 1) → fw_M_completeIfDone_27 Q A F)))
set_option maxRecDepth 100000 in
set_option maxHeartbeats 4000000 in
theorem fs_M_completeIfDone {N : wM} {Q : RA → RF → Prop} {post : wM → Prop}  {A : RA} {F : RF} {M : wM} (h : RM N A F M) (hf : fw_M_completeIfDone Q  A F) (k : ∀ A F M, RM N A F M → Q A F → post M) : wp_M_completeIfDone post (some (40, 0)) M := by
  unfold fw_M_completeIfDone at hf
  unfold wp_M_completeIfDone
  refine r_gI h rfl ?_
  refine ⟨fun c => ?_, fun c => ?_⟩
  · have hf := hf.1 c
    exact fs_M_completeIfDone_27 k h hf
  · have hf := hf.2 c
    refine r_gR h rfl ?_
    refine r_gI h rfl ?_
    refine r_lI h rfl (eq_true (by decide)) hf.1 ?_
    have hf := hf.2
    refine r_gI h rfl ?_
    refine ⟨fun c => ?_, fun c => ?_⟩
    · have hf := hf.1 c
      obtain ⟨n, hf⟩ := hf
      exact ⟨n, fs_M_completeIfDone_30 k n _ _ _ _ h hf⟩
    · have hf := hf.2 c
      exact fs_M_completeIfDone_27 k h hf
def fw_M_step_127 (Q : Int32 → RA → RF → Prop) (x1 : Int32) (x2 : Int32) (A : RA) (F : RF) : Prop := fw_M_execute (fun A129 F129 => fsZ A129 18 x2 1 (fun A138 => fw_M_tellClients (fun A140 F140 => Q 1 A140 F140)  A138 F129)) x2 A F
set_option maxRecDepth 100000 in
set_option maxHeartbeats 4000000 in
theorem fs_M_step_127 {N : wM} {Q : Int32 → RA → RF → Prop} {post : Int32 → wM → Prop} {M : wM} (k : ∀ r A F M, RM N A F M → Q r A F → post r M) {x1 : Int32} {x2 : Int32} {A : RA} {F : RF} (h : RM N A F M) (hf : fw_M_step_127 Q x1 x2 A F) : wp_M_step_127 post (some (40, 0)) x1 x2 M := by
  unfold fw_M_step_127 at hf
  unfold wp_M_step_127
  refine ⟨⟨_, _, rfl, h.1⟩, ?_⟩
  refine fs_M_execute h hf (fun A129 F129 M h hf => ?_)
  refine r_gR h rfl ?_
  refine r_sZ h rfl (eq_true (by decide)) hf.1 hf.2.1 (fun M h => ?_)
  have hf := hf.2.2
  refine ⟨⟨_, _, rfl, h.1⟩, ?_⟩
  refine fs_M_tellClients h hf (fun A140 F140 M h hf => ?_)
  exact k _ _ _ _ h hf
def fw_M_step_88 (Q : Int32 → RA → RF → Prop) (x1 : Int32) (x2 : Int32) (A : RA) (F : RF) : Prop := fw_M_completeIfDone (fun A89 F89 => Q 3 A89 F89)  A F
set_option maxRecDepth 100000 in
set_option maxHeartbeats 4000000 in
theorem fs_M_step_88 {N : wM} {Q : Int32 → RA → RF → Prop} {post : Int32 → wM → Prop} {M : wM} (k : ∀ r A F M, RM N A F M → Q r A F → post r M) {x1 : Int32} {x2 : Int32} {A : RA} {F : RF} (h : RM N A F M) (hf : fw_M_step_88 Q x1 x2 A F) : wp_M_step_88 post (some (40, 0)) x1 x2 M := by
  unfold fw_M_step_88 at hf
  unfold wp_M_step_88
  refine ⟨⟨_, _, rfl, h.1⟩, ?_⟩
  refine fs_M_completeIfDone h hf (fun A89 F89 M h hf => ?_)
  exact k _ _ _ _ h hf
def fw_M_step_38 (Q : Int32 → RA → RF → Prop) (x1 : Int32) (x2 : Int32) (A : RA) (F : RF) : Prop := (x2 ≤ (F 15) → flI A 19 x2 (fun a54 => fsI A 19 x2 (a54 ||| (1 <<< (x1 &&& 31))) (fun A59 => flI A59 16 x2 (fun a65 => (0 ≤ a65 → flI A59 16 x2 (fun a103 => flI A59 8 a103 (fun a104 => (a104 = 0 → fw_M_step_127 Q x1 x2 A59 F) ∧ (¬ a104 = 0 → flI A59 19 x2 (fun a113 => (a113 = ((1 <<< ((F 0) &&& 31)) - 1) → fw_M_step_127 Q x1 x2 A59 F) ∧ (¬ a113 = ((1 <<< ((F 0) &&& 31)) - 1) → Q 2 A59 F)))))) ∧ (¬ 0 ≤ a65 → (¬ x2 = (F 25) → fw_M_step_88 Q x1 x2 A59 F) ∧ (x2 = (F 25) → fw_M_rowsOf (fun a84 A84 F84 => fsI A84 26 x1 a84 (fun A87 => fw_M_step_88 Q x1 x2 A87 F84)) x1 A59 F)))))) ∧ (¬ x2 ≤ (F 15) → Q 0 A F)
set_option maxRecDepth 100000 in
set_option maxHeartbeats 4000000 in
theorem fs_M_step_38 {N : wM} {Q : Int32 → RA → RF → Prop} {post : Int32 → wM → Prop} {M : wM} (k : ∀ r A F M, RM N A F M → Q r A F → post r M) {x1 : Int32} {x2 : Int32} {A : RA} {F : RF} (h : RM N A F M) (hf : fw_M_step_38 Q x1 x2 A F) : wp_M_step_38 post (some (40, 0)) x1 x2 M := by
  unfold fw_M_step_38 at hf
  unfold wp_M_step_38
  refine r_gI h rfl ?_
  refine ⟨fun c => ?_, fun c => ?_⟩
  · have hf := hf.1 c
    refine r_gR h rfl ?_
    refine r_lI h rfl (eq_true (by decide)) hf.1 ?_
    have hf := hf.2
    refine r_sI h rfl (eq_true (by decide)) hf.1 (fun M h => ?_)
    have hf := hf.2
    refine r_gR h rfl ?_
    refine r_lI h rfl (eq_true (by decide)) hf.1 ?_
    have hf := hf.2
    refine ⟨fun c => ?_, fun c => ?_⟩
    · have hf := hf.1 c
      refine r_gR h rfl ?_
      refine r_gR h rfl ?_
      refine r_lI h rfl (eq_true (by decide)) hf.1 ?_
      have hf := hf.2
      refine r_lZ h rfl (eq_true (by decide)) hf.1 ?_
      have hf := hf.2
      refine ⟨fun c => ?_, fun c => ?_⟩
      · have hf := hf.1 c
        exact fs_M_step_127 k h hf
      · have hf := hf.2 c
        refine r_gR h rfl ?_
        refine r_lI h rfl (eq_true (by decide)) hf.1 ?_
        have hf := hf.2
        refine r_gI h rfl ?_
        refine ⟨fun c => ?_, fun c => ?_⟩
        · have hf := hf.1 c
          exact fs_M_step_127 k h hf
        · have hf := hf.2 c
          exact k _ _ _ _ h hf
    · have hf := hf.2 c
      refine r_gI h rfl ?_
      refine ⟨fun c => ?_, fun c => ?_⟩
      · have hf := hf.1 c
        exact fs_M_step_88 k h hf
      · have hf := hf.2 c
        refine r_gR h rfl ?_
        refine ⟨⟨_, _, rfl, h.1⟩, ?_⟩
        refine fs_M_rowsOf h hf (fun a84 A84 F84 M h hf => ?_)
        refine r_sI h rfl (eq_true (by decide)) hf.1 (fun M h => ?_)
        have hf := hf.2
        exact fs_M_step_88 k h hf
  · have hf := hf.2 c
    exact k _ _ _ _ h hf
def fw_M_step_15 (Q : Int32 → RA → RF → Prop) : Nat → Int32 → Int32 → RA → RF → Prop
  | 0, _, _, _, _ => False
  | n + 1, x1, x2, A, F => ((F 15) < x2 → fw_M_step_38 Q x1 x2 A F) ∧ (¬ (F 15) < x2 → fw_M_waits (fun a26 A26 F26 => (¬ a26 = 0 → fw_M_step_38 Q x1 x2 A26 F26) ∧ (a26 = 0 → fw_M_step_15 Q n x1 (x2 + 1) A26 F26)) x1 x2 A F)
set_option maxRecDepth 100000 in
set_option maxHeartbeats 4000000 in
theorem fs_M_step_15 {N : wM} {Q : Int32 → RA → RF → Prop} {post : Int32 → wM → Prop} (k : ∀ r A F M, RM N A F M → Q r A F → post r M) : ∀ (n : Nat) (x1 : Int32) (x2 : Int32) (A : RA) (F : RF) (M : wM), RM N A F M → fw_M_step_15 Q n x1 x2 A F → wp_M_step_15 post n (some (40, 0)) x1 x2 M := by
  intro n
  induction n with
  | zero => intro x1 x2 A F M h hf; exact hf.elim
  | succ n ih =>
    intro x1 x2 A F M h hf
    unfold fw_M_step_15 at hf
    unfold wp_M_step_15
    refine r_gI h rfl ?_
    refine ⟨fun c => ?_, fun c => ?_⟩
    · have hf := hf.1 c
      exact fs_M_step_38 k h hf
    · have hf := hf.2 c
      refine ⟨⟨_, _, rfl, h.1⟩, ?_⟩
      refine fs_M_waits h hf (fun a26 A26 F26 M h hf => ?_)
      refine ⟨fun c => ?_, fun c => ?_⟩
      · have hf := hf.1 c
        exact fs_M_step_38 k h hf
      · have hf := hf.2 c
        exact ih _ _ _ _ _ h hf
def fw_M_step (Q : Int32 → RA → RF → Prop) (x1 : Int32) (A : RA) (F : RF) : Prop := fw_M_outside (fun a5 => (a5 = 0 → (∃ n, fw_M_step_15 Q n x1 1 A F)) ∧ (¬ a5 = 0 → Q (-1) A F)) x1 (F 0)
set_option maxRecDepth 100000 in
set_option maxHeartbeats 4000000 in
theorem fs_M_step {N : wM} {Q : Int32 → RA → RF → Prop} {post : Int32 → wM → Prop} {x1 : Int32} {A : RA} {F : RF} {M : wM} (h : RM N A F M) (hf : fw_M_step Q x1 A F) (k : ∀ r A F M, RM N A F M → Q r A F → post r M) : wp_M_step post (some (40, 0)) x1 M := by
  unfold fw_M_step at hf
  unfold wp_M_step
  refine r_gI h rfl ?_
  refine fs_M_outside hf (fun a5 hf => ?_)
  refine ⟨fun c => ?_, fun c => ?_⟩
  · have hf := hf.1 c
    obtain ⟨n, hf⟩ := hf
    exact ⟨n, fs_M_step_15 k n _ _ _ _ _ h hf⟩
  · have hf := hf.2 c
    exact k _ _ _ _ h hf
def fw_M_flush (Q : Int32 → RA → RF → Prop)  (A : RA) (F : RF) : Prop := fpF F 23 (F 15) (fun F5 => fw_M_tellClients (fun A9 F9 => Q (F9 23) A9 F9)  A F5)
set_option maxRecDepth 100000 in
set_option maxHeartbeats 4000000 in
theorem fs_M_flush {N : wM} {Q : Int32 → RA → RF → Prop} {post : Int32 → wM → Prop}  {A : RA} {F : RF} {M : wM} (h : RM N A F M) (hf : fw_M_flush Q  A F) (k : ∀ r A F M, RM N A F M → Q r A F → post r M) : wp_M_flush post (some (40, 0)) M := by
  unfold fw_M_flush at hf
  unfold wp_M_flush
  refine r_gI h rfl ?_
  refine r_pF h rfl (fun M h => ?_) (by decide)
  refine ⟨⟨_, _, rfl, h.1⟩, ?_⟩
  refine fs_M_tellClients h hf (fun A9 F9 M h hf => ?_)
  refine r_gI h rfl ?_
  exact k _ _ _ _ h hf
def fw_M_snapshot (Q : Int32 → RA → RF → Prop)  (A : RA) (F : RF) : Prop := ((F 25) ≤ 0 → fw_M_next (fun a12 A12 F12 => fpF F12 25 a12 (fun F15 => Q (F15 25) A12 F15)) (-1) A F) ∧ (¬ (F 25) ≤ 0 → Q (-1) A F)
set_option maxRecDepth 100000 in
set_option maxHeartbeats 4000000 in
theorem fs_M_snapshot {N : wM} {Q : Int32 → RA → RF → Prop} {post : Int32 → wM → Prop}  {A : RA} {F : RF} {M : wM} (h : RM N A F M) (hf : fw_M_snapshot Q  A F) (k : ∀ r A F M, RM N A F M → Q r A F → post r M) : wp_M_snapshot post (some (40, 0)) M := by
  unfold fw_M_snapshot at hf
  unfold wp_M_snapshot
  refine r_gI h rfl ?_
  refine ⟨fun c => ?_, fun c => ?_⟩
  · have hf := hf.1 c
    refine ⟨⟨_, _, rfl, h.1⟩, ?_⟩
    refine fs_M_next h hf (fun a12 A12 F12 M h hf => ?_)
    refine r_pF h rfl (fun M h => ?_) (by decide)
    refine r_gI h rfl ?_
    exact k _ _ _ _ h hf
  · have hf := hf.2 c
    exact k _ _ _ _ h hf
def fw_M_scan_68 (Q : Int32 → RA → RF → Prop) (x1 : Int32) (x2 : Int32) (x3 : Int32) (s0 : Int32) (A : RA) (F : RF) : Prop := fsI A 26 x1 s0 (fun A77 => fw_M_completeIfDone (fun A79 F79 => Q s0 A79 F79)  A77 F)
set_option maxRecDepth 100000 in
set_option maxHeartbeats 4000000 in
theorem fs_M_scan_68 {N : wM} {Q : Int32 → RA → RF → Prop} {post : Int32 → wM → Prop} {M : wM} (k : ∀ r A F M, RM N A F M → Q r A F → post r M) {x1 : Int32} {x2 : Int32} {x3 : Int32} {s0 : Int32} {A : RA} {F : RF} (h : RM N A F M) (hf : fw_M_scan_68 Q x1 x2 x3 s0 A F) : wp_M_scan_68 post (some (40, 0)) x1 x2 x3 s0 M := by
  unfold fw_M_scan_68 at hf
  unfold wp_M_scan_68
  refine r_gR h rfl ?_
  refine r_sI h rfl (eq_true (by decide)) hf.1 (fun M h => ?_)
  have hf := hf.2
  refine ⟨⟨_, _, rfl, h.1⟩, ?_⟩
  refine fs_M_completeIfDone h hf (fun A79 F79 M h hf => ?_)
  exact k _ _ _ _ h hf
def fw_M_scan_45 (Q : Int32 → RA → RF → Prop) (x1 : Int32) (x2 : Int32) (s0 : Int32) (A : RA) (F : RF) : Prop := flI A 26 x1 (fun a51 => (a51 ≤ s0 → fw_M_scan_68 Q x1 x2 s0 0 A F) ∧ (¬ a51 ≤ s0 → flI A 26 x1 (fun a61 => fw_M_scan_68 Q x1 x2 s0 (a61 - s0) A F)))
set_option maxRecDepth 100000 in
set_option maxHeartbeats 4000000 in
theorem fs_M_scan_45 {N : wM} {Q : Int32 → RA → RF → Prop} {post : Int32 → wM → Prop} {M : wM} (k : ∀ r A F M, RM N A F M → Q r A F → post r M) {x1 : Int32} {x2 : Int32} {s0 : Int32} {A : RA} {F : RF} (h : RM N A F M) (hf : fw_M_scan_45 Q x1 x2 s0 A F) : wp_M_scan_45 post (some (40, 0)) x1 x2 s0 M := by
  unfold fw_M_scan_45 at hf
  unfold wp_M_scan_45
  refine r_gR h rfl ?_
  refine r_lI h rfl (eq_true (by decide)) hf.1 ?_
  have hf := hf.2
  refine ⟨fun c => ?_, fun c => ?_⟩
  · have hf := hf.1 c
    exact fs_M_scan_68 k h hf
  · have hf := hf.2 c
    refine r_gR h rfl ?_
    refine r_lI h rfl (eq_true (by decide)) hf.1 ?_
    have hf := hf.2
    exact fs_M_scan_68 k h hf
def fw_M_scan_34 (Q : Int32 → RA → RF → Prop) (x1 : Int32) (x2 : Int32) (A : RA) (F : RF) : Prop := Q (-1) A F
set_option maxRecDepth 100000 in
set_option maxHeartbeats 4000000 in
theorem fs_M_scan_34 {N : wM} {Q : Int32 → RA → RF → Prop} {post : Int32 → wM → Prop} {M : wM} (k : ∀ r A F M, RM N A F M → Q r A F → post r M) {x1 : Int32} {x2 : Int32} {A : RA} {F : RF} (h : RM N A F M) (hf : fw_M_scan_34 Q x1 x2 A F) : wp_M_scan_34 post (some (40, 0)) x1 x2 M := by
  unfold fw_M_scan_34 at hf
  unfold wp_M_scan_34
  exact k _ _ _ _ h hf
def fw_M_scan (Q : Int32 → RA → RF → Prop) (x1 : Int32) (x2 : Int32) (A : RA) (F : RF) : Prop := fw_M_outside (fun a5 => (¬ a5 = 0 → fw_M_scan_34 Q x1 x2 A F) ∧ (a5 = 0 → ((F 25) = 0 → fw_M_scan_34 Q x1 x2 A F) ∧ (¬ (F 25) = 0 → flI A 19 (F 25) (fun a26 => (¬ ((a26 >>> (x1 &&& 31)) &&& 1) = 0 → (0 ≤ x2 → fw_M_scan_45 Q x1 x2 x2 A F) ∧ (¬ 0 ≤ x2 → fw_M_scan_45 Q x1 x2 0 A F)) ∧ (((a26 >>> (x1 &&& 31)) &&& 1) = 0 → fw_M_scan_34 Q x1 x2 A F))))) x1 (F 0)
set_option maxRecDepth 100000 in
set_option maxHeartbeats 4000000 in
theorem fs_M_scan {N : wM} {Q : Int32 → RA → RF → Prop} {post : Int32 → wM → Prop} {x1 : Int32} {x2 : Int32} {A : RA} {F : RF} {M : wM} (h : RM N A F M) (hf : fw_M_scan Q x1 x2 A F) (k : ∀ r A F M, RM N A F M → Q r A F → post r M) : wp_M_scan post (some (40, 0)) x1 x2 M := by
  unfold fw_M_scan at hf
  unfold wp_M_scan
  refine r_gI h rfl ?_
  refine fs_M_outside hf (fun a5 hf => ?_)
  refine ⟨fun c => ?_, fun c => ?_⟩
  · have hf := hf.1 c
    exact fs_M_scan_34 k h hf
  · have hf := hf.2 c
    refine r_gI h rfl ?_
    refine ⟨fun c => ?_, fun c => ?_⟩
    · have hf := hf.1 c
      exact fs_M_scan_34 k h hf
    · have hf := hf.2 c
      refine r_gR h rfl ?_
      refine r_gI h rfl ?_
      refine r_lI h rfl (eq_true (by decide)) hf.1 ?_
      have hf := hf.2
      refine ⟨fun c => ?_, fun c => ?_⟩
      · have hf := hf.1 c
        refine ⟨fun c => ?_, fun c => ?_⟩
        · have hf := hf.1 c
          exact fs_M_scan_45 k h hf
        · have hf := hf.2 c
          exact fs_M_scan_45 k h hf
      · have hf := hf.2 c
        exact fs_M_scan_34 k h hf
def fw_M_crash_68 (Q : Int32 → RA → RF → Prop) (k46 : Int32 → RA → RF → Prop) (x1 : Int32) (A : RA) (F : RF) : Prop := k46 (x1 + 1) A F
set_option maxRecDepth 100000 in
set_option maxHeartbeats 4000000 in
theorem fs_M_crash_68 {N : wM} {Q : Int32 → RA → RF → Prop} {post : Int32 → wM → Prop} {M : wM} (k : ∀ r A F M, RM N A F M → Q r A F → post r M) {k46 : Int32 → RA → RF → Prop} {m46 : Option Ro → Int32 → wM → Prop} (hk46 : ∀ (x1 : Int32) (A : RA) (F : RF) (M : wM), RM N A F M → k46 x1 A F → m46 (some (40, 0)) x1 M) {x1 : Int32} {A : RA} {F : RF} (h : RM N A F M) (hf : fw_M_crash_68 Q k46 x1 A F) : wp_M_crash_68 post m46 (some (40, 0)) x1 M := by
  unfold fw_M_crash_68 at hf
  unfold wp_M_crash_68
  exact hk46 _ _ _ _ h hf
def fw_M_crash_46 (Q : Int32 → RA → RF → Prop) : Nat → Int32 → RA → RF → Prop
  | 0, _, _, _ => False
  | n + 1, x1, A, F => ((4 : Int32) ≤ x1 → Q (F 23) A F) ∧ (¬ (4 : Int32) ≤ x1 → flI A 27 x1 (fun a56 => (¬ a56 = (1 : Int32) → fw_M_crash_68 Q (fun x1 A F => fw_M_crash_46 Q n x1 A F) x1 A F) ∧ (a56 = (1 : Int32) → fsI A 27 x1 4 (fun A67 => fw_M_crash_68 Q (fun x1 A F => fw_M_crash_46 Q n x1 A F) x1 A67 F))))
set_option maxRecDepth 100000 in
set_option maxHeartbeats 4000000 in
theorem fs_M_crash_46 {N : wM} {Q : Int32 → RA → RF → Prop} {post : Int32 → wM → Prop} (k : ∀ r A F M, RM N A F M → Q r A F → post r M) : ∀ (n : Nat) (x1 : Int32) (A : RA) (F : RF) (M : wM), RM N A F M → fw_M_crash_46 Q n x1 A F → wp_M_crash_46 post n (some (40, 0)) x1 M := by
  intro n
  induction n with
  | zero => intro x1 A F M h hf; exact hf.elim
  | succ n ih =>
    intro x1 A F M h hf
    unfold fw_M_crash_46 at hf
    unfold wp_M_crash_46
    refine ⟨fun c => ?_, fun c => ?_⟩
    · have hf := hf.1 c
      refine r_gI h rfl ?_
      exact k _ _ _ _ h hf
    · have hf := hf.2 c
      refine r_gR h rfl ?_
      refine r_lI h rfl (eq_true (by decide)) hf.1 ?_
      have hf := hf.2
      refine ⟨fun c => ?_, fun c => ?_⟩
      · have hf := hf.1 c
        exact fs_M_crash_68 k ih h hf
      · have hf := hf.2 c
        refine r_gR h rfl ?_
        refine r_sI h rfl (eq_true (by decide)) hf.1 (fun M h => ?_)
        have hf := hf.2
        exact fs_M_crash_68 k ih h hf
def fw_M_crash_23 (Q : Int32 → RA → RF → Prop) : Nat → Int32 → RA → RF → Prop
  | 0, _, _, _ => False
  | n + 1, x1, A, F => ((F 15) < x1 → (∃ n, fw_M_crash_46 Q n 0 A F)) ∧ (¬ (F 15) < x1 → fsZ A 18 x1 1 (fun A37 => fw_M_crash_23 Q n (x1 + 1) A37 F))
set_option maxRecDepth 100000 in
set_option maxHeartbeats 4000000 in
theorem fs_M_crash_23 {N : wM} {Q : Int32 → RA → RF → Prop} {post : Int32 → wM → Prop} (k : ∀ r A F M, RM N A F M → Q r A F → post r M) : ∀ (n : Nat) (x1 : Int32) (A : RA) (F : RF) (M : wM), RM N A F M → fw_M_crash_23 Q n x1 A F → wp_M_crash_23 post n (some (40, 0)) x1 M := by
  intro n
  induction n with
  | zero => intro x1 A F M h hf; exact hf.elim
  | succ n ih =>
    intro x1 A F M h hf
    unfold fw_M_crash_23 at hf
    unfold wp_M_crash_23
    refine r_gI h rfl ?_
    refine ⟨fun c => ?_, fun c => ?_⟩
    · have hf := hf.1 c
      obtain ⟨n, hf⟩ := hf
      exact ⟨n, fs_M_crash_46 k n _ _ _ _ h hf⟩
    · have hf := hf.2 c
      refine r_gR h rfl ?_
      refine r_sZ h rfl (eq_true (by decide)) hf.1 hf.2.1 (fun M h => ?_)
      have hf := hf.2.2
      exact ih _ _ _ _ h hf
def fw_M_crash (Q : Int32 → RA → RF → Prop)  (A : RA) (F : RF) : Prop := fpF F 15 (F 23) (fun F5 => fw_M_replay (fun A13 F13 => fpF F13 25 0 (fun F18 => (∃ n, fw_M_crash_23 Q n 1 A13 F18))) (F5 15) A F5)
set_option maxRecDepth 100000 in
set_option maxHeartbeats 4000000 in
theorem fs_M_crash {N : wM} {Q : Int32 → RA → RF → Prop} {post : Int32 → wM → Prop}  {A : RA} {F : RF} {M : wM} (h : RM N A F M) (hf : fw_M_crash Q  A F) (k : ∀ r A F M, RM N A F M → Q r A F → post r M) : wp_M_crash post (some (40, 0)) M := by
  unfold fw_M_crash at hf
  unfold wp_M_crash
  refine r_gI h rfl ?_
  refine r_pF h rfl (fun M h => ?_) (by decide)
  refine r_gI h rfl ?_
  refine ⟨⟨_, _, rfl, h.1⟩, ?_⟩
  refine fs_M_replay h hf (fun A13 F13 M h hf => ?_)
  refine r_pF h rfl (fun M h => ?_) (by decide)
  obtain ⟨n, hf⟩ := hf
  exact ⟨n, fs_M_crash_23 k n _ _ _ _ h hf⟩
def fw_M_answer_18 (Q : Int32 → RA → RF → Prop) (x1 : Int32) (s0 : Int32) (A : RA) (F : RF) : Prop := Q s0 A F
set_option maxRecDepth 100000 in
set_option maxHeartbeats 4000000 in
theorem fs_M_answer_18 {N : wM} {Q : Int32 → RA → RF → Prop} {post : Int32 → wM → Prop} {M : wM} (k : ∀ r A F M, RM N A F M → Q r A F → post r M) {x1 : Int32} {s0 : Int32} {A : RA} {F : RF} (h : RM N A F M) (hf : fw_M_answer_18 Q x1 s0 A F) : wp_M_answer_18 post (some (40, 0)) x1 s0 M := by
  unfold fw_M_answer_18 at hf
  unfold wp_M_answer_18
  exact k _ _ _ _ h hf
def fw_M_answer (Q : Int32 → RA → RF → Prop) (x1 : Int32) (A : RA) (F : RF) : Prop := fw_M_outside (fun a2 => (a2 = 0 → flI A 27 x1 (fun a17 => fw_M_answer_18 Q x1 a17 A F)) ∧ (¬ a2 = 0 → fw_M_answer_18 Q x1 (-1) A F)) x1 4
set_option maxRecDepth 100000 in
set_option maxHeartbeats 4000000 in
theorem fs_M_answer {N : wM} {Q : Int32 → RA → RF → Prop} {post : Int32 → wM → Prop} {x1 : Int32} {A : RA} {F : RF} {M : wM} (h : RM N A F M) (hf : fw_M_answer Q x1 A F) (k : ∀ r A F M, RM N A F M → Q r A F → post r M) : wp_M_answer post (some (40, 0)) x1 M := by
  unfold fw_M_answer at hf
  unfold wp_M_answer
  refine fs_M_outside hf (fun a2 hf => ?_)
  refine ⟨fun c => ?_, fun c => ?_⟩
  · have hf := hf.1 c
    refine r_gR h rfl ?_
    refine r_lI h rfl (eq_true (by decide)) hf.1 ?_
    have hf := hf.2
    exact fs_M_answer_18 k h hf
  · have hf := hf.2 c
    exact fs_M_answer_18 k h hf
def fw_M_output_98 (Q : Int64 → RA → RF → Prop) (x1 : Int32) (x2 : Int32) (s0 : Int64) (A : RA) (F : RF) : Prop := Q s0 A F
set_option maxRecDepth 100000 in
set_option maxHeartbeats 4000000 in
theorem fs_M_output_98 {N : wM} {Q : Int64 → RA → RF → Prop} {post : Int64 → wM → Prop} {M : wM} (k : ∀ r A F M, RM N A F M → Q r A F → post r M) {x1 : Int32} {x2 : Int32} {s0 : Int64} {A : RA} {F : RF} (h : RM N A F M) (hf : fw_M_output_98 Q x1 x2 s0 A F) : wp_M_output_98 post (some (40, 0)) x1 x2 s0 M := by
  unfold fw_M_output_98 at hf
  unfold wp_M_output_98
  exact k _ _ _ _ h hf
def fw_M_output_40 (Q : Int64 → RA → RF → Prop) (x1 : Int32) (x2 : Int32) (s0 : Int64) (A : RA) (F : RF) : Prop := Q s0 A F
set_option maxRecDepth 100000 in
set_option maxHeartbeats 4000000 in
theorem fs_M_output_40 {N : wM} {Q : Int64 → RA → RF → Prop} {post : Int64 → wM → Prop} {M : wM} (k : ∀ r A F M, RM N A F M → Q r A F → post r M) {x1 : Int32} {x2 : Int32} {s0 : Int64} {A : RA} {F : RF} (h : RM N A F M) (hf : fw_M_output_40 Q x1 x2 s0 A F) : wp_M_output_40 post (some (40, 0)) x1 x2 s0 M := by
  unfold fw_M_output_40 at hf
  unfold wp_M_output_40
  exact k _ _ _ _ h hf
def fw_M_output (Q : Int64 → RA → RF → Prop) (x1 : Int32) (x2 : Int32) (A : RA) (F : RF) : Prop := fw_M_outside (fun a2 => (a2 = 0 → flI A 27 x1 (fun a17 => (¬ a17 = (3 : Int32) → flI A 27 x1 (fun a46 => (a46 = (2 : Int32) → (¬ x2 = ((-1) : Int32) → flI A 29 x1 (fun a74 => fw_M_outside (fun a75 => (a75 = 0 → flI A 30 ((4 * x1) + x2) (fun a96 => fw_M_output_98 Q x1 x2 a96.toInt64 A F)) ∧ (¬ a75 = 0 → fw_M_output_98 Q x1 x2 (1000000000000) A F)) x2 a74)) ∧ (x2 = ((-1) : Int32) → flI A 29 x1 (fun a65 => Q a65.toInt64 A F))) ∧ (¬ a46 = (2 : Int32) → Q (1000000000000) A F))) ∧ (a17 = (3 : Int32) → (¬ x2 = ((-1) : Int32) → fw_M_output_40 Q x1 x2 (1000000000000) A F) ∧ (x2 = ((-1) : Int32) → flI A 31 x1 (fun a32 => fw_M_output_40 Q x1 x2 a32.toInt64 A F))))) ∧ (¬ a2 = 0 → Q (1000000000000) A F)) x1 4
set_option maxRecDepth 100000 in
set_option maxHeartbeats 4000000 in
theorem fs_M_output {N : wM} {Q : Int64 → RA → RF → Prop} {post : Int64 → wM → Prop} {x1 : Int32} {x2 : Int32} {A : RA} {F : RF} {M : wM} (h : RM N A F M) (hf : fw_M_output Q x1 x2 A F) (k : ∀ r A F M, RM N A F M → Q r A F → post r M) : wp_M_output post (some (40, 0)) x1 x2 M := by
  unfold fw_M_output at hf
  unfold wp_M_output
  refine fs_M_outside hf (fun a2 hf => ?_)
  refine ⟨fun c => ?_, fun c => ?_⟩
  · have hf := hf.1 c
    refine r_gR h rfl ?_
    refine r_lI h rfl (eq_true (by decide)) hf.1 ?_
    have hf := hf.2
    refine ⟨fun c => ?_, fun c => ?_⟩
    · have hf := hf.1 c
      refine r_gR h rfl ?_
      refine r_lI h rfl (eq_true (by decide)) hf.1 ?_
      have hf := hf.2
      refine ⟨fun c => ?_, fun c => ?_⟩
      · have hf := hf.1 c
        refine ⟨fun c => ?_, fun c => ?_⟩
        · have hf := hf.1 c
          refine r_gR h rfl ?_
          refine r_lI h rfl (eq_true (by decide)) hf.1 ?_
          have hf := hf.2
          refine fs_M_outside hf (fun a75 hf => ?_)
          refine ⟨fun c => ?_, fun c => ?_⟩
          · have hf := hf.1 c
            refine r_gR h rfl ?_
            refine r_lI h rfl (eq_true (by decide)) hf.1 ?_
            have hf := hf.2
            exact fs_M_output_98 k h hf
          · have hf := hf.2 c
            exact fs_M_output_98 k h hf
        · have hf := hf.2 c
          refine r_gR h rfl ?_
          refine r_lI h rfl (eq_true (by decide)) hf.1 ?_
          have hf := hf.2
          exact k _ _ _ _ h hf
      · have hf := hf.2 c
        exact k _ _ _ _ h hf
    · have hf := hf.2 c
      refine ⟨fun c => ?_, fun c => ?_⟩
      · have hf := hf.1 c
        exact fs_M_output_40 k h hf
      · have hf := hf.2 c
        refine r_gR h rfl ?_
        refine r_lI h rfl (eq_true (by decide)) hf.1 ?_
        have hf := hf.2
        exact fs_M_output_40 k h hf
  · have hf := hf.2 c
    exact k _ _ _ _ h hf
def fw_M_row_31 (Q : Int64 → RA → RF → Prop) (x1 : Int32) (s0 : Int64) (A : RA) (F : RF) : Prop := Q s0 A F
set_option maxRecDepth 100000 in
set_option maxHeartbeats 4000000 in
theorem fs_M_row_31 {N : wM} {Q : Int64 → RA → RF → Prop} {post : Int64 → wM → Prop} {M : wM} (k : ∀ r A F M, RM N A F M → Q r A F → post r M) {x1 : Int32} {s0 : Int64} {A : RA} {F : RF} (h : RM N A F M) (hf : fw_M_row_31 Q x1 s0 A F) : wp_M_row_31 post (some (40, 0)) x1 s0 M := by
  unfold fw_M_row_31 at hf
  unfold wp_M_row_31
  exact k _ _ _ _ h hf
def fw_M_row_18 (Q : Int64 → RA → RF → Prop) (x1 : Int32) (A : RA) (F : RF) : Prop := fw_M_row_31 Q x1 (1000000000000) A F
set_option maxRecDepth 100000 in
set_option maxHeartbeats 4000000 in
theorem fs_M_row_18 {N : wM} {Q : Int64 → RA → RF → Prop} {post : Int64 → wM → Prop} {M : wM} (k : ∀ r A F M, RM N A F M → Q r A F → post r M) {x1 : Int32} {A : RA} {F : RF} (h : RM N A F M) (hf : fw_M_row_18 Q x1 A F) : wp_M_row_18 post (some (40, 0)) x1 M := by
  unfold fw_M_row_18 at hf
  unfold wp_M_row_18
  exact fs_M_row_31 k h hf
def fw_M_row (Q : Int64 → RA → RF → Prop) (x1 : Int32) (A : RA) (F : RF) : Prop := fw_M_outside (fun a3 => (¬ a3 = 0 → fw_M_row_18 Q x1 A F) ∧ (a3 = 0 → flI A 1 x1 (fun a14 => (¬ a14 = 0 → flI A 2 x1 (fun a29 => fw_M_row_31 Q x1 a29.toInt64 A F)) ∧ (a14 = 0 → fw_M_row_18 Q x1 A F)))) x1 32
set_option maxRecDepth 100000 in
set_option maxHeartbeats 4000000 in
theorem fs_M_row {N : wM} {Q : Int64 → RA → RF → Prop} {post : Int64 → wM → Prop} {x1 : Int32} {A : RA} {F : RF} {M : wM} (h : RM N A F M) (hf : fw_M_row Q x1 A F) (k : ∀ r A F M, RM N A F M → Q r A F → post r M) : wp_M_row post (some (40, 0)) x1 M := by
  unfold fw_M_row at hf
  unfold wp_M_row
  refine fs_M_outside hf (fun a3 hf => ?_)
  refine ⟨fun c => ?_, fun c => ?_⟩
  · have hf := hf.1 c
    exact fs_M_row_18 k h hf
  · have hf := hf.2 c
    refine r_gR h rfl ?_
    refine r_lZ h rfl (eq_true (by decide)) hf.1 ?_
    have hf := hf.2
    refine ⟨fun c => ?_, fun c => ?_⟩
    · have hf := hf.1 c
      refine r_gR h rfl ?_
      refine r_lI h rfl (eq_true (by decide)) hf.1 ?_
      have hf := hf.2
      exact fs_M_row_31 k h hf
    · have hf := hf.2 c
      exact fs_M_row_18 k h hf
def fw_M_replicated_25 (Q : Int64 → RA → RF → Prop) (x1 : Int32) (s0 : Int64) (A : RA) (F : RF) : Prop := Q s0 A F
set_option maxRecDepth 100000 in
set_option maxHeartbeats 4000000 in
theorem fs_M_replicated_25 {N : wM} {Q : Int64 → RA → RF → Prop} {post : Int64 → wM → Prop} {M : wM} (k : ∀ r A F M, RM N A F M → Q r A F → post r M) {x1 : Int32} {s0 : Int64} {A : RA} {F : RF} (h : RM N A F M) (hf : fw_M_replicated_25 Q x1 s0 A F) : wp_M_replicated_25 post (some (40, 0)) x1 s0 M := by
  unfold fw_M_replicated_25 at hf
  unfold wp_M_replicated_25
  exact k _ _ _ _ h hf
def fw_M_replicated (Q : Int64 → RA → RF → Prop) (x1 : Int32) (A : RA) (F : RF) : Prop := fw_M_outside (fun a3 => (a3 = 0 → flI A 2 (32 + x1) (fun a23 => fw_M_replicated_25 Q x1 a23.toInt64 A F)) ∧ (¬ a3 = 0 → fw_M_replicated_25 Q x1 (1000000000000) A F)) x1 8
set_option maxRecDepth 100000 in
set_option maxHeartbeats 4000000 in
theorem fs_M_replicated {N : wM} {Q : Int64 → RA → RF → Prop} {post : Int64 → wM → Prop} {x1 : Int32} {A : RA} {F : RF} {M : wM} (h : RM N A F M) (hf : fw_M_replicated Q x1 A F) (k : ∀ r A F M, RM N A F M → Q r A F → post r M) : wp_M_replicated post (some (40, 0)) x1 M := by
  unfold fw_M_replicated at hf
  unfold wp_M_replicated
  refine fs_M_outside hf (fun a3 hf => ?_)
  refine ⟨fun c => ?_, fun c => ?_⟩
  · have hf := hf.1 c
    refine r_gR h rfl ?_
    refine r_lI h rfl (eq_true (by decide)) hf.1 ?_
    have hf := hf.2
    exact fs_M_replicated_25 k h hf
  · have hf := hf.2 c
    exact fs_M_replicated_25 k h hf
def fw_M_waiting_37 (Q : Int32 → RA → RF → Prop) (k17 : Int32 → Int32 → Int32 → RA → RF → Prop) (x1 : Int32) (x2 : Int32) (x3 : Int32) (A : RA) (F : RF) : Prop := k17 x1 x2 (x3 + 1) A F
set_option maxRecDepth 100000 in
set_option maxHeartbeats 4000000 in
theorem fs_M_waiting_37 {N : wM} {Q : Int32 → RA → RF → Prop} {post : Int32 → wM → Prop} {M : wM} (k : ∀ r A F M, RM N A F M → Q r A F → post r M) {k17 : Int32 → Int32 → Int32 → RA → RF → Prop} {m17 : Option Ro → Int32 → Int32 → Int32 → wM → Prop} (hk17 : ∀ (x1 : Int32) (x2 : Int32) (x3 : Int32) (A : RA) (F : RF) (M : wM), RM N A F M → k17 x1 x2 x3 A F → m17 (some (40, 0)) x1 x2 x3 M) {x1 : Int32} {x2 : Int32} {x3 : Int32} {A : RA} {F : RF} (h : RM N A F M) (hf : fw_M_waiting_37 Q k17 x1 x2 x3 A F) : wp_M_waiting_37 post m17 (some (40, 0)) x1 x2 x3 M := by
  unfold fw_M_waiting_37 at hf
  unfold wp_M_waiting_37
  exact hk17 _ _ _ _ _ _ h hf
def fw_M_waiting_17 (Q : Int32 → RA → RF → Prop) : Nat → Int32 → Int32 → Int32 → RA → RF → Prop
  | 0, _, _, _, _, _ => False
  | n + 1, x1, x2, x3, A, F => ((F 15) < x3 → Q x2 A F) ∧ (¬ (F 15) < x3 → fw_M_waits (fun a28 A28 F28 => (a28 = 0 → fw_M_waiting_37 Q (fun x1 x2 x3 A F => fw_M_waiting_17 Q n x1 x2 x3 A F) x1 x2 x3 A28 F28) ∧ (¬ a28 = 0 → fw_M_waiting_37 Q (fun x1 x2 x3 A F => fw_M_waiting_17 Q n x1 x2 x3 A F) x1 (x2 + 1) x3 A28 F28)) x1 x3 A F)
set_option maxRecDepth 100000 in
set_option maxHeartbeats 4000000 in
theorem fs_M_waiting_17 {N : wM} {Q : Int32 → RA → RF → Prop} {post : Int32 → wM → Prop} (k : ∀ r A F M, RM N A F M → Q r A F → post r M) : ∀ (n : Nat) (x1 : Int32) (x2 : Int32) (x3 : Int32) (A : RA) (F : RF) (M : wM), RM N A F M → fw_M_waiting_17 Q n x1 x2 x3 A F → wp_M_waiting_17 post n (some (40, 0)) x1 x2 x3 M := by
  intro n
  induction n with
  | zero => intro x1 x2 x3 A F M h hf; exact hf.elim
  | succ n ih =>
    intro x1 x2 x3 A F M h hf
    unfold fw_M_waiting_17 at hf
    unfold wp_M_waiting_17
    refine r_gI h rfl ?_
    refine ⟨fun c => ?_, fun c => ?_⟩
    · have hf := hf.1 c
      exact k _ _ _ _ h hf
    · have hf := hf.2 c
      refine ⟨⟨_, _, rfl, h.1⟩, ?_⟩
      refine fs_M_waits h hf (fun a28 A28 F28 M h hf => ?_)
      refine ⟨fun c => ?_, fun c => ?_⟩
      · have hf := hf.1 c
        exact fs_M_waiting_37 k ih h hf
      · have hf := hf.2 c
        exact fs_M_waiting_37 k ih h hf
def fw_M_waiting (Q : Int32 → RA → RF → Prop) (x1 : Int32) (A : RA) (F : RF) : Prop := fw_M_outside (fun a5 => (a5 = 0 → (∃ n, fw_M_waiting_17 Q n x1 0 1 A F)) ∧ (¬ a5 = 0 → Q (-1) A F)) x1 (F 0)
set_option maxRecDepth 100000 in
set_option maxHeartbeats 4000000 in
theorem fs_M_waiting {N : wM} {Q : Int32 → RA → RF → Prop} {post : Int32 → wM → Prop} {x1 : Int32} {A : RA} {F : RF} {M : wM} (h : RM N A F M) (hf : fw_M_waiting Q x1 A F) (k : ∀ r A F M, RM N A F M → Q r A F → post r M) : wp_M_waiting post (some (40, 0)) x1 M := by
  unfold fw_M_waiting at hf
  unfold wp_M_waiting
  refine r_gI h rfl ?_
  refine fs_M_outside hf (fun a5 hf => ?_)
  refine ⟨fun c => ?_, fun c => ?_⟩
  · have hf := hf.1 c
    obtain ⟨n, hf⟩ := hf
    exact ⟨n, fs_M_waiting_17 k n _ _ _ _ _ _ h hf⟩
  · have hf := hf.2 c
    exact k _ _ _ _ h hf
