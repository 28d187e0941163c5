/-- the first i places of g, behind them f -/
def cpf (f g : Fn) (i : Nat) : Fn := fun j => if j < i then g j else f j
theorem cpf_0 {f g : Fn} : cpf f g 0 = f := by
  funext j
  simp [cpf]
theorem cpf_s {f g : Fn} {i : Nat} : upd (cpf f g i) i (g i) = cpf f g (i + 1) := by
  funext j
  by_cases h : j = i
  · subst h
    simp [cpf, upd]
  · by_cases h2 : j < i
    · simp [cpf, upd, h, h2, show j < i + 1 by omega]
    · simp [cpf, upd, h, h2, show ¬ j < i + 1 by omega]
theorem cpf_in {f g : Fn} {i j : Nat} (h : j < i) : cpf f g i j = g j := by simp [cpf, h]
set_option maxHeartbeats 4000000 in
theorem f_save {Q : RA → RF → Prop} {x1 : Int32} {A : RA} {F : RF} (hb : ∀ j, j < 40 → A 1 j = 0 ∨ A 1 j = 1) (hx : ∃ n, fw_M_execute_40 Q n x1 0 (upA (upA A 5 (cpf (A 5) (A 1) 40)) 6 (cpf (A 6) (A 2) 40)) F) : ∃ n, fw_M_execute_2 Q n x1 0 A F := by
  have key : ∀ m i, i + m = 40 → ∀ x, x = nI i → fw_M_execute_2 Q (m + 1) x1 x (upA (upA A 5 (cpf (A 5) (A 1) i)) 6 (cpf (A 6) (A 2) i)) F := by
    intro m
    induction m with
    | zero =>
      intro i hi x ex
      subst ex
      rw [show i = 40 by omega]
      unfold fw_M_execute_2
      exact ⟨fun _ => hx, fun c => absurd (show (40 : Int32) ≤ nI 40 by decide) c⟩
    | succ m ih =>
      intro i hi x ex
      subst ex
      have e : (nI i).toNatClampNeg = i := nI_clamp (by omega)
      have hin : vp_in (nI i) 40 := vp_in_nI (by omega) (by decide)
      unfold fw_M_execute_2
      refine ⟨fun c => absurd ((nI_leI (a := 40) (by decide) (by omega)).mp c) (by omega), fun _ => ?_⟩
      dsimp only [flI, fsI, fsZ]
      rw [e]
      refine ⟨hin, hin, ?_, hin, hin, ?_⟩
      · show A 1 i = 0 ∨ A 1 i = 1
        exact hb i (by omega)
      · have := ih (i + 1) (by omega) (nI i + 1) (nI_1 i)
        have ea : upA (upA (upA (upA A 5 (cpf (A 5) (A 1) i)) 6 (cpf (A 6) (A 2) i)) 5 (upd (cpf (A 5) (A 1) i) i (A 1 i))) 6 (upd (cpf (A 6) (A 2) i) i (A 2 i)) = upA (upA A 5 (cpf (A 5) (A 1) (i + 1))) 6 (cpf (A 6) (A 2) (i + 1)) := by
          rw [cpf_s, cpf_s]
          funext k
          by_cases h1 : k = 6
          · simp [upA, h1]
          · by_cases h2 : k = 5
            · simp [upA, h2]
            · simp [upA, h1, h2]
        rw [← ea] at this
        exact this
  refine ⟨41, ?_⟩
  have h0 := key 40 0 rfl 0 nI_0.symm
  have e0 : upA (upA A 5 (cpf (A 5) (A 1) 0)) 6 (cpf (A 6) (A 2) 0) = A := by
    rw [cpf_0, cpf_0]
    funext k
    by_cases h1 : k = 6
    · simp [upA, h1]
    · by_cases h2 : k = 5
      · simp [upA, h2]
      · simp [upA, h1, h2]
  rw [e0] at h0
  exact h0
set_option maxHeartbeats 4000000 in
theorem f_back {Q : RA → RF → Prop} {x1 x2 x3 : Int32} {A : RA} {F : RF} (hb : ∀ j, j < 40 → A 5 j = 0 ∨ A 5 j = 1) (hx : Q (upA (upA A 1 (cpf (A 1) (A 5) 40)) 2 (cpf (A 2) (A 6) 40)) F) : ∃ n, fw_M_execute_210 Q n x1 x2 x3 0 A F := by
  have key : ∀ m i, i + m = 40 → ∀ x, x = nI i → fw_M_execute_210 Q (m + 1) x1 x2 x3 x (upA (upA A 1 (cpf (A 1) (A 5) i)) 2 (cpf (A 2) (A 6) i)) F := by
    intro m
    induction m with
    | zero =>
      intro i hi x ex
      subst ex
      rw [show i = 40 by omega]
      unfold fw_M_execute_210
      exact ⟨fun _ => hx, fun c => absurd (show (40 : Int32) ≤ nI 40 by decide) c⟩
    | succ m ih =>
      intro i hi x ex
      subst ex
      have e : (nI i).toNatClampNeg = i := nI_clamp (by omega)
      have hin : vp_in (nI i) 40 := vp_in_nI (by omega) (by decide)
      unfold fw_M_execute_210
      refine ⟨fun c => absurd ((nI_leI (a := 40) (by decide) (by omega)).mp c) (by omega), fun _ => ?_⟩
      dsimp only [flI, fsI, fsZ]
      rw [e]
      refine ⟨hin, hin, ?_, hin, hin, ?_⟩
      · show A 5 i = 0 ∨ A 5 i = 1
        exact hb i (by omega)
      · have := ih (i + 1) (by omega) (nI i + 1) (nI_1 i)
        have ea : upA (upA (upA (upA A 1 (cpf (A 1) (A 5) i)) 2 (cpf (A 2) (A 6) i)) 1 (upd (cpf (A 1) (A 5) i) i (A 5 i))) 2 (upd (cpf (A 2) (A 6) i) i (A 6 i)) = upA (upA A 1 (cpf (A 1) (A 5) (i + 1))) 2 (cpf (A 2) (A 6) (i + 1)) := by
          rw [cpf_s, cpf_s]
          funext k
          by_cases h1 : k = 2
          · simp [upA, h1]
          · by_cases h2 : k = 1
            · simp [upA, h2]
            · simp [upA, h1, h2]
        rw [← ea] at this
        exact this
  refine ⟨41, ?_⟩
  have h0 := key 40 0 rfl 0 nI_0.symm
  have e0 : upA (upA A 1 (cpf (A 1) (A 5) 0)) 2 (cpf (A 2) (A 6) 0) = A := by
    rw [cpf_0, cpf_0]
    funext k
    by_cases h1 : k = 2
    · simp [upA, h1]
    · by_cases h2 : k = 1
      · simp [upA, h2]
      · simp [upA, h1, h2]
  rw [e0] at h0
  exact h0
set_option maxHeartbeats 4000000 in
theorem f_base {Q : RA → RF → Prop} {x1 : Int32} {A : RA} {F : RF} (hb : ∀ j, j < 40 → A 3 j = 0 ∨ A 3 j = 1) (hx : ∃ n, fw_M_replay_45 Q n x1 (F 24 + 1) (upA (upA A 1 (cpf (A 1) (A 3) 40)) 2 (cpf (A 2) (A 4) 40)) F) : ∃ n, fw_M_replay_2 Q n x1 0 A F := by
  have key : ∀ m i, i + m = 40 → ∀ x, x = nI i → fw_M_replay_2 Q (m + 1) x1 x (upA (upA A 1 (cpf (A 1) (A 3) i)) 2 (cpf (A 2) (A 4) i)) F := by
    intro m
    induction m with
    | zero =>
      intro i hi x ex
      subst ex
      rw [show i = 40 by omega]
      unfold fw_M_replay_2
      exact ⟨fun _ => hx, fun c => absurd (show (40 : Int32) ≤ nI 40 by decide) c⟩
    | succ m ih =>
      intro i hi x ex
      subst ex
      have e : (nI i).toNatClampNeg = i := nI_clamp (by omega)
      have hin : vp_in (nI i) 40 := vp_in_nI (by omega) (by decide)
      unfold fw_M_replay_2
      refine ⟨fun c => absurd ((nI_leI (a := 40) (by decide) (by omega)).mp c) (by omega), fun _ => ?_⟩
      dsimp only [flI, fsI, fsZ]
      rw [e]
      refine ⟨hin, hin, ?_, hin, hin, ?_⟩
      · show A 3 i = 0 ∨ A 3 i = 1
        exact hb i (by omega)
      · have := ih (i + 1) (by omega) (nI i + 1) (nI_1 i)
        have ea : upA (upA (upA (upA A 1 (cpf (A 1) (A 3) i)) 2 (cpf (A 2) (A 4) i)) 1 (upd (cpf (A 1) (A 3) i) i (A 3 i))) 2 (upd (cpf (A 2) (A 4) i) i (A 4 i)) = upA (upA A 1 (cpf (A 1) (A 3) (i + 1))) 2 (cpf (A 2) (A 4) (i + 1)) := by
          rw [cpf_s, cpf_s]
          funext k
          by_cases h1 : k = 2
          · simp [upA, h1]
          · by_cases h2 : k = 1
            · simp [upA, h2]
            · simp [upA, h1, h2]
        rw [← ea] at this
        exact this
  refine ⟨41, ?_⟩
  have h0 := key 40 0 rfl 0 nI_0.symm
  have e0 : upA (upA A 1 (cpf (A 1) (A 3) 0)) 2 (cpf (A 2) (A 4) 0) = A := by
    rw [cpf_0, cpf_0]
    funext k
    by_cases h1 : k = 2
    · simp [upA, h1]
    · by_cases h2 : k = 1
      · simp [upA, h2]
      · simp [upA, h1, h2]
  rw [e0] at h0
  exact h0
set_option maxHeartbeats 4000000 in
theorem f_take {Q : RA → RF → Prop} {A : RA} {F : RF} (hb : ∀ j, j < 40 → A 1 j = 0 ∨ A 1 j = 1) (hx : fpF F 24 (F 25) (fun F107 => fpF F107 25 0 (fun F112 => ((F112 24) ≤ (F112 23) → fw_M_completeIfDone_134 Q 40 (upA (upA A 3 (cpf (A 3) (A 1) 40)) 4 (cpf (A 4) (A 2) 40)) F112) ∧ (¬ (F112 24) ≤ (F112 23) → fpF F112 23 (F112 24) (fun F131 => fw_M_completeIfDone_134 Q 40 (upA (upA A 3 (cpf (A 3) (A 1) 40)) 4 (cpf (A 4) (A 2) 40)) F131))))) : ∃ n, fw_M_completeIfDone_66 Q n 0 A F := by
  have key : ∀ m i, i + m = 40 → ∀ x, x = nI i → fw_M_completeIfDone_66 Q (m + 1) x (upA (upA A 3 (cpf (A 3) (A 1) i)) 4 (cpf (A 4) (A 2) i)) F := by
    intro m
    induction m with
    | zero =>
      intro i hi x ex
      subst ex
      rw [show i = 40 by omega]
      unfold fw_M_completeIfDone_66
      exact ⟨fun _ => hx, fun c => absurd (show (40 : Int32) ≤ nI 40 by decide) c⟩
    | succ m ih =>
      intro i hi x ex
      subst ex
      have e : (nI i).toNatClampNeg = i := nI_clamp (by omega)
      have hin : vp_in (nI i) 40 := vp_in_nI (by omega) (by decide)
      unfold fw_M_completeIfDone_66
      refine ⟨fun c => absurd ((nI_leI (a := 40) (by decide) (by omega)).mp c) (by omega), fun _ => ?_⟩
      dsimp only [flI, fsI, fsZ]
      rw [e]
      refine ⟨hin, hin, ?_, hin, hin, ?_⟩
      · show A 1 i = 0 ∨ A 1 i = 1
        exact hb i (by omega)
      · have := ih (i + 1) (by omega) (nI i + 1) (nI_1 i)
        have ea : upA (upA (upA (upA A 3 (cpf (A 3) (A 1) i)) 4 (cpf (A 4) (A 2) i)) 3 (upd (cpf (A 3) (A 1) i) i (A 1 i))) 4 (upd (cpf (A 4) (A 2) i) i (A 2 i)) = upA (upA A 3 (cpf (A 3) (A 1) (i + 1))) 4 (cpf (A 4) (A 2) (i + 1)) := by
          rw [cpf_s, cpf_s]
          funext k
          by_cases h1 : k = 4
          · simp [upA, h1]
          · by_cases h2 : k = 3
            · simp [upA, h2]
            · simp [upA, h1, h2]
        rw [← ea] at this
        exact this
  refine ⟨41, ?_⟩
  have h0 := key 40 0 rfl 0 nI_0.symm
  have e0 : upA (upA A 3 (cpf (A 3) (A 1) 0)) 4 (cpf (A 4) (A 2) 0) = A := by
    rw [cpf_0, cpf_0]
    funext k
    by_cases h1 : k = 4
    · simp [upA, h1]
    · by_cases h2 : k = 3
      · simp [upA, h2]
      · simp [upA, h1, h2]
  rw [e0] at h0
  exact h0
