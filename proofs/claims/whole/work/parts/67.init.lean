/-! the constructors -/
abbrev s00 : DB := (z0, z0)
theorem q_fillL {post : wM → Prop} {r : Ro} {n : Nat} {f : Nat → Int64} {M : wM} {v : Int64} (hn : n < 1000) (h : M r = some (al 1 n f)) (k : ∀ g, (∀ j, j < n → g j = v) → post (up M r (al 1 n g))) : wp_Ar_fill0 post (some r) v M := by
  unfold wp_Ar_fill0
  refine k_aN h (by decide) ⟨n + 1, ?_⟩
  have key : ∀ m i g, i + m = n → (∀ j, j < i → g j = v) → wp_Ar_fill0_6 post (m + 1) (some r) v (nI i) (nI n) (up M r (al 1 n g)) := by
    intro m
    induction m with
    | zero =>
      intro i g hi hg
      unfold wp_Ar_fill0_6
      exact ⟨fun _ => k g (fun j hj => hg j (by omega)), fun c => absurd (nI_le (by omega) (by omega)) c⟩
    | succ m ih =>
      intro i g hi hg
      unfold wp_Ar_fill0_6
      refine ⟨fun c => absurd ((nI_leI (by omega) (by omega)).mp c) (by omega), fun _ => k_sL up_s rfl (by omega) (by omega) ?_⟩
      rw [nI_1, up_up]
      refine ih (i + 1) _ (by omega) (fun j hj => ?_)
      unfold vp_updL
      by_cases e : j = i
      · rw [if_pos e]
      · rw [if_neg e]
        exact hg j (by omega)
  have := key n 0 f (by omega) (fun j hj => by omega)
  rw [up_id h] at this
  exact this
theorem i_B {post : wM → Prop} {t : Nat} {M : wM} (h6 : M (6, t) = some (ob 6 fd_6)) (h22 : M (22, t) = none) (h23 : M (23, t) = none) (k : ∀ M', Tb t s00 M' → (∀ r : Ro, r ≠ (6, t) → r ≠ (22, t) → r ≠ (23, t) → M' r = M r) → post M') : wp_B_init post (some (6, t)) M := by
  unfold wp_B_init
  refine ⟨⟨_, rfl⟩, k_nA (i := 32) (22, t) rfl (Nat.le_refl _) (by decide) (by show (22 : Nat) < 90; decide) h22 (k_pF (fs' := [vR (some (22, t)), vR none]) ((up_n (rne (by decide))).trans h6) (Nat.le_of_ble_eq_true rfl) rfl (k_nA (i := 8) (23, t) rfl (Nat.le_refl _) (by decide) (by show (23 : Nat) < 90; decide) ((up_n (rne (by decide))).trans ((up_n (rne (by decide))).trans h23)) (k_pF (fs' := [vR (some (22, t)), vR (some (23, t))]) ((up_n (rne (by decide))).trans up_s) (Nat.le_of_ble_eq_true rfl) rfl (k_gR up_s rfl (q_fillL (n := 32) (by decide) ((up_n (rne (by decide))).trans ((up_n (rne (by decide))).trans ((up_n (rne (by decide))).trans up_s))) (fun g hg => k _ ⟨?_, ⟨g, up_s, fun j hj => ?_⟩, fun _ => 0, ?_, fun j hj => rfl⟩ (fun r z1 z2 z3 => ?_)))))))⟩
  · rw [up_n (rne (by decide)), up_s]
  · rw [hg j hj]
    rfl
  · rw [up_n (rne (by decide)), up_n (rne (by decide)), up_s]
  · rw [up_n z2, up_n z1, up_n z3, up_n z1, up_n z2]
theorem i_R {post : wM → Prop} {x : Int32} {M : wM} (h3 : M (3, 0) = some (ob 3 fd_3)) (hf : ∀ r : Ro, r = (6, 0) ∨ r = (6, 1) ∨ r = (22, 0) ∨ r = (22, 1) ∨ r = (23, 0) ∨ r = (23, 1) ∨ r = (24, 0) ∨ r = (25, 0) → M r = none) (k : ∀ M', Rn x (-1) z0 0 z0 0 M' → Tb 0 s00 M' → Tb 1 s00 M' → (∀ r : Ro, r.1 ≠ 3 → r.1 ≠ 24 → r.1 ≠ 25 → ¬ ((r.1 = 6 ∨ r.1 = 22 ∨ r.1 = 23) ∧ r.2 ≤ 1) → M' r = M r) → post M') : wp_R_init post (some (3, 0)) x M := by
  unfold wp_R_init
  refine ⟨⟨_, rfl⟩, k_nO (6, 0) (by show (6 : Nat) < 90; decide) (hf _ (Or.inl rfl)) (k_cV up_s (i_B up_s ((up_n (rne (by decide))).trans (hf _ (by simp))) ((up_n (rne (by decide))).trans (hf _ (by simp))) (fun M1 a1 o1 => ?_)))⟩
  have b1 : ∀ r : Ro, ¬ ((r.1 = 6 ∨ r.1 = 22 ∨ r.1 = 23) ∧ r.2 = 0) → M1 r = M r := fun r z => (o1 r (fun e => z (by rw [e]; simp)) (fun e => z (by rw [e]; simp)) (fun e => z (by rw [e]; simp))).trans (up_n (fun e => z (by rw [e]; simp)))
  refine k_pF (fs' := [vR (some (6, 0)), vI 0, vR none, vR none, vI 0, vR none, vI 0, vI 0]) ((b1 _ (by simp)).trans h3) (Nat.le_of_ble_eq_true rfl) rfl ?_
  generalize hM2 : up M1 (3, 0) _ = M2
  have m2 : M2 (3, 0) = some (ob 3 [vR (some (6, 0)), vI 0, vR none, vR none, vI 0, vR none, vI 0, vI 0]) := by rw [← hM2]; exact up_s
  have o2 : ∀ r : Ro, r ≠ (3, 0) → M2 r = M1 r := fun r z => by rw [← hM2, up_n z]
  have n2 : ∀ r : Ro, r = (6, 1) ∨ r = (22, 1) ∨ r = (23, 1) ∨ r = (24, 0) ∨ r = (25, 0) → M2 r = none := fun r hr => by
    rcases hr with rfl | rfl | rfl | rfl | rfl <;> exact (o2 _ (by decide)).trans ((b1 _ (by decide)).trans (hf _ (by simp)))
  refine k_nO (6, 1) (by show (6 : Nat) < 90; decide) (n2 _ (Or.inl rfl)) (k_cV up_s (i_B up_s ((up_n (rne (by decide))).trans (n2 _ (by simp))) ((up_n (rne (by decide))).trans (n2 _ (by simp))) (fun M3 a3 o3 => ?_)))
  have b3 : ∀ r : Ro, ¬ ((r.1 = 6 ∨ r.1 = 22 ∨ r.1 = 23) ∧ r.2 = 1) → M3 r = M2 r := fun r z => (o3 r (fun e => z (by rw [e]; simp)) (fun e => z (by rw [e]; simp)) (fun e => z (by rw [e]; simp))).trans (up_n (fun e => z (by rw [e]; simp)))
  have t0 : Tb 0 s00 M3 := Tb_off a1 ((b3 _ (by decide)).trans (o2 _ (by decide))) ((b3 _ (by decide)).trans (o2 _ (by decide))) ((b3 _ (by decide)).trans (o2 _ (by decide)))
  refine k_pF (fs' := [vR (some (6, 0)), vI 0, vR (some (6, 1)), vR none, vI 0, vR none, vI 0, vI 0]) ((b3 _ (by decide)).trans m2) (Nat.le_of_ble_eq_true rfl) rfl (k_nA (i := 6) (24, 0) rfl (Nat.le_refl _) (by decide) (by decide) ((up_n (rne (by decide))).trans ((b3 _ (by decide)).trans (n2 _ (by simp)))) (k_pF (fs' := [vR (some (6, 0)), vI 0, vR (some (6, 1)), vR (some (24, 0)), vI 0, vR none, vI 0, vI 0]) ((up_n (rne (by decide))).trans up_s) (Nat.le_of_ble_eq_true rfl) rfl (k_pF (fs' := [vR (some (6, 0)), vI 0, vR (some (6, 1)), vR (some (24, 0)), vI (-1), vR none, vI 0, vI 0]) up_s (Nat.le_of_ble_eq_true rfl) rfl (k_nA (i := 4) (25, 0) rfl (Nat.le_refl _) (by decide) (by decide) ((up_n (rne (by decide))).trans ((up_n (rne (by decide))).trans ((up_n (rne (by decide))).trans ((up_n (rne (by decide))).trans ((b3 _ (by decide)).trans (n2 _ (by simp))))))) (k_pF (fs' := [vR (some (6, 0)), vI 0, vR (some (6, 1)), vR (some (24, 0)), vI (-1), vR (some (25, 0)), vI 0, vI 0]) ((up_n (rne (by decide))).trans up_s) (Nat.le_of_ble_eq_true rfl) rfl (k_pF (fs' := [vR (some (6, 0)), vI 0, vR (some (6, 1)), vR (some (24, 0)), vI (-1), vR (some (25, 0)), vI 0, vI 0]) up_s (Nat.le_of_ble_eq_true rfl) rfl (k_pF (fs' := [vR (some (6, 0)), vI 0, vR (some (6, 1)), vR (some (24, 0)), vI (-1), vR (some (25, 0)), vI 0, vI 0]) up_s (Nat.le_of_ble_eq_true rfl) rfl (k_pF (fs' := [vR (some (6, 0)), vI x, vR (some (6, 1)), vR (some (24, 0)), vI (-1), vR (some (25, 0)), vI 0, vI 0]) up_s (Nat.le_of_ble_eq_true rfl) rfl ?_))))))))
  generalize hM4 : up _ (3, 0) _ = M4
  have hx : ∀ r : Ro, r ≠ (3, 0) → r ≠ (24, 0) → r ≠ (25, 0) → M4 r = M3 r := fun r z1 z2 z3 => by rw [← hM4, up_n z1, up_n z1, up_n z1, up_n z1, up_n z3, up_n z1, up_n z1, up_n z2, up_n z1]
  refine k M4 ⟨?_, ?_, ?_⟩ (Tb_off t0 (hx _ (by decide) (by decide) (by decide)) (hx _ (by decide) (by decide) (by decide)) (hx _ (by decide) (by decide) (by decide))) (Tb_off a3 (hx _ (by decide) (by decide) (by decide)) (hx _ (by decide) (by decide) (by decide)) (hx _ (by decide) (by decide) (by decide))) (fun r z1 z2 z3 z4 => ?_)
  · rw [← hM4, up_s]
  · rw [← hM4, up_n (by decide), up_n (by decide), up_n (by decide), up_n (by decide), up_n (by decide), up_n (by decide), up_n (by decide), up_s]
  · rw [← hM4, up_n (by decide), up_n (by decide), up_n (by decide), up_n (by decide), up_s]
  · rw [hx r (fun e => z1 (by rw [e])) (fun e => z2 (by rw [e])) (fun e => z3 (by rw [e])), b3 r (fun e => z4 ⟨e.1, by omega⟩), o2 r (fun e => z1 (by rw [e])), b1 r (fun e => z4 ⟨e.1, by omega⟩)]
