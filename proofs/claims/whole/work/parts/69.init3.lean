theorem pcl (x : Int32) : ∃ P : Nat, 1 ≤ P ∧ P ≤ 4 ∧ (1 ≤ x → x ≤ 4 → x = nI P) ∧ (1 ≤ x → ¬ x ≤ 4 → P = 4) ∧ (¬ 1 ≤ x → P = 1) := by
  by_cases h1 : 1 ≤ x
  · by_cases h4 : x ≤ 4
    · obtain ⟨j, hj, rfl⟩ := nI_of2 (M := 4) (n := 4) (by decide) (x := x) (fun z => absurd (Int32.lt_of_lt_of_le z (Int32.le_trans (by decide : (0 : Int32) ≤ 1) h1)) Int32.lt_irrefl) h4
      exact ⟨j, (nI_leI (a := 1) (by decide) (by omega)).mp h1, hj, fun _ _ => rfl, fun _ z => absurd h4 z, fun z => absurd h1 z⟩
    · exact ⟨4, by omega, by omega, fun _ z => absurd z h4, fun _ _ => rfl, fun z => absurd h1 z⟩
  · exact ⟨1, by omega, by omega, fun z => absurd z h1, fun z => absurd z h1, fun _ => rfl⟩
theorem q_clamp {post : Int32 → wM → Prop} {x : Int32} {M : wM} {P : Nat} (hP : 1 ≤ P ∧ P ≤ 4 ∧ (1 ≤ x → x ≤ 4 → x = nI P) ∧ (1 ≤ x → ¬ x ≤ 4 → P = 4) ∧ (¬ 1 ≤ x → P = 1)) (k : post (nI P) M) : wp_Ma_min (fun a83 M83 => wp_Ma_max (fun a86 M86 => post a86 M86) 1 a83 M83) 4 x M := by
  obtain ⟨p1, p4, c1, c2, c3⟩ := hP
  unfold wp_Ma_min wp_Ma_min_10 wp_Ma_max wp_Ma_max_10
  refine ⟨fun z => ⟨fun w => ?_, fun w => ?_⟩, fun z => ⟨fun w => ?_, fun w => absurd (by decide : (1 : Int32) < 4) w⟩⟩
  · rw [c1 (Int32.le_of_lt w) (Int32.le_of_lt z)]
    exact k
  · have : nI P = 1 := by
      by_cases h1 : 1 ≤ x
      · have hx : x = 1 := Int32.le_antisymm (Int32.not_lt.mp w) h1
        rw [← c1 h1 (Int32.le_of_lt z), hx]
      · rw [c3 h1]
        rfl
    rw [this] at k
    exact k
  · have : nI P = 4 := by
      have h4 : 4 ≤ x := Int32.not_lt.mp z
      have h1 : 1 ≤ x := Int32.le_trans (by decide) h4
      by_cases h : x ≤ 4
      · rw [← c1 h1 h]
        exact Int32.le_antisymm h h4
      · rw [c2 h1 h]
        rfl
    rw [this] at k
    exact k
set_option maxHeartbeats 4000000 in
theorem i_S {post : wM → Prop} {x : Int32} {M : wM} {P : Nat} (hP : 1 ≤ P ∧ P ≤ 4 ∧ (1 ≤ x → x ≤ 4 → x = nI P) ∧ (1 ≤ x → ¬ x ≤ 4 → P = 4) ∧ (¬ 1 ≤ x → P = 1)) (h0 : M (0, 0) = some (ob 0 fd_0)) (hE : M (90, 0) = some eE) (hz : ∀ r : Ro, r.1 < 90 → r ≠ (0, 0) → M r = none) (k : ∀ M', IS P 6 4 1 P M' → post M') : wp_S_init post (some (0, 0)) x M := by
  have hP1 := hP.1
  have hP4 := hP.2.1
  unfold wp_S_init
  refine ⟨⟨_, rfl⟩, k_nA (i := 6) (30, 0) rfl (Nat.le_refl _) (by decide) (by decide) (hz _ (by decide) (by decide)) ?_⟩
  refine k_pF (fs' := [vI 0, vR (some (30, 0)), vR none, vR none, vR none, vR none, vR none, vR none, vI 0, vR none, vI 0, vI 0, vI 0]) ((up_n (rne (by decide))).trans h0) (Nat.le_of_ble_eq_true rfl) rfl (k_pF (fs' := [vI 0, vR (some (30, 0)), vR none, vR none, vR none, vR none, vR none, vR none, vI 0, vR none, vI 0, vI 0, vI 0]) up_s (Nat.le_of_ble_eq_true rfl) rfl ?_)
  rw [up_up]
  generalize hM1 : up (up M (30, 0) _) (0, 0) _ = M1
  have m1 : M1 (0, 0) = some (ob 0 [vI 0, vR (some (30, 0)), vR none, vR none, vR none, vR none, vR none, vR none, vI 0, vR none, vI 0, vI 0, vI 0]) := by rw [← hM1]; exact up_s
  have p1 : M1 (30, 0) = some (ar 4 6 (fun _ => none)) := by rw [← hM1, up_n (rne (by decide))]; exact up_s
  have o1 : ∀ r : Ro, r ≠ (0, 0) → r ≠ (30, 0) → M1 r = M r := fun r z1 z2 => by rw [← hM1, up_n z1, up_n z2]
  refine k_nA (i := 4) (32, 0) rfl (Nat.le_refl _) (by decide) (by decide) ((o1 _ (by decide) (by decide)).trans (hz _ (by decide) (by decide))) (k_pF (fs' := [vI 0, vR (some (30, 0)), vR none, vR none, vR (some (32, 0)), vR none, vR none, vR none, vI 0, vR none, vI 0, vI 0, vI 0]) ((up_n (rne (by decide))).trans m1) (Nat.le_of_ble_eq_true rfl) rfl ?_)
  generalize hM2 : up (up M1 (32, 0) _) (0, 0) _ = M2
  have m2 : M2 (0, 0) = some (ob 0 [vI 0, vR (some (30, 0)), vR none, vR none, vR (some (32, 0)), vR none, vR none, vR none, vI 0, vR none, vI 0, vI 0, vI 0]) := by rw [← hM2]; exact up_s
  have p2 : M2 (32, 0) = some (ar 5 4 (fun _ => none)) := by rw [← hM2, up_n (rne (by decide))]; exact up_s
  have o2 : ∀ r : Ro, r ≠ (0, 0) → r ≠ (32, 0) → M2 r = M1 r := fun r z1 z2 => by rw [← hM2, up_n z1, up_n z2]
  have z2 : ∀ r : Ro, r.1 < 90 → r ≠ (0, 0) → r ≠ (30, 0) → r ≠ (32, 0) → M2 r = none := fun r g1 g2 g3 g4 => (o2 r g2 g4).trans ((o1 r g2 g3).trans (hz r g1 g2))
  refine k_nO (8, 20) (by decide) (z2 _ (by decide) (by decide) (by decide) (by decide)) (k_cV up_s (a_init (fs := []) (by omega) up_s (fun w => (up_n (rne (by decide))).trans (z2 _ (by show 50 + 20 < 90; decide) (rne (by decide)) (rne (by decide)) (rne (by decide)))) (fun M3 l3 o3 => ?_)))
  have b3 : ∀ r : Ro, ¬ dG r → M3 r = M2 r := fun r z => (o3 r (fun e => z (by rw [e]; unfold dG; omega)) (fun e => z (by unfold dG; omega))).trans (up_n (fun e => z (by rw [e]; unfold dG; omega)))
  refine k_pF (fs' := [vI 0, vR (some (30, 0)), vR none, vR none, vR (some (32, 0)), vR (some (8, 20)), vR none, vR none, vI 0, vR none, vI 0, vI 0, vI 0]) ((b3 _ (by unfold dG; decide)).trans m2) (Nat.le_of_ble_eq_true rfl) rfl ?_
  generalize hM4 : up M3 (0, 0) _ = M4
  have m4 : M4 (0, 0) = some (ob 0 [vI 0, vR (some (30, 0)), vR none, vR none, vR (some (32, 0)), vR (some (8, 20)), vR none, vR none, vI 0, vR none, vI 0, vI 0, vI 0]) := by rw [← hM4]; exact up_s
  have o4 : ∀ r : Ro, r.1 ≠ 0 → M4 r = M3 r := fun r z => by rw [← hM4, up_n (fun e => z (by rw [e]))]
  have l4 : Lst 20 [] M4 := Lg_off l3 (fun r hr => o4 r (by unfold dG at hr; omega))
  have z4 : ∀ r : Ro, r.1 < 90 → r.1 ≠ 0 → r.1 ≠ 30 → r.1 ≠ 32 → ¬ dG r → M4 r = none := fun r g1 g2 g3 g4 g5 => (o4 r g2).trans ((b3 r g5).trans (z2 r g1 (fun e => g2 (by rw [e])) (fun e => g3 (by rw [e])) (fun e => g4 (by rw [e]))))
  refine k_nO (6, 2) (by decide) (z4 _ (by decide) (by decide) (by decide) (by decide) (by unfold dG; decide)) (k_cV up_s (i_B up_s ((up_n (by decide)).trans (z4 _ (by decide) (by decide) (by decide) (by decide) (by unfold dG; decide))) ((up_n (by decide)).trans (z4 _ (by decide) (by decide) (by decide) (by decide) (by unfold dG; decide))) (fun M5 t5 o5 => ?_)))
  have b5 : ∀ r : Ro, ¬ ((r.1 = 6 ∨ r.1 = 22 ∨ r.1 = 23) ∧ r.2 = 2) → M5 r = M4 r := fun r z => (o5 r (fun e => z (by rw [e]; simp)) (fun e => z (by rw [e]; simp)) (fun e => z (by rw [e]; simp))).trans (up_n (fun e => z (by rw [e]; simp)))
  refine k_pF (fs' := [vI 0, vR (some (30, 0)), vR none, vR none, vR (some (32, 0)), vR (some (8, 20)), vR none, vR (some (6, 2)), vI 0, vR none, vI 0, vI 0, vI 0]) ((b5 _ (by decide)).trans m4) (Nat.le_of_ble_eq_true rfl) rfl (k_pF (fs' := [vI 0, vR (some (30, 0)), vR none, vR none, vR (some (32, 0)), vR (some (8, 20)), vR none, vR (some (6, 2)), vI 0, vR none, vI 0, vI 0, vI 0]) up_s (Nat.le_of_ble_eq_true rfl) rfl ?_)
  rw [up_up]
  generalize hM6 : up M5 (0, 0) _ = M6
  have m6 : M6 (0, 0) = some (ob 0 [vI 0, vR (some (30, 0)), vR none, vR none, vR (some (32, 0)), vR (some (8, 20)), vR none, vR (some (6, 2)), vI 0, vR none, vI 0, vI 0, vI 0]) := by rw [← hM6]; exact up_s
  have o6 : ∀ r : Ro, r.1 ≠ 0 → M6 r = M5 r := fun r z => by rw [← hM6, up_n (fun e => z (by rw [e]))]
  have z6 : ∀ r : Ro, r.1 < 90 → r.1 ≠ 0 → r.1 ≠ 30 → r.1 ≠ 32 → ¬ dG r → ¬ ((r.1 = 6 ∨ r.1 = 22 ∨ r.1 = 23) ∧ r.2 = 2) → M6 r = none := fun r g1 g2 g3 g4 g5 g6 => (o6 r g2).trans ((b5 r g6).trans (z4 r g1 g2 g3 g4 g5))
  refine k_nO (6, 3) (by decide) (z6 _ (by decide) (by decide) (by decide) (by decide) (by unfold dG; decide) (by decide)) (k_cV up_s (i_B up_s ((up_n (by decide)).trans (z6 _ (by decide) (by decide) (by decide) (by decide) (by unfold dG; decide) (by decide))) ((up_n (by decide)).trans (z6 _ (by decide) (by decide) (by decide) (by decide) (by unfold dG; decide) (by decide))) (fun M7 t7 o7 => ?_)))
  have b7 : ∀ r : Ro, ¬ ((r.1 = 6 ∨ r.1 = 22 ∨ r.1 = 23) ∧ r.2 = 3) → M7 r = M6 r := fun r z => (o7 r (fun e => z (by rw [e]; simp)) (fun e => z (by rw [e]; simp)) (fun e => z (by rw [e]; simp))).trans (up_n (fun e => z (by rw [e]; simp)))
  refine k_pF (fs' := [vI 0, vR (some (30, 0)), vR none, vR none, vR (some (32, 0)), vR (some (8, 20)), vR none, vR (some (6, 2)), vI 0, vR (some (6, 3)), vI 0, vI 0, vI 0]) ((b7 _ (by decide)).trans m6) (Nat.le_of_ble_eq_true rfl) rfl (k_pF (fs' := [vI 0, vR (some (30, 0)), vR none, vR none, vR (some (32, 0)), vR (some (8, 20)), vR none, vR (some (6, 2)), vI 0, vR (some (6, 3)), vI 0, vI 0, vI 0]) up_s (Nat.le_of_ble_eq_true rfl) rfl (k_pF (fs' := [vI 0, vR (some (30, 0)), vR none, vR none, vR (some (32, 0)), vR (some (8, 20)), vR none, vR (some (6, 2)), vI 0, vR (some (6, 3)), vI 0, vI 0, vI 0]) up_s (Nat.le_of_ble_eq_true rfl) rfl (k_pF (fs' := [vI 0, vR (some (30, 0)), vR none, vR none, vR (some (32, 0)), vR (some (8, 20)), vR none, vR (some (6, 2)), vI 0, vR (some (6, 3)), vI 0, vI 0, vI 0]) up_s (Nat.le_of_ble_eq_true rfl) rfl ?_)))
  rw [up_up, up_up, up_up]
  refine q_clamp hP ?_
  refine k_pF (fs' := [vI (nI P), vR (some (30, 0)), vR none, vR none, vR (some (32, 0)), vR (some (8, 20)), vR none, vR (some (6, 2)), vI 0, vR (some (6, 3)), vI 0, vI 0, vI 0]) up_s (Nat.le_of_ble_eq_true rfl) rfl ?_
  rw [up_up]
  generalize hM8 : up M7 (0, 0) _ = M8
  have m8 : M8 (0, 0) = some (ob 0 [vI (nI P), vR (some (30, 0)), vR none, vR none, vR (some (32, 0)), vR (some (8, 20)), vR none, vR (some (6, 2)), vI 0, vR (some (6, 3)), vI 0, vI 0, vI 0]) := by rw [← hM8]; exact up_s
  have o8 : ∀ r : Ro, r.1 ≠ 0 → M8 r = M7 r := fun r z => by rw [← hM8, up_n (fun e => z (by rw [e]))]
  have z8 : ∀ r : Ro, r.1 < 90 → r.1 ≠ 0 → r.1 ≠ 30 → r.1 ≠ 32 → ¬ dG r → ¬ ((r.1 = 6 ∨ r.1 = 22 ∨ r.1 = 23) ∧ 2 ≤ r.2) → M8 r = none := fun r g1 g2 g3 g4 g5 g6 => (o8 r g2).trans ((b7 r (fun z => g6 ⟨z.1, by omega⟩)).trans (z6 r g1 g2 g3 g4 g5 (fun z => g6 ⟨z.1, by omega⟩)))
  refine k_nO (3, 0) (by decide) (z8 _ (by decide) (by decide) (by decide) (by decide) (by unfold dG; decide) (by decide)) (k_gI ((up_n (rne (by decide))).trans m8) rfl (k_cV up_s (i_R up_s (fun r hr => ?_) (fun M9 r9 t90 t91 o9 => ?_))))
  · rcases hr with rfl | rfl | rfl | rfl | rfl | rfl | rfl | rfl <;> exact (up_n (by decide)).trans (z8 _ (by decide) (by decide) (by decide) (by decide) (by unfold dG; decide) (by decide))
  have b9 : ∀ r : Ro, r.1 ≠ 3 → r.1 ≠ 24 → r.1 ≠ 25 → ¬ ((r.1 = 6 ∨ r.1 = 22 ∨ r.1 = 23) ∧ r.2 ≤ 1) → M9 r = M8 r := fun r g1 g2 g3 g4 => (o9 r g1 g2 g3 g4).trans (up_n (fun e => g1 (by rw [e])))
  refine k_pF (fs' := [vI (nI P), vR (some (30, 0)), vR none, vR none, vR (some (32, 0)), vR (some (8, 20)), vR (some (3, 0)), vR (some (6, 2)), vI 0, vR (some (6, 3)), vI 0, vI 0, vI 0]) ((b9 _ (by decide) (by decide) (by decide) (by decide)).trans m8) (Nat.le_of_ble_eq_true rfl) rfl ?_
  generalize hM10 : up M9 (0, 0) _ = M10
  have m10 : M10 (0, 0) = some (ob 0 [vI (nI P), vR (some (30, 0)), vR none, vR none, vR (some (32, 0)), vR (some (8, 20)), vR (some (3, 0)), vR (some (6, 2)), vI 0, vR (some (6, 3)), vI 0, vI 0, vI 0]) := by rw [← hM10]; exact up_s
  have o10 : ∀ r : Ro, r.1 ≠ 0 → M10 r = M9 r := fun r z => by rw [← hM10, up_n (fun e => z (by rw [e]))]
  have hI : IS P 0 0 0 0 M10 := by
    refine ⟨m10, ⟨fun _ => none, ?_, fun p hp => by omega⟩, fun g => absurd rfl g, ⟨fun _ => none, ?_, fun p hp => by omega⟩, fun p hp => by omega, fun p hp => by omega, fun p hp => by omega, ?_, ⟨⟨-1, z0, 0, z0, 0, ?_, fun _ _ => rfl⟩, ?_, ⟨s00, ?_⟩, ?_, ?_⟩, ?_, fun r hr => ?_⟩
    · exact (o10 _ (by decide)).trans ((b9 _ (by decide) (by decide) (by decide) (by decide)).trans ((o8 _ (by decide)).trans ((b7 _ (by decide)).trans ((o6 _ (by decide)).trans ((b5 _ (by decide)).trans ((o4 _ (by decide)).trans ((b3 _ (by unfold dG; decide)).trans ((o2 _ (by decide) (by decide)).trans p1))))))))
    · exact (o10 _ (by decide)).trans ((b9 _ (by decide) (by decide) (by decide) (by decide)).trans ((o8 _ (by decide)).trans ((b7 _ (by decide)).trans ((o6 _ (by decide)).trans ((b5 _ (by decide)).trans ((o4 _ (by decide)).trans ((b3 _ (by unfold dG; decide)).trans p2)))))))
    · exact Lg_off l4 (fun r hr => (o10 r (by unfold dG at hr; omega)).trans ((b9 r (by unfold dG at hr; omega) (by unfold dG at hr; omega) (by unfold dG at hr; omega) (fun z => by unfold dG at hr; omega)).trans ((o8 r (by unfold dG at hr; omega)).trans ((b7 r (fun z => by unfold dG at hr; omega)).trans ((o6 r (by unfold dG at hr; omega)).trans (b5 r (fun z => by unfold dG at hr; omega)))))))
    · exact Rn_off r9 (o10 _ (by decide)) (o10 _ (by decide)) (o10 _ (by decide))
    · exact Tb_off t90 (o10 _ (by decide)) (o10 _ (by decide)) (o10 _ (by decide))
    · exact Tb_off t91 (o10 _ (by decide)) (o10 _ (by decide)) (o10 _ (by decide))
    · have e : ∀ r : Ro, r = (6, 2) ∨ r = (22, 2) ∨ r = (23, 2) → M10 r = M5 r := fun r hr => by
        rcases hr with rfl | rfl | rfl <;> exact (o10 _ (by decide)).trans ((b9 _ (by decide) (by decide) (by decide) (by decide)).trans ((o8 _ (by decide)).trans ((b7 _ (by decide)).trans (o6 _ (by decide)))))
      exact Tb_off t5 (e _ (by simp)) (e _ (by simp)) (e _ (by simp))
    · have e : ∀ r : Ro, r = (6, 3) ∨ r = (22, 3) ∨ r = (23, 3) → M10 r = M7 r := fun r hr => by
        rcases hr with rfl | rfl | rfl <;> exact (o10 _ (by decide)).trans ((b9 _ (by decide) (by decide) (by decide) (by decide)).trans (o8 _ (by decide)))
      exact Tb_off t7 (e _ (by simp)) (e _ (by simp)) (e _ (by simp))
    · exact (o10 _ (by decide)).trans ((b9 _ (by decide) (by decide) (by decide) (by decide)).trans ((o8 _ (by decide)).trans ((b7 _ (by decide)).trans ((o6 _ (by decide)).trans ((b5 _ (by decide)).trans ((o4 _ (by decide)).trans ((b3 _ (by unfold dG; decide)).trans ((o2 _ (by decide) (by decide)).trans ((o1 _ (by decide) (by decide)).trans hE)))))))))
    · rw [o10 r (by unfold fz at hr; omega), b9 r (by unfold fz at hr; omega) (by unfold fz at hr; omega) (by unfold fz at hr; omega) (fun z => by unfold fz at hr; omega)]
      exact z8 r (by unfold fz at hr; omega) (by unfold fz at hr; omega) (by unfold fz at hr; omega) (by unfold fz at hr; omega) (fun z => by unfold fz at hr; unfold dG at z; omega) (fun z => by unfold fz at hr; omega)
  -- the sites
  have fin : ∀ (y : Int32) M', IS P 6 4 0 0 M' → wp_S_init_160 post (some (0, 0)) x y M' := fun y M' hI' => by
    obtain ⟨h0, hp30, h31, hp32, hp, hc, hs, hL, hR, hE', hz'⟩ := hI'
    unfold wp_S_init_160 wp_S_init_200
    refine k_gI h0 rfl (k_nA (i := P) (31, 0) rfl hP4 (by decide) (by decide) (hz' _ (by unfold fz; decide)) (k_pF (fs' := [vI (nI P), vR (some (30, 0)), vR none, vR (some (31, 0)), vR (some (32, 0)), vR (some (8, 20)), vR (some (3, 0)), vR (some (6, 2)), vI 0, vR (some (6, 3)), vI 0, vI 0, vI 0]) ((up_n (rne (by decide))).trans h0) (Nat.le_of_ble_eq_true rfl) rfl ?_))
    generalize hM2' : up (up M' (31, 0) _) (0, 0) _ = M2'
    have o' : ∀ r : Ro, r.1 ≠ 0 → r.1 ≠ 31 → M2' r = M' r := fun r z1 z2 => by rw [← hM2', up_n (fun e => z1 (by rw [e])), up_n (fun e => z2 (by rw [e]))]
    have hI1 : IS P 6 4 1 0 M2' := by
      refine ⟨by rw [← hM2', up_s]; rfl, ?_, fun _ => ⟨fun _ => none, by rw [← hM2', up_n (rne (by decide)), up_s], fun i hi => by omega⟩, ?_, fun p hp' => ?_, fun i hi => ?_, fun i hi => by omega, Lg_off hL (fun r hr => o' r (by unfold dG at hr; omega) (by unfold dG at hr; omega)), Ru_off hR (fun r hr => o' r (by unfold dR at hr; omega) (by unfold dR at hr; omega)), (o' _ (by decide) (by decide)).trans hE', fun r hr => ?_⟩
      · obtain ⟨f, w1, w2⟩ := hp30
        exact ⟨f, (o' _ (by decide) (by decide)).trans w1, w2⟩
      · obtain ⟨f, w1, w2⟩ := hp32
        exact ⟨f, (o' _ (by decide) (by decide)).trans w1, w2⟩
      · obtain ⟨w1, w2⟩ := hp p hp'
        exact ⟨(o' _ (by show (2 : Nat) ≠ 0; decide) (by show (2 : Nat) ≠ 31; decide)).trans w1, Lst_off w2 (o' _ (by show (8 : Nat) ≠ 0; decide) (by show (8 : Nat) ≠ 31; decide)) (fun w => o' _ (by show 50 + p ≠ 0; omega) (by show 50 + p ≠ 31; omega))⟩
      · obtain ⟨w1, w2⟩ := hc i hi
        exact ⟨(o' _ (by show (1 : Nat) ≠ 0; decide) (by show (1 : Nat) ≠ 31; decide)).trans w1, (o' _ (by show (21 : Nat) ≠ 0; decide) (by show (21 : Nat) ≠ 31; decide)).trans w2⟩
      · rw [o' r (by unfold fz at hr; omega) (by unfold fz at hr; omega)]
        exact hz' r (by unfold fz at hr ⊢; omega)
    have dn : ∀ t M3, P ≤ t → t ≤ P → IS P 6 4 1 t M3 → post M3 := fun t M3 g1 g2 hh => by
      rw [show t = P by omega] at hh
      exact k M3 hh
    refine k_gI hI1.1 rfl (iq_1 (t := 0) rfl (by omega) (by decide) hI1 hP4 (by omega) (fun g => by omega) (fun g0 N1 i1 => ?_))
    refine k_gI i1.1 rfl (iq_1 (t := 1) rfl (by omega) (by decide) i1 hP4 (by omega) (fun g => dn 1 N1 g (by omega) i1) (fun g1 N2 i2 => ?_))
    refine k_gI i2.1 rfl (iq_1 (t := 2) rfl (by omega) (by decide) i2 hP4 (by omega) (fun g => dn 2 N2 g (by omega) i2) (fun g2 N3 i3 => ?_))
    refine k_gI i3.1 rfl (iq_1 (t := 3) rfl (by omega) (by decide) i3 hP4 (by omega) (fun g => dn 3 N3 g (by omega) i3) (fun g3 N4 i4 => ?_))
    exact k_gI i4.1 rfl (iq_1 (t := 4) rfl (by omega) (by decide) i4 hP4 (by omega) (fun g => dn 4 N4 g (by omega) i4) (fun g4 => absurd g4 (by omega)))
  -- the clients
  have cl : ∀ (y : Int32) M', IS P 6 0 0 0 M' → wp_S_init_134 post (some (0, 0)) x y M' := fun y M' hI' => by
    unfold wp_S_init_134
    refine ic_1 (b := 0) rfl (by omega) hI' (fun g => by omega) (fun g0 N1 i1 => ?_)
    refine ic_1 (b := 1) rfl (by omega) i1 (fun g => by omega) (fun g1 N2 i2 => ?_)
    refine ic_1 (b := 2) rfl (by omega) i2 (fun g => by omega) (fun g2 N3 i3 => ?_)
    refine ic_1 (b := 3) rfl (by omega) i3 (fun g => by omega) (fun g3 N4 i4 => ?_)
    exact ic_1 (b := 4) rfl (by omega) i4 (fun g => fin _ N4 i4) (fun g4 => absurd g4 (by omega))
  refine ip_1 (a := 0) rfl (by omega) hI hP4 (by omega) (fun g => by omega) (fun g0 N1 i1 => ?_)
  refine ip_1 (a := 1) rfl (by omega) i1 hP4 (by omega) (fun g => by omega) (fun g1 N2 i2 => ?_)
  refine ip_1 (a := 2) rfl (by omega) i2 hP4 (by omega) (fun g => by omega) (fun g2 N3 i3 => ?_)
  refine ip_1 (a := 3) rfl (by omega) i3 hP4 (by omega) (fun g => by omega) (fun g3 N4 i4 => ?_)
  refine ip_1 (a := 4) rfl (by omega) i4 hP4 (by omega) (fun g => by omega) (fun g4 N5 i5 => ?_)
  refine ip_1 (a := 5) rfl (by omega) i5 hP4 (by omega) (fun g => by omega) (fun g5 N6 i6 => ?_)
  exact ip_1 (a := 6) rfl (by omega) i6 hP4 (by omega) (fun g => cl _ N6 i6) (fun g6 => absurd g6 (by omega))
/-! the reference's constructor -/
def MS (fs : List AV) (ks : List Nat) (N M : wM) : Prop := M (40, 0) = some (ob 9 fs) ∧ (∀ k, k ∈ ks → M (41, k) = some (ai (rt k) (rl k) (fun _ => 0))) ∧ (∀ k, k ∉ ks → M (41, k) = none) ∧ ∀ r : Ro, r.1 ≠ 40 → r.1 ≠ 41 → M r = N r
theorem m_1 {K : wM → Prop} {fs fs' : List AV} {ks : List Nat} {N M : wM} {x : Int32} {bd t n : Nat} (k : Nat) (h : MS fs ks N M) (hk : k ∉ ks) (hx : x = nI n) (hn : n = rl k) (hb : n ≤ bd) (hb2 : bd < 2 ^ 31) (ht : t = rt k) (hl : k < fs.length) (hf : fs.set k (vR (some (41, k))) = fs') (kk : ∀ M', MS fs' (k :: ks) N M' → K M') : nA M x bd (fun n => ai t n (fun _ => 0)) (fun a M7 => pF M7 (some (40, 0)) 9 k (vR a) (fun M9 => K M9)) := by
  obtain ⟨h1, h2, h3, h4⟩ := h
  refine k_nA (i := n) (41, k) hx hb hb2 (by show (41 : Nat) < 90; decide) (h3 k hk) (k_pF ((up_n (rne (by decide))).trans h1) hl hf (kk _ ⟨up_s, fun j hj => ?_, fun j hj => ?_, fun r z1 z2 => ?_⟩))
  · rw [up_n (rne (by decide))]
    by_cases e : j = k
    · subst e
      rw [up_s, hn, ht]
    · rw [up_n (rne2 e)]
      exact h2 j ((List.mem_cons.mp hj).resolve_left e)
  · rw [up_n (rne (by decide)), up_n (rne2 (fun e => hj (by rw [e]; exact List.mem_cons_self)))]
    exact h3 j (fun z => hj (List.mem_cons_of_mem _ z))
  · rw [up_n (fun e => z1 (by rw [e])), up_n (fun e => z2 (by rw [e]))]
    exact h4 r z1 z2
theorem m_f {K : wM → Prop} {fs fs' : List AV} {ks : List Nat} {N M : wM} {v : AV} (k : Nat) (h : MS fs ks N M) (hl : k < fs.length) (hf : fs.set k v = fs') (kk : ∀ M', MS fs' ks N M' → K M') : pF M (some (40, 0)) 9 k v K := by
  obtain ⟨h1, h2, h3, h4⟩ := h
  refine k_pF h1 hl hf (kk _ ⟨up_s, fun j hj => (up_n (rne (by decide))).trans (h2 j hj), fun j hj => (up_n (rne (by decide))).trans (h3 j hj), fun r z1 z2 => (up_n (fun e => z1 (by rw [e]))).trans (h4 r z1 z2)⟩)
def F00 (P : Nat) : RF := fun k => if k = 0 then nI P else if k = 14 then -1 else 0
set_option maxHeartbeats 4000000 in
theorem i_M {post : wM → Prop} {x : Int32} {M : wM} {P : Nat} (hP : 1 ≤ P ∧ P ≤ 4 ∧ (1 ≤ x → x ≤ 4 → x = nI P) ∧ (1 ≤ x → ¬ x ≤ 4 → P = 4) ∧ (¬ 1 ≤ x → P = 1)) (h0 : M (40, 0) = some (ob 9 fd_9)) (hz : ∀ k, M (41, k) = none) (k : ∀ M', RM M (fun _ _ => 0) (F00 P) M' → post M') : wp_M_init post (some (40, 0)) x M := by
  unfold wp_M_init
  refine ⟨⟨_, rfl⟩, ?_⟩
  have s0 : MS fd_9 [] M M := ⟨h0, fun j hj => absurd hj List.not_mem_nil, fun j _ => hz j, fun _ _ _ => rfl⟩
  refine m_1 (fs' := [vI 0, vR (some (41, 1)), vR none, vR none, vR none, vR none, vR none, vR none, vR none, vR none, vR none, vR none, vR none, vR none, vI 0, vI 0, vR none, vR none, vR none, vR none, vR none, vR none, vR none, vI 0, vI 0, vI 0, vR none, vR none, vR none, vR none, vR none, vR none, vR none]) (n := 40) 1 s0 (by decide) rfl rfl (Nat.le_of_ble_eq_true rfl) (by decide) rfl (Nat.le_of_ble_eq_true rfl) rfl (fun M1 s1 => ?_)
  refine m_1 (fs' := [vI 0, vR (some (41, 1)), vR (some (41, 2)), vR none, vR none, vR none, vR none, vR none, vR none, vR none, vR none, vR none, vR none, vR none, vI 0, vI 0, vR none, vR none, vR none, vR none, vR none, vR none, vR none, vI 0, vI 0, vI 0, vR none, vR none, vR none, vR none, vR none, vR none, vR none]) (n := 40) 2 s1 (by decide) rfl rfl (Nat.le_of_ble_eq_true rfl) (by decide) rfl (Nat.le_of_ble_eq_true rfl) rfl (fun M2 s2 => ?_)
  refine m_1 (fs' := [vI 0, vR (some (41, 1)), vR (some (41, 2)), vR (some (41, 3)), vR none, vR none, vR none, vR none, vR none, vR none, vR none, vR none, vR none, vR none, vI 0, vI 0, vR none, vR none, vR none, vR none, vR none, vR none, vR none, vI 0, vI 0, vI 0, vR none, vR none, vR none, vR none, vR none, vR none, vR none]) (n := 40) 3 s2 (by decide) rfl rfl (Nat.le_of_ble_eq_true rfl) (by decide) rfl (Nat.le_of_ble_eq_true rfl) rfl (fun M3 s3 => ?_)
  refine m_1 (fs' := [vI 0, vR (some (41, 1)), vR (some (41, 2)), vR (some (41, 3)), vR (some (41, 4)), vR none, vR none, vR none, vR none, vR none, vR none, vR none, vR none, vR none, vI 0, vI 0, vR none, vR none, vR none, vR none, vR none, vR none, vR none, vI 0, vI 0, vI 0, vR none, vR none, vR none, vR none, vR none, vR none, vR none]) (n := 40) 4 s3 (by decide) rfl rfl (Nat.le_of_ble_eq_true rfl) (by decide) rfl (Nat.le_of_ble_eq_true rfl) rfl (fun M4 s4 => ?_)
  refine m_1 (fs' := [vI 0, vR (some (41, 1)), vR (some (41, 2)), vR (some (41, 3)), vR (some (41, 4)), vR (some (41, 5)), vR none, vR none, vR none, vR none, vR none, vR none, vR none, vR none, vI 0, vI 0, vR none, vR none, vR none, vR none, vR none, vR none, vR none, vI 0, vI 0, vI 0, vR none, vR none, vR none, vR none, vR none, vR none, vR none]) (n := 40) 5 s4 (by decide) rfl rfl (Nat.le_of_ble_eq_true rfl) (by decide) rfl (Nat.le_of_ble_eq_true rfl) rfl (fun M5 s5 => ?_)
  refine m_1 (fs' := [vI 0, vR (some (41, 1)), vR (some (41, 2)), vR (some (41, 3)), vR (some (41, 4)), vR (some (41, 5)), vR (some (41, 6)), vR none, vR none, vR none, vR none, vR none, vR none, vR none, vI 0, vI 0, vR none, vR none, vR none, vR none, vR none, vR none, vR none, vI 0, vI 0, vI 0, vR none, vR none, vR none, vR none, vR none, vR none, vR none]) (n := 40) 6 s5 (by decide) rfl rfl (Nat.le_of_ble_eq_true rfl) (by decide) rfl (Nat.le_of_ble_eq_true rfl) rfl (fun M6 s6 => ?_)
  refine m_1 (fs' := [vI 0, vR (some (41, 1)), vR (some (41, 2)), vR (some (41, 3)), vR (some (41, 4)), vR (some (41, 5)), vR (some (41, 6)), vR (some (41, 7)), vR none, vR none, vR none, vR none, vR none, vR none, vI 0, vI 0, vR none, vR none, vR none, vR none, vR none, vR none, vR none, vI 0, vI 0, vI 0, vR none, vR none, vR none, vR none, vR none, vR none, vR none]) (n := 6) 7 s6 (by decide) rfl rfl (Nat.le_of_ble_eq_true rfl) (by decide) rfl (Nat.le_of_ble_eq_true rfl) rfl (fun M7 s7 => ?_)
  refine m_1 (fs' := [vI 0, vR (some (41, 1)), vR (some (41, 2)), vR (some (41, 3)), vR (some (41, 4)), vR (some (41, 5)), vR (some (41, 6)), vR (some (41, 7)), vR (some (41, 8)), vR none, vR none, vR none, vR none, vR none, vI 0, vI 0, vR none, vR none, vR none, vR none, vR none, vR none, vR none, vI 0, vI 0, vI 0, vR none, vR none, vR none, vR none, vR none, vR none, vR none]) (n := 7) 8 s7 (by decide) rfl rfl (Nat.le_of_ble_eq_true rfl) (by decide) rfl (Nat.le_of_ble_eq_true rfl) rfl (fun M8 s8 => ?_)
  refine m_1 (fs' := [vI 0, vR (some (41, 1)), vR (some (41, 2)), vR (some (41, 3)), vR (some (41, 4)), vR (some (41, 5)), vR (some (41, 6)), vR (some (41, 7)), vR (some (41, 8)), vR (some (41, 9)), vR none, vR none, vR none, vR none, vI 0, vI 0, vR none, vR none, vR none, vR none, vR none, vR none, vR none, vI 0, vI 0, vI 0, vR none, vR none, vR none, vR none, vR none, vR none, vR none]) (n := 7) 9 s8 (by decide) rfl rfl (Nat.le_of_ble_eq_true rfl) (by decide) rfl (Nat.le_of_ble_eq_true rfl) rfl (fun M9 s9 => ?_)
  refine m_1 (fs' := [vI 0, vR (some (41, 1)), vR (some (41, 2)), vR (some (41, 3)), vR (some (41, 4)), vR (some (41, 5)), vR (some (41, 6)), vR (some (41, 7)), vR (some (41, 8)), vR (some (41, 9)), vR (some (41, 10)), vR none, vR none, vR none, vI 0, vI 0, vR none, vR none, vR none, vR none, vR none, vR none, vR none, vI 0, vI 0, vI 0, vR none, vR none, vR none, vR none, vR none, vR none, vR none]) (n := 56) 10 s9 (by decide) rfl rfl (Nat.le_of_ble_eq_true rfl) (by decide) rfl (Nat.le_of_ble_eq_true rfl) rfl (fun M10 s10 => ?_)
  refine m_1 (fs' := [vI 0, vR (some (41, 1)), vR (some (41, 2)), vR (some (41, 3)), vR (some (41, 4)), vR (some (41, 5)), vR (some (41, 6)), vR (some (41, 7)), vR (some (41, 8)), vR (some (41, 9)), vR (some (41, 10)), vR (some (41, 11)), vR none, vR none, vI 0, vI 0, vR none, vR none, vR none, vR none, vR none, vR none, vR none, vI 0, vI 0, vI 0, vR none, vR none, vR none, vR none, vR none, vR none, vR none]) (n := 56) 11 s10 (by decide) rfl rfl (Nat.le_of_ble_eq_true rfl) (by decide) rfl (Nat.le_of_ble_eq_true rfl) rfl (fun M11 s11 => ?_)
  refine m_1 (fs' := [vI 0, vR (some (41, 1)), vR (some (41, 2)), vR (some (41, 3)), vR (some (41, 4)), vR (some (41, 5)), vR (some (41, 6)), vR (some (41, 7)), vR (some (41, 8)), vR (some (41, 9)), vR (some (41, 10)), vR (some (41, 11)), vR (some (41, 12)), vR none, vI 0, vI 0, vR none, vR none, vR none, vR none, vR none, vR none, vR none, vI 0, vI 0, vI 0, vR none, vR none, vR none, vR none, vR none, vR none, vR none]) (n := 56) 12 s11 (by decide) rfl rfl (Nat.le_of_ble_eq_true rfl) (by decide) rfl (Nat.le_of_ble_eq_true rfl) rfl (fun M12 s12 => ?_)
  refine m_1 (fs' := [vI 0, vR (some (41, 1)), vR (some (41, 2)), vR (some (41, 3)), vR (some (41, 4)), vR (some (41, 5)), vR (some (41, 6)), vR (some (41, 7)), vR (some (41, 8)), vR (some (41, 9)), vR (some (41, 10)), vR (some (41, 11)), vR (some (41, 12)), vR (some (41, 13)), vI 0, vI 0, vR none, vR none, vR none, vR none, vR none, vR none, vR none, vI 0, vI 0, vI 0, vR none, vR none, vR none, vR none, vR none, vR none, vR none]) (n := 56) 13 s12 (by decide) rfl rfl (Nat.le_of_ble_eq_true rfl) (by decide) rfl (Nat.le_of_ble_eq_true rfl) rfl (fun M13 s13 => ?_)
  refine m_f (fs' := [vI 0, vR (some (41, 1)), vR (some (41, 2)), vR (some (41, 3)), vR (some (41, 4)), vR (some (41, 5)), vR (some (41, 6)), vR (some (41, 7)), vR (some (41, 8)), vR (some (41, 9)), vR (some (41, 10)), vR (some (41, 11)), vR (some (41, 12)), vR (some (41, 13)), vI (-1), vI 0, vR none, vR none, vR none, vR none, vR none, vR none, vR none, vI 0, vI 0, vI 0, vR none, vR none, vR none, vR none, vR none, vR none, vR none]) 14 s13 (Nat.le_of_ble_eq_true rfl) rfl (fun M14 s14 => ?_)
  refine m_1 (fs' := [vI 0, vR (some (41, 1)), vR (some (41, 2)), vR (some (41, 3)), vR (some (41, 4)), vR (some (41, 5)), vR (some (41, 6)), vR (some (41, 7)), vR (some (41, 8)), vR (some (41, 9)), vR (some (41, 10)), vR (some (41, 11)), vR (some (41, 12)), vR (some (41, 13)), vI (-1), vI 0, vR (some (41, 16)), vR none, vR none, vR none, vR none, vR none, vR none, vI 0, vI 0, vI 0, vR none, vR none, vR none, vR none, vR none, vR none, vR none]) (n := 514) 16 s14 (by decide) rfl rfl (Nat.le_of_ble_eq_true rfl) (by decide) rfl (Nat.le_of_ble_eq_true rfl) rfl (fun M15 s15 => ?_)
  refine m_1 (fs' := [vI 0, vR (some (41, 1)), vR (some (41, 2)), vR (some (41, 3)), vR (some (41, 4)), vR (some (41, 5)), vR (some (41, 6)), vR (some (41, 7)), vR (some (41, 8)), vR (some (41, 9)), vR (some (41, 10)), vR (some (41, 11)), vR (some (41, 12)), vR (some (41, 13)), vI (-1), vI 0, vR (some (41, 16)), vR (some (41, 17)), vR none, vR none, vR none, vR none, vR none, vI 0, vI 0, vI 0, vR none, vR none, vR none, vR none, vR none, vR none, vR none]) (n := 1542) 17 s15 (by decide) rfl rfl (Nat.le_of_ble_eq_true rfl) (by decide) rfl (Nat.le_of_ble_eq_true rfl) rfl (fun M16 s16 => ?_)
  refine m_1 (fs' := [vI 0, vR (some (41, 1)), vR (some (41, 2)), vR (some (41, 3)), vR (some (41, 4)), vR (some (41, 5)), vR (some (41, 6)), vR (some (41, 7)), vR (some (41, 8)), vR (some (41, 9)), vR (some (41, 10)), vR (some (41, 11)), vR (some (41, 12)), vR (some (41, 13)), vI (-1), vI 0, vR (some (41, 16)), vR (some (41, 17)), vR (some (41, 18)), vR none, vR none, vR none, vR none, vI 0, vI 0, vI 0, vR none, vR none, vR none, vR none, vR none, vR none, vR none]) (n := 514) 18 s16 (by decide) rfl rfl (Nat.le_of_ble_eq_true rfl) (by decide) rfl (Nat.le_of_ble_eq_true rfl) rfl (fun M17 s17 => ?_)
  refine m_1 (fs' := [vI 0, vR (some (41, 1)), vR (some (41, 2)), vR (some (41, 3)), vR (some (41, 4)), vR (some (41, 5)), vR (some (41, 6)), vR (some (41, 7)), vR (some (41, 8)), vR (some (41, 9)), vR (some (41, 10)), vR (some (41, 11)), vR (some (41, 12)), vR (some (41, 13)), vI (-1), vI 0, vR (some (41, 16)), vR (some (41, 17)), vR (some (41, 18)), vR (some (41, 19)), vR none, vR none, vR none, vI 0, vI 0, vI 0, vR none, vR none, vR none, vR none, vR none, vR none, vR none]) (n := 514) 19 s17 (by decide) rfl rfl (Nat.le_of_ble_eq_true rfl) (by decide) rfl (Nat.le_of_ble_eq_true rfl) rfl (fun M18 s18 => ?_)
  refine m_1 (fs' := [vI 0, vR (some (41, 1)), vR (some (41, 2)), vR (some (41, 3)), vR (some (41, 4)), vR (some (41, 5)), vR (some (41, 6)), vR (some (41, 7)), vR (some (41, 8)), vR (some (41, 9)), vR (some (41, 10)), vR (some (41, 11)), vR (some (41, 12)), vR (some (41, 13)), vI (-1), vI 0, vR (some (41, 16)), vR (some (41, 17)), vR (some (41, 18)), vR (some (41, 19)), vR (some (41, 20)), vR none, vR none, vI 0, vI 0, vI 0, vR none, vR none, vR none, vR none, vR none, vR none, vR none]) (n := 514) 20 s18 (by decide) rfl rfl (Nat.le_of_ble_eq_true rfl) (by decide) rfl (Nat.le_of_ble_eq_true rfl) rfl (fun M19 s19 => ?_)
  refine m_1 (fs' := [vI 0, vR (some (41, 1)), vR (some (41, 2)), vR (some (41, 3)), vR (some (41, 4)), vR (some (41, 5)), vR (some (41, 6)), vR (some (41, 7)), vR (some (41, 8)), vR (some (41, 9)), vR (some (41, 10)), vR (some (41, 11)), vR (some (41, 12)), vR (some (41, 13)), vI (-1), vI 0, vR (some (41, 16)), vR (some (41, 17)), vR (some (41, 18)), vR (some (41, 19)), vR (some (41, 20)), vR (some (41, 21)), vR none, vI 0, vI 0, vI 0, vR none, vR none, vR none, vR none, vR none, vR none, vR none]) (n := 514) 21 s19 (by decide) rfl rfl (Nat.le_of_ble_eq_true rfl) (by decide) rfl (Nat.le_of_ble_eq_true rfl) rfl (fun M20 s20 => ?_)
  refine m_1 (fs' := [vI 0, vR (some (41, 1)), vR (some (41, 2)), vR (some (41, 3)), vR (some (41, 4)), vR (some (41, 5)), vR (some (41, 6)), vR (some (41, 7)), vR (some (41, 8)), vR (some (41, 9)), vR (some (41, 10)), vR (some (41, 11)), vR (some (41, 12)), vR (some (41, 13)), vI (-1), vI 0, vR (some (41, 16)), vR (some (41, 17)), vR (some (41, 18)), vR (some (41, 19)), vR (some (41, 20)), vR (some (41, 21)), vR (some (41, 22)), vI 0, vI 0, vI 0, vR none, vR none, vR none, vR none, vR none, vR none, vR none]) (n := 2056) 22 s20 (by decide) rfl rfl (Nat.le_of_ble_eq_true rfl) (by decide) rfl (Nat.le_of_ble_eq_true rfl) rfl (fun M21 s21 => ?_)
  refine m_1 (fs' := [vI 0, vR (some (41, 1)), vR (some (41, 2)), vR (some (41, 3)), vR (some (41, 4)), vR (some (41, 5)), vR (some (41, 6)), vR (some (41, 7)), vR (some (41, 8)), vR (some (41, 9)), vR (some (41, 10)), vR (some (41, 11)), vR (some (41, 12)), vR (some (41, 13)), vI (-1), vI 0, vR (some (41, 16)), vR (some (41, 17)), vR (some (41, 18)), vR (some (41, 19)), vR (some (41, 20)), vR (some (41, 21)), vR (some (41, 22)), vI 0, vI 0, vI 0, vR (some (41, 26)), vR none, vR none, vR none, vR none, vR none, vR none]) (n := 4) 26 s21 (by decide) rfl rfl (Nat.le_of_ble_eq_true rfl) (by decide) rfl (Nat.le_of_ble_eq_true rfl) rfl (fun M22 s22 => ?_)
  refine m_1 (fs' := [vI 0, vR (some (41, 1)), vR (some (41, 2)), vR (some (41, 3)), vR (some (41, 4)), vR (some (41, 5)), vR (some (41, 6)), vR (some (41, 7)), vR (some (41, 8)), vR (some (41, 9)), vR (some (41, 10)), vR (some (41, 11)), vR (some (41, 12)), vR (some (41, 13)), vI (-1), vI 0, vR (some (41, 16)), vR (some (41, 17)), vR (some (41, 18)), vR (some (41, 19)), vR (some (41, 20)), vR (some (41, 21)), vR (some (41, 22)), vI 0, vI 0, vI 0, vR (some (41, 26)), vR (some (41, 27)), vR none, vR none, vR none, vR none, vR none]) (n := 4) 27 s22 (by decide) rfl rfl (Nat.le_of_ble_eq_true rfl) (by decide) rfl (Nat.le_of_ble_eq_true rfl) rfl (fun M23 s23 => ?_)
  refine m_1 (fs' := [vI 0, vR (some (41, 1)), vR (some (41, 2)), vR (some (41, 3)), vR (some (41, 4)), vR (some (41, 5)), vR (some (41, 6)), vR (some (41, 7)), vR (some (41, 8)), vR (some (41, 9)), vR (some (41, 10)), vR (some (41, 11)), vR (some (41, 12)), vR (some (41, 13)), vI (-1), vI 0, vR (some (41, 16)), vR (some (41, 17)), vR (some (41, 18)), vR (some (41, 19)), vR (some (41, 20)), vR (some (41, 21)), vR (some (41, 22)), vI 0, vI 0, vI 0, vR (some (41, 26)), vR (some (41, 27)), vR (some (41, 28)), vR none, vR none, vR none, vR none]) (n := 4) 28 s23 (by decide) rfl rfl (Nat.le_of_ble_eq_true rfl) (by decide) rfl (Nat.le_of_ble_eq_true rfl) rfl (fun M24 s24 => ?_)
  refine m_1 (fs' := [vI 0, vR (some (41, 1)), vR (some (41, 2)), vR (some (41, 3)), vR (some (41, 4)), vR (some (41, 5)), vR (some (41, 6)), vR (some (41, 7)), vR (some (41, 8)), vR (some (41, 9)), vR (some (41, 10)), vR (some (41, 11)), vR (some (41, 12)), vR (some (41, 13)), vI (-1), vI 0, vR (some (41, 16)), vR (some (41, 17)), vR (some (41, 18)), vR (some (41, 19)), vR (some (41, 20)), vR (some (41, 21)), vR (some (41, 22)), vI 0, vI 0, vI 0, vR (some (41, 26)), vR (some (41, 27)), vR (some (41, 28)), vR (some (41, 29)), vR none, vR none, vR none]) (n := 4) 29 s24 (by decide) rfl rfl (Nat.le_of_ble_eq_true rfl) (by decide) rfl (Nat.le_of_ble_eq_true rfl) rfl (fun M25 s25 => ?_)
  refine m_1 (fs' := [vI 0, vR (some (41, 1)), vR (some (41, 2)), vR (some (41, 3)), vR (some (41, 4)), vR (some (41, 5)), vR (some (41, 6)), vR (some (41, 7)), vR (some (41, 8)), vR (some (41, 9)), vR (some (41, 10)), vR (some (41, 11)), vR (some (41, 12)), vR (some (41, 13)), vI (-1), vI 0, vR (some (41, 16)), vR (some (41, 17)), vR (some (41, 18)), vR (some (41, 19)), vR (some (41, 20)), vR (some (41, 21)), vR (some (41, 22)), vI 0, vI 0, vI 0, vR (some (41, 26)), vR (some (41, 27)), vR (some (41, 28)), vR (some (41, 29)), vR (some (41, 30)), vR none, vR none]) (n := 16) 30 s25 (by decide) rfl rfl (Nat.le_of_ble_eq_true rfl) (by decide) rfl (Nat.le_of_ble_eq_true rfl) rfl (fun M26 s26 => ?_)
  refine m_1 (fs' := [vI 0, vR (some (41, 1)), vR (some (41, 2)), vR (some (41, 3)), vR (some (41, 4)), vR (some (41, 5)), vR (some (41, 6)), vR (some (41, 7)), vR (some (41, 8)), vR (some (41, 9)), vR (some (41, 10)), vR (some (41, 11)), vR (some (41, 12)), vR (some (41, 13)), vI (-1), vI 0, vR (some (41, 16)), vR (some (41, 17)), vR (some (41, 18)), vR (some (41, 19)), vR (some (41, 20)), vR (some (41, 21)), vR (some (41, 22)), vI 0, vI 0, vI 0, vR (some (41, 26)), vR (some (41, 27)), vR (some (41, 28)), vR (some (41, 29)), vR (some (41, 30)), vR (some (41, 31)), vR none]) (n := 4) 31 s26 (by decide) rfl rfl (Nat.le_of_ble_eq_true rfl) (by decide) rfl (Nat.le_of_ble_eq_true rfl) rfl (fun M27 s27 => ?_)
  refine m_1 (fs' := [vI 0, vR (some (41, 1)), vR (some (41, 2)), vR (some (41, 3)), vR (some (41, 4)), vR (some (41, 5)), vR (some (41, 6)), vR (some (41, 7)), vR (some (41, 8)), vR (some (41, 9)), vR (some (41, 10)), vR (some (41, 11)), vR (some (41, 12)), vR (some (41, 13)), vI (-1), vI 0, vR (some (41, 16)), vR (some (41, 17)), vR (some (41, 18)), vR (some (41, 19)), vR (some (41, 20)), vR (some (41, 21)), vR (some (41, 22)), vI 0, vI 0, vI 0, vR (some (41, 26)), vR (some (41, 27)), vR (some (41, 28)), vR (some (41, 29)), vR (some (41, 30)), vR (some (41, 31)), vR (some (41, 32))]) (n := 6) 32 s27 (by decide) rfl rfl (Nat.le_of_ble_eq_true rfl) (by decide) rfl (Nat.le_of_ble_eq_true rfl) rfl (fun M28 s28 => ?_)
  have fin : ∀ v, v = nI P → wp_M_init_247 post (some (40, 0)) x v (some (40, 0)) M28 := fun v e => by
    subst e
    unfold wp_M_init_247
    refine m_f (fs' := [vI (nI P), vR (some (41, 1)), vR (some (41, 2)), vR (some (41, 3)), vR (some (41, 4)), vR (some (41, 5)), vR (some (41, 6)), vR (some (41, 7)), vR (some (41, 8)), vR (some (41, 9)), vR (some (41, 10)), vR (some (41, 11)), vR (some (41, 12)), vR (some (41, 13)), vI (-1), vI 0, vR (some (41, 16)), vR (some (41, 17)), vR (some (41, 18)), vR (some (41, 19)), vR (some (41, 20)), vR (some (41, 21)), vR (some (41, 22)), vI 0, vI 0, vI 0, vR (some (41, 26)), vR (some (41, 27)), vR (some (41, 28)), vR (some (41, 29)), vR (some (41, 30)), vR (some (41, 31)), vR (some (41, 32))]) 0 s28 (Nat.le_of_ble_eq_true rfl) rfl (fun M' s' => k M' ⟨s'.1, fun j hj => s'.2.1 j ?_, s'.2.2.2⟩)
    rcases Nat.lt_or_ge j 33 with g | g
    · exact (by decide : ∀ j, j < 33 → 1 ≤ rl j → j ∈ [32, 31, 30, 29, 28, 27, 26, 22, 21, 20, 19, 18, 17, 16, 13, 12, 11, 10, 9, 8, 7, 6, 5, 4, 3, 2, 1]) j g hj
    · have : rl j = 0 := by
        unfold rl
        rw [List.getD_eq_getElem?_getD, List.getElem?_eq_none (by show 33 ≤ j; exact g)]
        rfl
      omega
  obtain ⟨p1, p4, c1, c2, c3⟩ := hP
  exact ⟨fun z => ⟨fun w => fin _ (c1 z w), fun w => fin _ (by rw [c2 z w]; rfl)⟩, fun z => fin _ (by rw [c3 z]; rfl)⟩
