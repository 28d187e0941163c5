/-- what is still free while a procedures, b clients, t sites are made; s: the sites' array -/
def fz (a b s t : Nat) (r : Ro) : Prop := (r.1 = 2 ∧ a ≤ r.2) ∨ (r.1 = 8 ∧ ((a ≤ r.2 ∧ r.2 ≤ 5) ∨ (10 + t ≤ r.2 ∧ r.2 ≤ 13))) ∨ ((50 + a ≤ r.1 ∧ r.1 ≤ 55) ∨ (60 + t ≤ r.1 ∧ r.1 ≤ 63)) ∨ (r.1 = 1 ∧ b ≤ r.2) ∨ (r.1 = 21 ∧ b ≤ r.2) ∨ (r.1 = 31 ∧ s = 0) ∨ (r.1 = 4 ∧ t ≤ r.2) ∨ r.1 = 5 ∨ r.1 = 7 ∨ r.1 = 40 ∨ r.1 = 41
def stp (P s : Nat) : AE := ob 0 [vI (nI P), vR (some (30, 0)), vR none, vR (if s = 0 then none else some (31, 0)), vR (some (32, 0)), vR (some (8, 20)), vR (some (3, 0)), vR (some (6, 2)), vI 0, vR (some (6, 3)), vI 0, vI 0, vI 0]
def IS (P a b s t : Nat) (M : wM) : Prop := M (0, 0) = some (stp P s) ∧ (∃ f, M (30, 0) = some (ar 4 6 f) ∧ ∀ p, p < a → f p = some (2, p)) ∧ (s ≠ 0 → ∃ f, M (31, 0) = some (ar 6 P f) ∧ ∀ i, i < t → f i = some (4, i)) ∧ (∃ f, M (32, 0) = some (ar 5 4 f) ∧ ∀ i, i < b → f i = some (1, i)) ∧
  (∀ p, p < a → M (2, p) = some (ob 2 [vR (some (8, p)), vI 0, vI 0]) ∧ Lst p [] M) ∧ (∀ i, i < b → M (1, i) = some (ob 1 [vI 0, vI 0, vI 0, vI 0, vI 0, vI 0, vR (some (21, i))]) ∧ M (21, i) = some (ai 0 4 (fun _ => 0))) ∧ (∀ i, i < t → M (4, i) = some (ob 4 [vR (some (8, 10 + i)), vI 0, vI 0, vI 0]) ∧ Lst (10 + i) [] M) ∧
  Lst 20 [] M ∧ Ru P s00 s00 s00 M ∧ M (90, 0) = some eE ∧ ∀ r, fz a b s t r → M r = none
theorem asg42 : asg 4 2 := ⟨_, _, rfl, rfl, Or.inl rfl⟩
theorem asg51 : asg 5 1 := ⟨_, _, rfl, rfl, Or.inl rfl⟩
theorem asg64 : asg 6 4 := ⟨_, _, rfl, rfl, Or.inl rfl⟩
section INI
variable {P a b s t : Nat} {M : wM}
/-- one more procedure -/
theorem ip_1 {K : Prop} {R : wM → Prop} {x : Int32} (hx : x = nI a) (ha : a ≤ 6) (hI : IS P a b s t M) (hP : P ≤ 4) (ht : t ≤ 4) (hge : 6 ≤ a → K) (hlt : a < 6 → ∀ M', IS P (a + 1) b s t M' → R M') : ((6 : Int32) ≤ x → K) ∧ (¬ (6 : Int32) ≤ x → gR M (some (0, 0)) 0 1 (fun a116 => nO M 2 fd_2 (fun a120 M120 => cV M120 a120 2 (wp_P_init (fun M124 => sR M124 a116 x a120 (fun M127 => R M127)) a120 M120)))) := by
  subst hx
  refine ⟨fun z => hge ((nI_leI (a := 6) (by decide) (by omega)).mp z), fun z => ?_⟩
  have ha6 : a < 6 := by
    rcases Nat.lt_or_ge a 6 with g | g
    · exact g
    · exact absurd (nI_le (a := 6) g (by omega)) z
  obtain ⟨h0, ⟨f, h30, hf⟩, h31, ⟨f2, h32, hf2⟩, hp, hc, hs, hL, hR, hE, hz⟩ := hI
  refine k_gR h0 rfl (k_nO (2, a) (by show (2 : Nat) < 90; decide) (hz _ (by unfold fz; dsimp only; omega)) (k_cV up_s ?_))
  unfold wp_P_init
  refine ⟨⟨_, rfl⟩, k_nO (8, a) (by show (8 : Nat) < 90; decide) ((up_n (rne (by decide))).trans (hz _ (by unfold fz; dsimp only; omega))) (k_cV up_s (a_init (fs := []) (by omega) up_s (fun w => ?_) (fun M1 l1 o1 => ?_)))⟩
  · rw [up_n (rne (by omega)), up_n (rne (by omega))]
    exact hz _ (by unfold fz; dsimp only; omega)
  have b1 : ∀ r : Ro, ¬ (r.1 = 8 ∧ r.2 = a) → r.1 ≠ 50 + a → ¬ (r.1 = 2 ∧ r.2 = a) → M1 r = M r := fun r z1 z2 z3 => (o1 r (fun e => z1 (by rw [e]; exact ⟨rfl, rfl⟩)) z2).trans ((up_n (fun e => z1 (by rw [e]; exact ⟨rfl, rfl⟩))).trans (up_n (fun e => z3 (by rw [e]; exact ⟨rfl, rfl⟩))))
  have m1 : M1 (2, a) = some (ob 2 fd_2) := (o1 _ (rne (by decide)) (by show (2 : Nat) ≠ 50 + a; omega)).trans ((up_n (rne (by decide))).trans up_s)
  refine k_pF (fs' := [vR (some (8, a)), vI 0, vI 0]) m1 (Nat.le_of_ble_eq_true rfl) rfl (k_pF (fs' := [vR (some (8, a)), vI 0, vI 0]) up_s (Nat.le_of_ble_eq_true rfl) rfl (k_pF (fs' := [vR (some (8, a)), vI 0, vI 0]) up_s (Nat.le_of_ble_eq_true rfl) rfl ?_))
  rw [up_up, up_up]
  generalize hM2 : up M1 (2, a) (ob 2 [vR (some (8, a)), vI 0, vI 0]) = M2
  have m2 : M2 (2, a) = some (ob 2 [vR (some (8, a)), vI 0, vI 0]) := by rw [← hM2]; exact up_s
  have o2 : ∀ r : Ro, r ≠ (2, a) → M2 r = M1 r := fun r z => by rw [← hM2, up_n z]
  have b2 : ∀ r : Ro, ¬ (r.1 = 8 ∧ r.2 = a) → r.1 ≠ 50 + a → ¬ (r.1 = 2 ∧ r.2 = a) → M2 r = M r := fun r z1 z2 z3 => (o2 r (fun e => z3 (by rw [e]; exact ⟨rfl, rfl⟩))).trans (b1 r z1 z2 z3)
  refine k_sR (f := f) ((b2 _ (fun z => absurd z.1 (by show ¬ (30 : Nat) = 8; decide)) (by show (30 : Nat) ≠ 50 + a; omega) (fun z => absurd z.1 (by show ¬ (30 : Nat) = 2; decide))).trans h30) rfl ha6 (by decide) rfl (fun q hq => ?_) ?_
  · cases hq
    exact ⟨2, _, m2, asg42⟩
  refine hlt ha6 _ ?_
  generalize hM3 : up M2 (30, 0) _ = M3
  have m30 : M3 (30, 0) = some (ar 4 6 (va_up f a (some (2, a)))) := by rw [← hM3]; exact up_s
  have o3 : ∀ r : Ro, r.1 ≠ 30 → M3 r = M2 r := fun r z => by rw [← hM3, up_n (fun e => z (by rw [e]))]
  have b3 : ∀ r : Ro, ¬ (r.1 = 8 ∧ r.2 = a) → r.1 ≠ 50 + a → ¬ (r.1 = 2 ∧ r.2 = a) → r.1 ≠ 30 → M3 r = M r := fun r z1 z2 z3 z4 => (o3 r z4).trans (b2 r z1 z2 z3)
  refine ⟨(b3 _ (by simp) (by show (0 : Nat) ≠ 50 + a; omega) (by simp) (by simp)).trans h0, ⟨_, m30, fun p hp' => ?_⟩, fun g => ?_, ⟨f2, (b3 _ (by simp) (by show (32 : Nat) ≠ 50 + a; omega) (by simp) (by simp)).trans h32, hf2⟩, fun p hp' => ?_, fun i hi => ?_, fun i hi => ?_, Lg_off hL (fun r hr => b3 r (fun z => by unfold dG at hr; omega) (by unfold dG at hr; omega) (fun z => by unfold dG at hr; omega) (by unfold dG at hr; omega)), Ru_off hR (fun r hr => b3 r (fun z => by unfold dR at hr; omega) (by unfold dR at hr; omega) (fun z => by unfold dR at hr; omega) (by unfold dR at hr; omega)), (b3 _ (by simp) (by show (90 : Nat) ≠ 50 + a; omega) (by simp) (by simp)).trans hE, fun r hr => ?_⟩
  · unfold va_up
    by_cases e : p = a
    · rw [if_pos e, e]
    · rw [if_neg e]
      exact hf p (by omega)
  · obtain ⟨f3, w1, w2⟩ := h31 g
    exact ⟨f3, (b3 _ (by simp) (by show (31 : Nat) ≠ 50 + a; omega) (by simp) (by simp)).trans w1, w2⟩
  · by_cases e : p = a
    · subst e
      exact ⟨(o3 _ (by simp)).trans m2, Lst_off l1 ((o3 _ (by simp)).trans (o2 _ (by simp))) (fun w => (o3 _ (by show 50 + p ≠ 30; omega)).trans (o2 _ (rne (by omega))))⟩
    · obtain ⟨w1, w2⟩ := hp p (by omega)
      exact ⟨(b3 _ (by simp) (by show (2 : Nat) ≠ 50 + a; omega) (fun z => e z.2) (by simp)).trans w1, Lst_off w2 (b3 _ (fun z => e z.2) (by show (8 : Nat) ≠ 50 + a; omega) (by simp) (by simp)) (fun w => b3 _ (fun z => absurd z.1 (by show ¬ 50 + p = 8; omega)) (by show 50 + p ≠ 50 + a; omega) (fun z => absurd z.1 (by show ¬ 50 + p = 2; omega)) (by show 50 + p ≠ 30; omega))⟩
  · obtain ⟨w1, w2⟩ := hc i hi
    exact ⟨(b3 _ (by simp) (by show (1 : Nat) ≠ 50 + a; omega) (by simp) (by simp)).trans w1, (b3 _ (by simp) (by show (21 : Nat) ≠ 50 + a; omega) (by simp) (by simp)).trans w2⟩
  · obtain ⟨w1, w2⟩ := hs i hi
    exact ⟨(b3 _ (by simp) (by show (4 : Nat) ≠ 50 + a; omega) (by simp) (by simp)).trans w1, Lst_off w2 (b3 _ (fun z => by have := z.2; dsimp only at this; omega) (by show (8 : Nat) ≠ 50 + a; omega) (by simp) (by simp)) (fun w => b3 _ (fun z => absurd z.1 (by show ¬ 50 + (10 + i) = 8; omega)) (by show 50 + (10 + i) ≠ 50 + a; omega) (fun z => absurd z.1 (by show ¬ 50 + (10 + i) = 2; omega)) (by show 50 + (10 + i) ≠ 30; omega))⟩
  · rw [b3 r (fun z => by unfold fz at hr; omega) (fun z => by unfold fz at hr; omega) (fun z => by unfold fz at hr; omega) (fun z => by unfold fz at hr; omega)]
    exact hz r (by unfold fz at hr ⊢; omega)
/-- one more client -/
theorem ic_1 {K : Prop} {R : wM → Prop} {x : Int32} (hx : x = nI b) (hb : b ≤ 4) (hI : IS P a b s t M) (hge : 4 ≤ b → K) (hlt : b < 4 → ∀ M', IS P a (b + 1) s t M' → R M') : ((4 : Int32) ≤ x → K) ∧ (¬ (4 : Int32) ≤ x → gR M (some (0, 0)) 0 4 (fun a142 => nO M 1 fd_1 (fun a146 M146 => cV M146 a146 1 (wp_C_init (fun M150 => sR M150 a142 x a146 (fun M153 => R M153)) a146 M146)))) := by
  subst hx
  refine ⟨fun z => hge ((nI_leI (a := 4) (by decide) (by omega)).mp z), fun z => ?_⟩
  have hb4 : b < 4 := by
    rcases Nat.lt_or_ge b 4 with g | g
    · exact g
    · exact absurd (nI_le (a := 4) g (by omega)) z
  obtain ⟨h0, ⟨f, h30, hf⟩, h31, ⟨f2, h32, hf2⟩, hp, hc, hs, hL, hR, hE, hz⟩ := hI
  refine k_gR h0 rfl (k_nO (1, b) (by show (1 : Nat) < 90; decide) (hz _ (by unfold fz; dsimp only; omega)) (k_cV up_s ?_))
  unfold wp_C_init
  refine ⟨⟨_, rfl⟩, k_pF (fs' := fd_1) up_s (Nat.le_of_ble_eq_true rfl) rfl (k_pF (fs' := fd_1) up_s (Nat.le_of_ble_eq_true rfl) rfl (k_pF (fs' := fd_1) up_s (Nat.le_of_ble_eq_true rfl) rfl (k_pF (fs' := fd_1) up_s (Nat.le_of_ble_eq_true rfl) rfl (k_pF (fs' := fd_1) up_s (Nat.le_of_ble_eq_true rfl) rfl (k_pF (fs' := fd_1) up_s (Nat.le_of_ble_eq_true rfl) rfl ?_)))))⟩
  rw [up_up, up_up, up_up, up_up, up_up, up_up]
  refine k_nA (i := 4) (21, b) rfl (Nat.le_refl _) (by decide) (by show (21 : Nat) < 90; decide) ((up_n (rne (by decide))).trans (hz _ (by unfold fz; dsimp only; omega))) (k_pF (fs' := [vI 0, vI 0, vI 0, vI 0, vI 0, vI 0, vR (some (21, b))]) ((up_n (rne (by decide))).trans up_s) (Nat.le_of_ble_eq_true rfl) rfl ?_)
  generalize hM2 : up _ (1, b) (ob 1 [vI 0, vI 0, vI 0, vI 0, vI 0, vI 0, vR (some (21, b))]) = M2
  have m2 : M2 (1, b) = some (ob 1 [vI 0, vI 0, vI 0, vI 0, vI 0, vI 0, vR (some (21, b))]) := by rw [← hM2]; exact up_s
  have m21 : M2 (21, b) = some (ai 0 4 (fun _ => 0)) := by rw [← hM2, up_n (rne (by decide)), up_s]
  have b2 : ∀ r : Ro, ¬ (r.1 = 1 ∧ r.2 = b) → ¬ (r.1 = 21 ∧ r.2 = b) → M2 r = M r := fun r z1 z2 => by rw [← hM2, up_n (fun e => z1 (by rw [e]; exact ⟨rfl, rfl⟩)), up_n (fun e => z2 (by rw [e]; exact ⟨rfl, rfl⟩)), up_n (fun e => z1 (by rw [e]; exact ⟨rfl, rfl⟩))]
  refine k_sR (f := f2) ((b2 _ (by simp) (by simp)).trans h32) rfl hb4 (by decide) rfl (fun q hq => ?_) ?_
  · cases hq
    exact ⟨1, _, m2, asg51⟩
  refine hlt hb4 _ ?_
  generalize hM3 : up M2 (32, 0) _ = M3
  have m32 : M3 (32, 0) = some (ar 5 4 (va_up f2 b (some (1, b)))) := by rw [← hM3]; exact up_s
  have o3 : ∀ r : Ro, r.1 ≠ 32 → M3 r = M2 r := fun r z => by rw [← hM3, up_n (fun e => z (by rw [e]))]
  have b3 : ∀ r : Ro, ¬ (r.1 = 1 ∧ r.2 = b) → ¬ (r.1 = 21 ∧ r.2 = b) → r.1 ≠ 32 → M3 r = M r := fun r z1 z2 z4 => (o3 r z4).trans (b2 r z1 z2)
  have lo : ∀ j xs, Lst j xs M → Lst j xs M3 := fun j xs h => Lst_off h (b3 _ (by simp) (by simp) (by simp)) (fun w => b3 _ (fun z => absurd z.1 (by show ¬ 50 + j = 1; omega)) (fun z => absurd z.1 (by show ¬ 50 + j = 21; omega)) (by show 50 + j ≠ 32; omega))
  refine ⟨(b3 _ (by simp) (by simp) (by simp)).trans h0, ⟨f, (b3 _ (by simp) (by simp) (by simp)).trans h30, hf⟩, fun g => ?_, ⟨_, m32, fun i hi => ?_⟩, fun p hp' => ?_, fun i hi => ?_, fun i hi => ?_, lo _ _ hL, Ru_off hR (fun r hr => b3 r (fun z => by unfold dR at hr; omega) (fun z => by unfold dR at hr; omega) (by unfold dR at hr; omega)), (b3 _ (by simp) (by simp) (by simp)).trans hE, fun r hr => ?_⟩
  · obtain ⟨f3, w1, w2⟩ := h31 g
    exact ⟨f3, (b3 _ (by simp) (by simp) (by simp)).trans w1, w2⟩
  · unfold va_up
    by_cases e : i = b
    · rw [if_pos e, e]
    · rw [if_neg e]
      exact hf2 i (by omega)
  · obtain ⟨w1, w2⟩ := hp p hp'
    exact ⟨(b3 _ (by simp) (by simp) (by simp)).trans w1, lo _ _ w2⟩
  · by_cases e : i = b
    · subst e
      exact ⟨(o3 _ (by simp)).trans m2, (o3 _ (by simp)).trans m21⟩
    · obtain ⟨w1, w2⟩ := hc i (by omega)
      exact ⟨(b3 _ (fun z => e z.2) (by simp) (by simp)).trans w1, (b3 _ (by simp) (fun z => e z.2) (by simp)).trans w2⟩
  · obtain ⟨w1, w2⟩ := hs i hi
    exact ⟨(b3 _ (by simp) (by simp) (by simp)).trans w1, lo _ _ w2⟩
  · rw [b3 r (fun z => by unfold fz at hr; omega) (fun z => by unfold fz at hr; omega) (fun z => by unfold fz at hr; omega)]
    exact hz r (by unfold fz at hr ⊢; omega)
/-- one more site -/
theorem iq_1 {K : Prop} {R : wM → Prop} {x : Int32} (hx : x = nI t) (ht : t ≤ P) (hs1 : s ≠ 0) (hI : IS P a b s t M) (hP : P ≤ 4) (ha : a ≤ 6) (hge : P ≤ t → K) (hlt : t < P → ∀ M', IS P a b s (t + 1) M' → R M') : (nI P ≤ x → K) ∧ (¬ nI P ≤ x → gR M (some (0, 0)) 0 3 (fun a182 => nO M 4 fd_4 (fun a186 M186 => cV M186 a186 4 (wp_Q_init (fun M190 => sR M190 a182 x a186 (fun M193 => R M193)) a186 M186)))) := by
  subst hx
  refine ⟨fun z => hge ((nI_leI (by omega) (by omega)).mp z), fun z => ?_⟩
  have htP : t < P := by
    rcases Nat.lt_or_ge t P with g | g
    · exact g
    · exact absurd (nI_le g (by omega)) z
  obtain ⟨h0, ⟨f, h30, hf⟩, h31, ⟨f2, h32, hf2⟩, hp, hc, hs, hL, hR, hE, hz⟩ := hI
  obtain ⟨f3, h31', hf3⟩ := h31 hs1
  have h0' : M (0, 0) = some (ob 0 [vI (nI P), vR (some (30, 0)), vR none, vR (some (31, 0)), vR (some (32, 0)), vR (some (8, 20)), vR (some (3, 0)), vR (some (6, 2)), vI 0, vR (some (6, 3)), vI 0, vI 0, vI 0]) := by
    rw [h0]
    unfold stp
    rw [if_neg hs1]
  refine k_gR h0' rfl (k_nO (4, t) (by show (4 : Nat) < 90; decide) (hz _ (by unfold fz; dsimp only; omega)) (k_cV up_s ?_))
  unfold wp_Q_init
  refine ⟨⟨_, rfl⟩, k_nO (8, 10 + t) (by show (8 : Nat) < 90; decide) ((up_n (rne (by decide))).trans (hz _ (by unfold fz; dsimp only; omega))) (k_cV up_s (a_init (fs := []) (by omega) up_s (fun w => ?_) (fun M1 l1 o1 => ?_)))⟩
  · rw [up_n (rne (by omega)), up_n (rne (by omega))]
    exact hz _ (by unfold fz; dsimp only; omega)
  have b1 : ∀ r : Ro, ¬ (r.1 = 8 ∧ r.2 = 10 + t) → r.1 ≠ 60 + t → ¬ (r.1 = 4 ∧ r.2 = t) → M1 r = M r := fun r z1 z2 z3 => (o1 r (fun e => z1 (by rw [e]; exact ⟨rfl, rfl⟩)) (by omega)).trans ((up_n (fun e => z1 (by rw [e]; exact ⟨rfl, rfl⟩))).trans (up_n (fun e => z3 (by rw [e]; exact ⟨rfl, rfl⟩))))
  have m1 : M1 (4, t) = some (ob 4 fd_4) := (o1 _ (rne (by decide)) (by show (4 : Nat) ≠ 50 + (10 + t); omega)).trans ((up_n (rne (by decide))).trans up_s)
  refine k_pF (fs' := [vR (some (8, 10 + t)), vI 0, vI 0, vI 0]) m1 (Nat.le_of_ble_eq_true rfl) rfl (k_pF (fs' := [vR (some (8, 10 + t)), vI 0, vI 0, vI 0]) up_s (Nat.le_of_ble_eq_true rfl) rfl (k_pF (fs' := [vR (some (8, 10 + t)), vI 0, vI 0, vI 0]) up_s (Nat.le_of_ble_eq_true rfl) rfl (k_pF (fs' := [vR (some (8, 10 + t)), vI 0, vI 0, vI 0]) up_s (Nat.le_of_ble_eq_true rfl) rfl ?_)))
  rw [up_up, up_up, up_up]
  generalize hM2 : up M1 (4, t) (ob 4 [vR (some (8, 10 + t)), vI 0, vI 0, vI 0]) = M2
  have m2 : M2 (4, t) = some (ob 4 [vR (some (8, 10 + t)), vI 0, vI 0, vI 0]) := by rw [← hM2]; exact up_s
  have o2 : ∀ r : Ro, r ≠ (4, t) → M2 r = M1 r := fun r z => by rw [← hM2, up_n z]
  have b2 : ∀ r : Ro, ¬ (r.1 = 8 ∧ r.2 = 10 + t) → r.1 ≠ 60 + t → ¬ (r.1 = 4 ∧ r.2 = t) → M2 r = M r := fun r z1 z2 z3 => (o2 r (fun e => z3 (by rw [e]; exact ⟨rfl, rfl⟩))).trans (b1 r z1 z2 z3)
  refine k_sR (f := f3) ((b2 _ (by simp) (by show (31 : Nat) ≠ 60 + t; omega) (by simp)).trans h31') rfl htP (by omega) rfl (fun q hq => ?_) ?_
  · cases hq
    exact ⟨4, _, m2, asg64⟩
  refine hlt htP _ ?_
  generalize hM3 : up M2 (31, 0) _ = M3
  have m31 : M3 (31, 0) = some (ar 6 P (va_up f3 t (some (4, t)))) := by rw [← hM3]; exact up_s
  have o3 : ∀ r : Ro, r.1 ≠ 31 → M3 r = M2 r := fun r z => by rw [← hM3, up_n (fun e => z (by rw [e]))]
  have b3 : ∀ r : Ro, ¬ (r.1 = 8 ∧ r.2 = 10 + t) → r.1 ≠ 60 + t → ¬ (r.1 = 4 ∧ r.2 = t) → r.1 ≠ 31 → M3 r = M r := fun r z1 z2 z3 z4 => (o3 r z4).trans (b2 r z1 z2 z3)
  refine ⟨(b3 _ (by simp) (by show (0 : Nat) ≠ 60 + t; omega) (by simp) (by simp)).trans h0, ⟨f, (b3 _ (by simp) (by show (30 : Nat) ≠ 60 + t; omega) (by simp) (by simp)).trans h30, hf⟩, fun _ => ⟨_, m31, fun i hi => ?_⟩, ⟨f2, (b3 _ (by simp) (by show (32 : Nat) ≠ 60 + t; omega) (by simp) (by simp)).trans h32, hf2⟩, fun p hp' => ?_, fun i hi => ?_, fun i hi => ?_, Lg_off hL (fun r hr => b3 r (fun z => by unfold dG at hr; omega) (by unfold dG at hr; omega) (fun z => by unfold dG at hr; omega) (by unfold dG at hr; omega)), Ru_off hR (fun r hr => b3 r (fun z => by unfold dR at hr; omega) (by unfold dR at hr; omega) (fun z => by unfold dR at hr; omega) (by unfold dR at hr; omega)), (b3 _ (by simp) (by show (90 : Nat) ≠ 60 + t; omega) (by simp) (by simp)).trans hE, fun r hr => ?_⟩
  · unfold va_up
    by_cases e : i = t
    · rw [if_pos e, e]
    · rw [if_neg e]
      exact hf3 i (by omega)
  · obtain ⟨w1, w2⟩ := hp p hp'
    exact ⟨(b3 _ (by simp) (by show (2 : Nat) ≠ 60 + t; omega) (by simp) (by simp)).trans w1, Lst_off w2 (b3 _ (fun z => by have := z.2; dsimp only at this; omega) (by show (8 : Nat) ≠ 60 + t; omega) (by simp) (by simp)) (fun w => b3 _ (fun z => absurd z.1 (by show ¬ 50 + p = 8; omega)) (by show 50 + p ≠ 60 + t; omega) (fun z => absurd z.1 (by show ¬ 50 + p = 4; omega)) (by show 50 + p ≠ 31; omega))⟩
  · obtain ⟨w1, w2⟩ := hc i hi
    exact ⟨(b3 _ (by simp) (by show (1 : Nat) ≠ 60 + t; omega) (by simp) (by simp)).trans w1, (b3 _ (by simp) (by show (21 : Nat) ≠ 60 + t; omega) (by simp) (by simp)).trans w2⟩
  · by_cases e : i = t
    · subst e
      exact ⟨(o3 _ (by simp)).trans m2, Lst_off l1 ((o3 _ (by simp)).trans (o2 _ (by simp))) (fun w => (o3 _ (by show 50 + (10 + i) ≠ 31; omega)).trans (o2 _ (rne (by omega))))⟩
    · obtain ⟨w1, w2⟩ := hs i (by omega)
      exact ⟨(b3 _ (by simp) (by show (4 : Nat) ≠ 60 + t; omega) (fun z => e z.2) (by simp)).trans w1, Lst_off w2 (b3 _ (fun z => e (by have := z.2; dsimp only at this; omega)) (by show (8 : Nat) ≠ 60 + t; omega) (by simp) (by simp)) (fun w => b3 _ (fun z => absurd z.1 (by show ¬ 50 + (10 + i) = 8; omega)) (by show 50 + (10 + i) ≠ 60 + t; omega) (fun z => absurd z.1 (by show ¬ 50 + (10 + i) = 4; omega)) (by show 50 + (10 + i) ≠ 31; omega))⟩
  · rw [b3 r (fun z => by unfold fz at hr; omega) (fun z => by unfold fz at hr; omega) (fun z => by unfold fz at hr; omega) (fun z => by unfold fz at hr; omega)]
    exact hz r (by unfold fz at hr ⊢; omega)
end INI
