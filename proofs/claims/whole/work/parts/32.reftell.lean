/-! rows of a partition -/
def cpn (T : Fn) (P i : Nat) : Nat → Nat
  | 0 => 0
  | k + 1 => cpn T P i k + (if k % P = i ∧ ¬ T k = 0 then 1 else 0)
theorem cpn_le {T : Fn} {P i : Nat} : ∀ k, cpn T P i k ≤ k := by
  intro k
  induction k with
  | zero => exact Nat.le_refl _
  | succ k ih =>
    unfold cpn
    split <;> omega
theorem cpn_st {T : Fn} {P i x : Nat} (h1 : 1 ≤ P) (h4 : P ≤ 4) (hx : x % P = i) : ∀ j, j < P → cpn T P i (x + 1 + j) = cpn T P i x + (if T x = 0 then 0 else 1) := by
  intro j
  induction j with
  | zero =>
    intro _
    show cpn T P i x + (if x % P = i ∧ ¬ T x = 0 then 1 else 0) = _
    by_cases h : T x = 0
    · simp [h]
    · simp [h, hx]
  | succ j ih =>
    intro hj
    show cpn T P i (x + 1 + j) + (if (x + 1 + j) % P = i ∧ ¬ T (x + 1 + j) = 0 then 1 else 0) = _
    rw [ih (by omega)]
    have : ¬ (x + 1 + j) % P = i := by
      rcases (by omega : P = 1 ∨ P = 2 ∨ P = 3 ∨ P = 4) with rfl | rfl | rfl | rfl <;> omega
    simp [this]
theorem cpn_end {T : Fn} {P i x : Nat} (h1 : 1 ≤ P) (h4 : P ≤ 4) (hx : x % P = i) (h32 : x < 32 + P) : ∀ j, 32 + j ≤ x → cpn T P i (32 + j) = cpn T P i 32 := by
  intro j
  induction j with
  | zero => intro _; rfl
  | succ j ih =>
    intro hj
    show cpn T P i (32 + j + 1) = _
    rw [cpn, ih (by omega)]
    have : ¬ (32 + j) % P = i := by
      rcases (by omega : P = 1 ∨ P = 2 ∨ P = 3 ∨ P = 4) with rfl | rfl | rfl | rfl <;> omega
    simp [this]
theorem f_rowsOf {Q : Int32 → RA → RF → Prop} {P i : Nat} {A : RA} {F : RF} (hF : F 0 = nI P) (hP : 1 ≤ P ∧ P ≤ 4) (hi : i < P) (k : Q (nI (cpn (A 1) P i 32)) A F) : fw_M_rowsOf Q (nI i) A F := by
  have key : ∀ m x, x < 32 + P → 36 ≤ x + m → x % P = i → fw_M_rowsOf_4 Q (m + 1) (nI i) (nI (cpn (A 1) P i x)) (nI x) A F := by
    intro m
    induction m with
    | zero => intro x h1 h2 h3; omega
    | succ m ih =>
      intro x h1 h2 h3
      have en : (nI x).toNatClampNeg = x := nI_clamp (by omega)
      unfold fw_M_rowsOf_4 fw_M_rowsOf_22
      dsimp only [flI]
      rw [hF, en, nI_1, nI_add]
      refine ⟨fun c => ?_, fun c => ?_⟩
      · have hx : 32 ≤ x := (nI_leI (a := 32) (by omega) (by omega)).mp c
        have := cpn_end (T := A 1) hP.1 hP.2 h3 h1 (x - 32) (by omega)
        rw [show 32 + (x - 32) = x by omega] at this
        rw [this]
        exact k
      · have hx : x < 32 := by
          rcases Nat.lt_or_ge x 32 with g | g
          · exact g
          · exact absurd (nI_le g (by omega)) c
        have e := cpn_st (T := A 1) (i := i) hP.1 hP.2 h3 (P - 1) (by omega)
        rw [show x + 1 + (P - 1) = x + P by omega] at e
        have n := ih (x + P) (by omega) (by omega) (by rw [Nat.add_mod_right]; exact h3)
        refine ⟨vp_in_nI (show x < 40 by omega) (by decide), fun c2 => ?_, fun c2 => ?_⟩
        · rw [if_pos c2, Nat.add_zero] at e
          rw [e] at n
          exact n
        · rw [if_neg c2] at e
          rw [e] at n
          exact n
  have key0 : cpn (A 1) P i i = 0 := by
    have : ∀ j, j ≤ i → cpn (A 1) P i j = 0 := by
      intro j
      induction j with
      | zero => intro _; rfl
      | succ j ih =>
        intro hj
        unfold cpn
        rw [ih (by omega)]
        have : ¬ j % P = i := by rw [Nat.mod_eq_of_lt (by omega)]; omega
        simp [this]
    exact this i (Nat.le_refl i)
  have := key 36 i (by omega) (by omega) (Nat.mod_eq_of_lt hi)
  rw [key0] at this
  exact ⟨37, this⟩
/-! tellClients -/
def tld (d : Nat) (dn : Nat → Bool) (cs : Fn) (cn : Nat → Nat) (c : Nat) : Prop := cs c = 1 ∧ dn (cn c) = true ∧ cn c ≤ d
def TC (d : Nat) (dn : Nat → Bool) (cn : Nat → Nat) (A A' : RA) (c : Nat) : Prop :=
  (tld d dn (A 27) cn c → A' 27 c = (if A 20 (cn c) < 0 then 2 else 3) ∧ A' 31 c = A 20 (cn c) ∧ A' 29 c = A 21 (cn c) ∧ ∀ k, k < 4 → A' 30 (4 * c + k) = A 22 (4 * cn c + k)) ∧
  (¬ tld d dn (A 27) cn c → A' 27 c = A 27 c ∧ A' 31 c = A 31 c ∧ A' 29 c = A 29 c ∧ ∀ k, k < 4 → A' 30 (4 * c + k) = A 30 (4 * c + k))
theorem upA_n {A : RA} {k j : Nat} {g : Fn} (h : j ≠ k) : upA A k g j = A j := by simp [upA, h]
theorem upA_s {A : RA} {k : Nat} {g : Fn} : upA A k g k = g := by simp [upA]
theorem upd_s {f : Fn} {k : Nat} {v : Int32} : upd f k v k = v := by simp [upd]
theorem upd_n {f : Fn} {k j : Nat} {v : Int32} (h : j ≠ k) : upd f k v j = f j := by simp [upd, h]
theorem f_tcopy {Q : RA → RF → Prop} {k2 : Int32 → RA → RF → Prop} {c n : Nat} {F : RF} (hc : c < 4) (hn : n ≤ 513) {x : Int32} : ∀ (m i : Nat) (A : RA), i + m = 4 → (∀ A', (∀ k, k ≠ 30 → A' k = A k) → (∀ j, ¬ (4 * c + i ≤ j ∧ j < 4 * c + 4) → A' 30 j = A 30 j) → (∀ k, i ≤ k → k < 4 → A' 30 (4 * c + k) = A 22 (4 * n + k)) → k2 (nI c + 1) A' F) → fw_M_tellClients_90 Q k2 (m + 1) (nI c) (nI n) (nI i) A F := by
  intro m
  induction m with
  | zero =>
    intro i A hi k
    unfold fw_M_tellClients_90 fw_M_tellClients_121
    exact ⟨fun _ => k A (fun _ _ => rfl) (fun _ _ => rfl) (fun k a b => by omega), fun c => absurd (nI_le (a := 4) (by omega) (by omega)) c⟩
  | succ m ih =>
    intro i A hi k
    unfold fw_M_tellClients_90
    rw [nI_lit4, nI_lit4, nI_add, nI_add, nI_1]
    dsimp only [flI, fsI]
    have e1 : (nI (4 * n + i)).toNatClampNeg = 4 * n + i := nI_clamp (by omega)
    have e2 : (nI (4 * c + i)).toNatClampNeg = 4 * c + i := nI_clamp (by omega)
    rw [e1, e2]
    refine ⟨fun z => absurd ((nI_leI (a := 4) (by omega) (by omega)).mp z) (by omega), fun _ => ⟨vp_in_nI (show 4 * n + i < 2056 by omega) (by decide), vp_in_nI (show 4 * c + i < 16 by omega) (by decide), ih (i + 1) _ (by omega) (fun A' a1 a2 a3 => k A' (fun k hk => ?_) (fun j hj => ?_) (fun k hk hk2 => ?_))⟩⟩
    · rw [a1 k hk, upA_n hk]
    · rw [a2 j (by omega), upA_s, upd_n (by omega)]
    · by_cases e : k = i
      · subst e
        rw [a2 _ (by omega), upA_s, upd_s]
      · rw [a3 k (by omega) hk2, upA_n (by decide)]
set_option maxHeartbeats 1000000 in
theorem f_tell {Q : RA → RF → Prop} {d : Nat} {dn : Nat → Bool} {cn : Nat → Nat} {A : RA} {F : RF} (hd : F 23 = nI d) (hd5 : d ≤ 513) (hk : ∀ c, c < 4 → A 28 c = nI (cn c) ∧ cn c ≤ 513) (hdn : ∀ c, c < 4 → A 27 c = 1 → A 18 (cn c) = b2 (dn (cn c)))
    (h : ∀ A', (∀ k, k ≠ 27 → k ≠ 29 → k ≠ 30 → k ≠ 31 → A' k = A k) → (∀ c, c < 4 → TC d dn cn A A' c) → Q A' F) : fw_M_tellClients Q A F := by
  have key : ∀ m i A1, i + m = 4 → (∀ k, k ≠ 27 → k ≠ 29 → k ≠ 30 → k ≠ 31 → A1 k = A k) → (∀ c, c < i → TC d dn cn A A1 c) → (∀ c, i ≤ c → c < 4 → A1 27 c = A 27 c ∧ A1 31 c = A 31 c ∧ A1 29 c = A 29 c ∧ ∀ k, k < 4 → A1 30 (4 * c + k) = A 30 (4 * c + k)) → fw_M_tellClients_2 Q (m + 1) (nI i) A1 F := by
    intro m
    induction m with
    | zero =>
      intro i A1 hi h1 h2 h3
      unfold fw_M_tellClients_2
      exact ⟨fun _ => h A1 h1 (fun c hc => h2 c (by omega)), fun c => absurd (nI_le (a := 4) (by omega) (by omega)) c⟩
    | succ m ih =>
      intro i A1 hi h1 h2 h3
      have ei : (nI i).toNatClampNeg = i := nI_clamp (by omega)
      obtain ⟨k1, k2⟩ := hk i (by omega)
      obtain ⟨r1, r2, r3, r4⟩ := h3 i (Nat.le_refl i) (by omega)
      have en : (nI (cn i)).toNatClampNeg = cn i := nI_clamp (by omega)
      have hi4 : vp_in (nI i) 4 := vp_in_nI (by omega) (by decide)
      have hn5 : vp_in (nI (cn i)) 514 := vp_in_nI (by omega) (by decide)
      have keep : ¬ tld d dn (A 27) cn i → fw_M_tellClients_2 Q (m + 1) (nI (i + 1)) A1 F := fun nt => by
        refine ih (i + 1) A1 (by omega) h1 (fun c hc => ?_) (fun c a b => h3 c (by omega) b)
        by_cases e : c = i
        · subst e
          exact ⟨fun z => absurd z nt, fun _ => ⟨r1, r2, r3, r4⟩⟩
        · exact h2 c (by omega)
      have tell : ∀ v, v = (if A 20 (cn i) < 0 then 2 else 3) → tld d dn (A 27) cn i → fw_M_tellClients_63 Q (fun x1 A F => fw_M_tellClients_2 Q (m + 1) x1 A F) (nI i) (nI (cn i)) v (nI i) A1 F := fun v hv ht => by
        unfold fw_M_tellClients_63
        dsimp only [flI, fsI]
        rw [ei, en]
        refine ⟨hi4, hn5, hi4, hn5, hi4, 5, f_tcopy (x := 0) (by omega) k2 4 0 _ (by omega) (fun A2 a1 a2 a3 => ?_)⟩
        rw [nI_1]
        refine ih (i + 1) A2 (by omega) (fun k g1 g2 g3 g4 => ?_) (fun c hc => ?_) (fun c g1 g2 => ?_)
        · rw [a1 k g3, upA_n g2, upA_n g4, upA_n g1]
          exact h1 k g1 g2 g3 g4
        · by_cases e : c = i
          · subst e
            refine ⟨fun _ => ⟨?_, ?_, ?_, fun k hk => ?_⟩, fun z => absurd ht z⟩
            · rw [a1 27 (by decide), upA_n (by decide), upA_n (by decide), upA_s, upd_s, hv]
            · rw [a1 31 (by decide), upA_n (by decide), upA_s, upd_s, upA_n (by decide), h1 20 (by decide) (by decide) (by decide) (by decide)]
            · rw [a1 29 (by decide), upA_s, upd_s, upA_n (by decide), upA_n (by decide), h1 21 (by decide) (by decide) (by decide) (by decide)]
            · rw [a3 k (by omega) hk, upA_n (by decide), upA_n (by decide), upA_n (by decide), h1 22 (by decide) (by decide) (by decide) (by decide)]
          · have o := h2 c (by omega)
            have e27 : A2 27 c = A1 27 c := by rw [a1 27 (by decide), upA_n (by decide), upA_n (by decide), upA_s, upd_n e]
            have e31 : A2 31 c = A1 31 c := by rw [a1 31 (by decide), upA_n (by decide), upA_s, upd_n e, upA_n (by decide)]
            have e29 : A2 29 c = A1 29 c := by rw [a1 29 (by decide), upA_s, upd_n e, upA_n (by decide), upA_n (by decide)]
            have e30 : ∀ k, k < 4 → A2 30 (4 * c + k) = A1 30 (4 * c + k) := fun k hk => by rw [a2 _ (by omega), upA_n (by decide), upA_n (by decide), upA_n (by decide)]
            refine ⟨fun z => ?_, fun z => ?_⟩
            · obtain ⟨y1, y2, y3, y4⟩ := o.1 z
              exact ⟨e27.trans y1, e31.trans y2, e29.trans y3, fun k hk => (e30 k hk).trans (y4 k hk)⟩
            · obtain ⟨y1, y2, y3, y4⟩ := o.2 z
              exact ⟨e27.trans y1, e31.trans y2, e29.trans y3, fun k hk => (e30 k hk).trans (y4 k hk)⟩
        · have e : c ≠ i := by omega
          obtain ⟨y1, y2, y3, y4⟩ := h3 c (by omega) g2
          refine ⟨?_, ?_, ?_, fun k hk => ?_⟩
          · rw [a1 27 (by decide), upA_n (by decide), upA_n (by decide), upA_s, upd_n e]; exact y1
          · rw [a1 31 (by decide), upA_n (by decide), upA_s, upd_n e, upA_n (by decide)]; exact y2
          · rw [a1 29 (by decide), upA_s, upd_n e, upA_n (by decide), upA_n (by decide)]; exact y3
          · rw [a2 _ (by omega), upA_n (by decide), upA_n (by decide), upA_n (by decide)]; exact y4 k hk
      unfold fw_M_tellClients_2 fw_M_tellClients_121
      dsimp only [flI]
      rw [ei, hd, nI_1, r1, h1 28 (by decide) (by decide) (by decide) (by decide), k1, en, h1 18 (by decide) (by decide) (by decide) (by decide), h1 20 (by decide) (by decide) (by decide) (by decide)]
      refine ⟨fun z => absurd ((nI_leI (a := 4) (by omega) (by omega)).mp z) (by omega), fun _ => ⟨hi4, hi4, fun z => keep (fun t => z t.1), fun z => ⟨hn5, ?_⟩⟩⟩
      rw [hdn i (by omega) z]
      refine ⟨fun y => keep (fun t => by rw [t.2.1] at y; exact absurd y (by decide)), fun y => ⟨fun x => ⟨hn5, ?_⟩, fun x => keep (fun t => x (nI_le t.2.2 (by omega)))⟩⟩
      have ht : tld d dn (A 27) cn i := ⟨z, by
        cases h : dn (cn i) with
        | false => exact absurd (b2_0.mpr h) y
        | true => rfl, (nI_leI (by omega) (by omega)).mp x⟩
      exact ⟨fun v => tell 3 (if_neg (Int32.not_lt.mpr v)).symm ht, fun v => tell 2 (if_pos (Int32.not_le.mp v)).symm ht⟩
  exact ⟨5, key 4 0 A (by omega) (fun _ _ _ _ _ => rfl) (fun c hc => by omega) (fun c _ _ => ⟨rfl, rfl, rfl, fun _ _ => rfl⟩)⟩
