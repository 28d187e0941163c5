/-! runs one after another, in the order of numbers: X n is command n's run, p says which are run -/
abbrev DB : Type := Fn × Fn
def fo (X : Nat → DB → DB) (p : Nat → Bool) (c : Nat) (s : DB) : Nat → DB
  | 0 => s
  | k + 1 => if p (c + k + 1) = true then X (c + k + 1) (fo X p c s k) else fo X p c s k
abbrev agD (P q : Int32) (s s2 : DB) : Prop := ag P q s.1 s.2 s2.1 s2.2
abbrev onD (P q : Int32) (s s2 : DB) : Prop := on P q s.1 s.2 s2.1 s2.2
theorem ag_rf {P q : Int32} {s : DB} : agD P q s s := ⟨fun _ _ => ⟨rfl, rfl⟩, fun _ _ => rfl⟩
theorem ag_sy {P q : Int32} {s s2 : DB} (h : agD P q s s2) : agD P q s2 s := ⟨fun k hk => ⟨(h.1 k hk).1.symm, (h.1 k hk).2.symm⟩, fun k hk => (h.2 k hk).symm⟩
theorem ag_tr {P q : Int32} {s s2 s3 : DB} (h : agD P q s s2) (g : agD P q s2 s3) : agD P q s s3 := ⟨fun k hk => ⟨(h.1 k hk).1.trans (g.1 k hk).1, (h.1 k hk).2.trans (g.1 k hk).2⟩, fun k hk => (h.2 k hk).trans (g.2 k hk)⟩
theorem vw_ne {P q q2 : Int32} {k : Nat} (h : vw P q k) (hne : ¬ q2 = q) : ¬ vw P q2 k := fun g => hne (g.2.symm.trans h.2)
theorem vw_lt {P q : Int32} {k : Nat} (h : 32 ≤ k) : ¬ vw P q k := fun g => by
  have := g.1
  omega
/-- a run in another partition leaves this one's view -/
theorem on_ag {P q q2 : Int32} {s s2 : DB} (h : onD P q2 s s2) (hne : ¬ q2 = q) : agD P q s2 s := ⟨fun k hk => h k (vw_ne hk hne), fun k hk => (h k (vw_lt hk)).2⟩
/-- what a SINGLE run keeps to -/
def sgl (P : Int32) (X : Nat → DB → DB) (q : Int32) (n : Nat) : Prop := (∀ s, onD P q s (X n s)) ∧ ∀ s s2, agD P q s s2 → agD P q (X n s) (X n s2)
theorem sgl_comm {P : Int32} {X : Nat → DB → DB} {q q2 : Int32} {n m : Nat} (hn : sgl P X q n) (hm : sgl P X q2 m) (hne : ¬ q = q2) (s : DB) : X m (X n s) = X n (X m s) := by
  have a1 : agD P q (X n (X m s)) (X n s) := hn.2 _ _ (on_ag (hm.1 s) (fun e => hne e.symm))
  have a2 : agD P q2 (X m (X n s)) (X m s) := hm.2 _ _ (on_ag (hn.1 s) hne)
  have key : ∀ k, (X m (X n s)).1 k = (X n (X m s)).1 k ∧ (X m (X n s)).2 k = (X n (X m s)).2 k := by
    intro k
    by_cases h1 : vw P q k
    · have h2 : ¬ vw P q2 k := vw_ne h1 (fun e => hne e.symm)
      have b1 := hm.1 (X n s) k h2
      have b2 := a1.1 k h1
      exact ⟨b1.1.trans b2.1.symm, b1.2.trans b2.2.symm⟩
    · have c1 := hn.1 (X m s) k h1
      by_cases h2 : vw P q2 k
      · have b2 := a2.1 k h2
        exact ⟨b2.1.trans c1.1.symm, b2.2.trans c1.2.symm⟩
      · have d1 := hm.1 (X n s) k h2
        have d2 := hn.1 s k h1
        have d3 := hm.1 s k h2
        exact ⟨(d1.1.trans d2.1).trans (c1.1.trans d3.1).symm, (d1.2.trans d2.2).trans (c1.2.trans d3.2).symm⟩
  exact Prod.ext (funext fun k => (key k).1) (funext fun k => (key k).2)
theorem fo_ext {X : Nat → DB → DB} {p p2 : Nat → Bool} {c : Nat} {s : DB} : ∀ (K : Nat), (∀ j, c < j → j ≤ c + K → p j = p2 j) → fo X p c s K = fo X p2 c s K := by
  intro K
  induction K with
  | zero => intro _; rfl
  | succ K ih =>
    intro h
    unfold fo
    rw [h (c + K + 1) (by omega) (by omega), ih (fun j h1 h2 => h j h1 (by omega))]
theorem fo_extX {X X2 : Nat → DB → DB} {p : Nat → Bool} {c : Nat} {s : DB} : ∀ (K : Nat), (∀ j, c < j → j ≤ c + K → p j = true → X j = X2 j) → fo X p c s K = fo X2 p c s K := by
  intro K
  induction K with
  | zero => intro _; rfl
  | succ K ih =>
    intro h
    unfold fo
    rw [ih (fun j h1 h2 => h j h1 (by omega))]
    by_cases hp : p (c + K + 1) = true
    · rw [if_pos hp, if_pos hp, h (c + K + 1) (by omega) (by omega) hp]
    · rw [if_neg hp, if_neg hp]
/-- one more run, put in at its number -/
theorem fo_ins {X : Nat → DB → DB} {p p2 : Nat → Bool} {c i : Nat} {s : DB} (h0 : p (c + i + 1) = false) (h1 : p2 (c + i + 1) = true) : ∀ (K : Nat), i < K → (∀ j, c < j → j ≤ c + K → ¬ j = c + i + 1 → p2 j = p j) → (∀ j, c + i + 1 < j → j ≤ c + K → p j = true → ∀ s, X j (X (c + i + 1) s) = X (c + i + 1) (X j s)) → fo X p2 c s K = X (c + i + 1) (fo X p c s K) := by
  intro K
  induction K with
  | zero => intro h; omega
  | succ K ih =>
    intro hi he hc
    by_cases hK : K = i
    · subst hK
      unfold fo
      rw [if_pos h1, if_neg (by rw [h0]; decide), fo_ext (p := p2) (p2 := p) K (fun j a b => he j a (by omega) (by omega))]
    · have ihK := ih (by omega) (fun j a b => he j a (by omega)) (fun j a b => hc j a (by omega))
      unfold fo
      rw [he (c + K + 1) (by omega) (by omega) (by omega), ihK]
      by_cases hp : p (c + K + 1) = true
      · rw [if_pos hp, if_pos hp, hc (c + K + 1) (by omega) (by omega) hp]
      · rw [if_neg hp, if_neg hp]
/-- the view of a partition: which runs of the others are there doesn't matter, as long as no run over all partitions comes behind them -/
theorem fo_view {P q : Int32} {X : Nat → DB → DB} {p p2 : Nat → Bool} {c : Nat} {s : DB} {vq : Nat → Int32} {mul : Nat → Prop} (N : Nat)
    (hs : ∀ j, c < j → j ≤ c + N → p j = true ∨ p2 j = true → ¬ mul j → sgl P X (vq j) j)
    (hm : ∀ j, c < j → j ≤ c + N → mul j → p j = p2 j) (hq : ∀ j, c < j → j ≤ c + N → ¬ mul j → vq j = q → p j = p2 j)
    (hb : ∀ j m, c < j → j < m → m ≤ c + N → mul m → p m = true → p j = p2 j) :
    ∀ (K : Nat), K ≤ N → agD P q (fo X p c s K) (fo X p2 c s K) ∧ ((∃ m, c + K < m ∧ m ≤ c + N ∧ mul m ∧ p m = true) → fo X p c s K = fo X p2 c s K) := by
  intro K
  induction K with
  | zero => intro _; exact ⟨ag_rf, fun _ => rfl⟩
  | succ K ih =>
    intro hK
    obtain ⟨i1, i2⟩ := ih (by omega)
    have heq : p (c + K + 1) = p2 (c + K + 1) → fo X p c s K = fo X p2 c s K → fo X p c s (K + 1) = fo X p2 c s (K + 1) := fun a b => by
      show (if p (c + K + 1) = true then _ else _) = (if p2 (c + K + 1) = true then _ else _)
      rw [a, b]
    by_cases hmu : mul (c + K + 1)
    · have e := hm (c + K + 1) (by omega) (by omega) hmu
      by_cases hp : p (c + K + 1) = true
      · have := heq e (i2 ⟨c + K + 1, by omega, by omega, hmu, hp⟩)
        rw [this]
        exact ⟨ag_rf, fun _ => rfl⟩
      · have hp2 : ¬ p2 (c + K + 1) = true := by rw [← e]; exact hp
        unfold fo
        rw [if_neg hp, if_neg hp2]
        exact ⟨i1, fun ⟨m, a, b, d, f⟩ => i2 ⟨m, by omega, b, d, f⟩⟩
    · refine ⟨?_, fun ⟨m, a, b, d, f⟩ => heq (hb _ m (by omega) (by omega) b d f) (i2 ⟨m, by omega, b, d, f⟩)⟩
      unfold fo
      by_cases hqq : vq (c + K + 1) = q
      · have e := hq (c + K + 1) (by omega) (by omega) hmu hqq
        by_cases hp : p (c + K + 1) = true
        · have hp2 : p2 (c + K + 1) = true := by rw [← e]; exact hp
          rw [if_pos hp, if_pos hp2]
          have := (hs (c + K + 1) (by omega) (by omega) (Or.inl hp) hmu).2 _ _ (hqq ▸ i1)
          exact hqq ▸ this
        · have hp2 : ¬ p2 (c + K + 1) = true := by rw [← e]; exact hp
          rw [if_neg hp, if_neg hp2]
          exact i1
      · have hl : ∀ st, p (c + K + 1) = true ∨ p2 (c + K + 1) = true → agD P q (X (c + K + 1) st) st := fun st h => on_ag ((hs (c + K + 1) (by omega) (by omega) h hmu).1 st) hqq
        by_cases hp : p (c + K + 1) = true <;> by_cases hp2 : p2 (c + K + 1) = true
        · rw [if_pos hp, if_pos hp2]
          exact ag_tr (hl _ (Or.inl hp)) (ag_tr i1 (ag_sy (hl _ (Or.inl hp))))
        · rw [if_pos hp, if_neg hp2]
          exact ag_tr (hl _ (Or.inl hp)) i1
        · rw [if_neg hp, if_pos hp2]
          exact ag_tr i1 (ag_sy (hl _ (Or.inr hp2)))
        · rw [if_neg hp, if_neg hp2]
          exact i1
/-- a fold in two -/
theorem fo_add {X : Nat → DB → DB} {p : Nat → Bool} {c : Nat} {s : DB} {k : Nat} : ∀ (j : Nat), fo X p c s (k + j) = fo X p (c + k) (fo X p c s k) j := by
  intro j
  induction j with
  | zero => rfl
  | succ j ih =>
    show (if p (c + (k + j) + 1) = true then X (c + (k + j) + 1) (fo X p c s (k + j)) else fo X p c s (k + j)) = (if p (c + k + j + 1) = true then X (c + k + j + 1) (fo X p (c + k) (fo X p c s k) j) else fo X p (c + k) (fo X p c s k) j)
    rw [ih, show c + (k + j) + 1 = c + k + j + 1 by omega]
/-! the reference's commands as runs -/
abbrev xr (A : RA) (F : RF) (n : Nat) (s : DB) : Int32 × Fn × Fn × Int32 × Fn := exn A F n (ix (A 16 n)) (ix (A 9 (ix (A 16 n)))) s.1 s.2 (fun _ => 0)
def xs (A : RA) (F : RF) (n : Nat) (s : DB) : DB := ((xr A F n s).2.1, (xr A F n s).2.2.1)
theorem xs_sgl {A : RA} {F : RF} {n : Nat} (hm : mu A n = 0) (h9 : ∀ k, k < ix (A 9 (ix (A 16 n))) → ¬ A 10 (8 * ix (A 16 n) + k) = 9) : sgl (F 0) (xs A F) (pq A F n) n := by
  refine ⟨fun s => ?_, fun s s2 h => ?_⟩
  · obtain ⟨fa, T', H', T2', H2', o', w', e1, e2, r3, r4, r5⟩ := ex_loc (mu := mu A n) (P := F 0) (q := pq A F n) (sn := ix (A 9 (ix (A 16 n)))) (so := pso A (ix (A 16 n))) (sx := psx A (ix (A 16 n))) (sy := psy A (ix (A 16 n))) (sz := psz A (ix (A 16 n))) (a := A 17 (3 * n)) (b := A 17 (3 * n + 1)) (c := A 17 (3 * n + 2)) (w := fun _ => 0) hm h9 (ag_rf (P := F 0) (q := pq A F n) (s := s))
    unfold xs xr exn
    rw [e1]
    exact r4
  · obtain ⟨fa, T', H', T2', H2', o', w', e1, e2, r3, r4, r5⟩ := ex_loc (mu := mu A n) (P := F 0) (q := pq A F n) (sn := ix (A 9 (ix (A 16 n)))) (so := pso A (ix (A 16 n))) (sx := psx A (ix (A 16 n))) (sy := psy A (ix (A 16 n))) (sz := psz A (ix (A 16 n))) (a := A 17 (3 * n)) (b := A 17 (3 * n + 1)) (c := A 17 (3 * n + 2)) (w := fun _ => 0) hm h9 h
    unfold xs xr exn
    rw [e1, e2]
    exact r3
