/-! the reference's execute -/
/-- the statements of procedure p -/
abbrev pso (A : RA) (p : Nat) : Fn := fun k => A 10 (8 * p + k)
abbrev psx (A : RA) (p : Nat) : Fn := fun k => A 11 (8 * p + k)
abbrev psy (A : RA) (p : Nat) : Fn := fun k => A 12 (8 * p + k)
abbrev psz (A : RA) (p : Nat) : Fn := fun k => A 13 (8 * p + k)
/-- procedure p has sn good statements -/
def okP (A : RA) (p sn : Nat) : Prop := p < 6 ∧ sn ≤ 8 ∧ A 9 p = nI sn ∧ ∀ k, k < sn → okS (A 10 (8 * p + k)) (A 11 (8 * p + k)) (A 12 (8 * p + k)) (A 13 (8 * p + k))
/-- rows are there or not -/
def b01 (T : Fn) : Prop := ∀ j, T j = 0 ∨ T j = 1
theorem b01_upd {T : Fn} {k : Nat} {v : Int32} (h : b01 T) (hv : v = 0 ∨ v = 1) : b01 (upd T k v) := fun j => by
  by_cases e : j = k
  · simp only [upd, e, reduceIte]; exact hv
  · simp only [upd, e, reduceIte]; exact h j
theorem stm_inv {mu P q op x y z : Int32} {g T H : Fn} {o : Int32} {w : Fn} {r : Fn × Fn × Fn × Int32 × Fn} (h : stm mu P q op x y z g T H o w = some r) :
    (∃ v, r = (upd g (ix x) v, T, H, o, w)) ∨ (∃ i t v, i < 40 ∧ (t = 0 ∨ t = 1) ∧ r = (g, upd T i t, upd H i v, o, w)) ∨ r = (g, T, H, o, w) ∨ (¬ o = 4 ∧ r = (g, T, H, o + 1, upd w (ix o) (g (ix x)))) := by
  unfold stm at h
  by_cases c0 : op = 0
  · rw [if_pos c0] at h
    by_cases f : fr mu P q (g (ix y)) ∨ T (ix (g (ix y))) = 0
    · rw [if_pos f] at h
      cases h
    · rw [if_neg f] at h
      cases h
      exact Or.inl ⟨_, rfl⟩
  rw [if_neg c0] at h
  by_cases c1 : op = 1
  · rw [if_pos c1] at h
    by_cases f : fr mu P q (g (ix x))
    · rw [if_pos f] at h
      cases h
    · rw [if_neg f] at h
      cases h
      exact Or.inr (Or.inl ⟨_, _, _, Nat.lt_trans (fr_in f).2 (by decide), Or.inr rfl, rfl⟩)
  rw [if_neg c1] at h
  by_cases c2 : op = 2
  · rw [if_pos c2] at h
    by_cases f : fr mu P q (g (ix x)) ∨ ¬ T (ix (g (ix x))) = 0
    · rw [if_pos f] at h
      cases h
    · rw [if_neg f] at h
      cases h
      exact Or.inr (Or.inl ⟨_, _, _, Nat.lt_trans (fr_in (fun z => f (Or.inl z))).2 (by decide), Or.inr rfl, rfl⟩)
  rw [if_neg c2] at h
  by_cases c3 : op = 3
  · rw [if_pos c3] at h
    by_cases f : fr mu P q (g (ix x)) ∨ T (ix (g (ix x))) = 0
    · rw [if_pos f] at h
      cases h
    · rw [if_neg f] at h
      cases h
      exact Or.inr (Or.inl ⟨_, _, _, Nat.lt_trans (fr_in (fun z => f (Or.inl z))).2 (by decide), Or.inl rfl, rfl⟩)
  rw [if_neg c3] at h
  by_cases c4 : op = 4
  · rw [if_pos c4] at h
    cases h
    exact Or.inl ⟨_, rfl⟩
  rw [if_neg c4] at h
  by_cases c5 : op = 5
  · rw [if_pos c5] at h
    cases h
    exact Or.inl ⟨_, rfl⟩
  rw [if_neg c5] at h
  by_cases c6 : op = 6
  · rw [if_pos c6] at h
    by_cases f : g (ix x) < g (ix y)
    · rw [if_pos f] at h
      cases h
    · rw [if_neg f] at h
      cases h
      exact Or.inr (Or.inr (Or.inl rfl))
  rw [if_neg c6] at h
  by_cases c7 : op = 7
  · rw [if_pos c7] at h
    cases h
    exact Or.inr (Or.inr (Or.inl rfl))
  rw [if_neg c7] at h
  by_cases c8 : op = 8
  · rw [if_pos c8] at h
    by_cases f : o8 (g (ix y))
    · rw [if_pos f] at h
      cases h
    · rw [if_neg f] at h
      cases h
      exact Or.inl ⟨_, rfl⟩
  rw [if_neg c8] at h
  by_cases c9 : op = 9
  · rw [if_pos c9] at h
    by_cases f : o8 (g (ix x))
    · rw [if_pos f] at h
      cases h
    · rw [if_neg f] at h
      cases h
      exact Or.inr (Or.inl ⟨_, _, _, Nat.add_lt_add_left (o8_in f).1 32, Or.inr rfl, rfl⟩)
  rw [if_neg c9] at h
  by_cases f : o = 4
  · rw [if_pos f] at h
    cases h
  · rw [if_neg f] at h
    cases h
    exact Or.inr (Or.inr (Or.inr ⟨f, rfl⟩))
theorem stm_b {mu P q op x y z : Int32} {g T H : Fn} {o : Int32} {w : Fn} {r : Fn × Fn × Fn × Int32 × Fn} (h : stm mu P q op x y z g T H o w = some r) (hT : b01 T) : b01 r.2.1 := by
  rcases stm_inv h with ⟨v, rfl⟩ | ⟨i, t, v, hi, ht, rfl⟩ | rfl | ⟨_, rfl⟩
  · exact hT
  · exact b01_upd hT ht
  · exact hT
  · exact hT
theorem stm_o {mu P q op x y z : Int32} {g T H : Fn} {o : Nat} {w : Fn} {r : Fn × Fn × Fn × Int32 × Fn} (h : stm mu P q op x y z g T H (nI o) w = some r) (ho : o ≤ 4) : ∃ o', o' ≤ 4 ∧ r.2.2.2.1 = nI o' := by
  rcases stm_inv h with ⟨v, rfl⟩ | ⟨i, t, v, hi, ht, rfl⟩ | rfl | ⟨h4, rfl⟩
  · exact ⟨o, ho, rfl⟩
  · exact ⟨o, ho, rfl⟩
  · exact ⟨o, ho, rfl⟩
  · have hlt : o < 4 := by
      rcases Nat.lt_or_ge o 4 with g | g
      · exact g
      · exact absurd (by rw [show o = 4 by omega]; rfl) h4
    exact ⟨o + 1, hlt, nI_1 o⟩
theorem stm_g {mu P q op x y z : Int32} {g T H : Fn} {o : Int32} {w : Fn} {r : Fn × Fn × Fn × Int32 × Fn} (h : stm mu P q op x y z g T H o w = some r) (hx : vp_in x 6) : ∀ j, 6 ≤ j → r.1 j = g j := by
  have hix : ix x < 6 := Nat.not_le.mp fun k => hx (Or.inr k)
  rcases stm_inv h with ⟨v, rfl⟩ | ⟨i, t, v, hi, ht, rfl⟩ | rfl | ⟨h4, rfl⟩
  · intro j hj
    have : j ≠ ix x := by omega
    simp [upd, this]
  · exact fun _ _ => rfl
  · exact fun _ _ => rfl
  · exact fun _ _ => rfl
/-- what the loop of execute leaves -/
def enR (A A' : RA) (n : Nat) (r : Int32 × Fn × Fn × Int32 × Fn) : Prop := A' 20 = upd (A 20) n r.1 ∧ A' 1 = r.2.1 ∧ A' 2 = r.2.2.1 ∧ A' 21 = upd (A 21) n r.2.2.2.1 ∧ wv A' n = r.2.2.2.2 ∧ (∀ j, ¬ (4 * n ≤ j ∧ j < 4 * n + 4) → A' 22 j = A 22 j) ∧ (∀ j, 6 ≤ j → A' 32 j = A 32 j) ∧ ∀ k, k ≠ 32 → k ≠ 1 → k ≠ 2 → k ≠ 20 → k ≠ 21 → k ≠ 22 → A' k = A k
theorem upd_upd {f : Fn} {k : Nat} {v w : Int32} : upd (upd f k v) k w = upd f k w := by
  funext j
  by_cases e : j = k <;> simp [upd, e]
theorem enR_st {A A1 A' : RA} {n : Nat} {q : Fn × Fn × Fn × Int32 × Fn} {r : Int32 × Fn × Fn × Int32 × Fn} (h1 : stA A A1 n q) (hg : ∀ j, 6 ≤ j → q.1 j = A 32 j) (h : enR A1 A' n r) : enR A A' n r := by
  obtain ⟨a1, a2, a3, a4, a5, a6, a7⟩ := h1
  obtain ⟨b1, b2, b3, b4, b5, b6, b7, b8⟩ := h
  refine ⟨?_, b2, b3, ?_, b5, fun j hj => (b6 j hj).trans (a6 j hj), fun j hj => ?_, fun k k1 k2 k3 k4 k5 k6 => (b8 k k1 k2 k3 k4 k5 k6).trans (a7 k k1 k2 k3 k5 k6)⟩
  · rw [b1, a7 20 (by decide) (by decide) (by decide) (by decide) (by decide)]
  · rw [b4, a4, upd_upd]
  · rw [b7 j hj, a1, hg j hj]
theorem sk_le {op y gx : Int32} (h : op = 7 → 1 ≤ y ∧ y ≤ 7) : sk op y gx ≤ 7 := by
  unfold sk
  split
  · rename_i c
    obtain ⟨j, hj, rfl⟩ := nI_of2 (M := 7) (n := 7) (by decide) (x := y) (fun g => absurd (Int32.lt_of_lt_of_le g (Int32.le_trans (by decide : (0 : Int32) ≤ 1) (h c.1).1)) Int32.lt_irrefl) (h c.1).2
    rw [ix_nI (by omega)]
    exact hj
  · omega
/-- the next statement's number -/
theorem f_next {Q : RA → RF → Prop} {k100 : Int32 → Int32 → Int32 → RA → RF → Prop} {n p k a : Nat} {A : RA} {F : RF} (ha : a < 56) (hx : vp_in (A 11 a) 6) (hy : A 10 a = 7 → 1 ≤ A 12 a ∧ A 12 a ≤ 7)
    (h : k100 (nI n) (nI p) (nI (k + 1 + sk (A 10 a) (A 12 a) (A 32 (ix (A 11 a))))) A F) : fw_M_execute_144 Q k100 (nI n) (nI p) (nI k) (nI a) A F := by
  have ea : (nI a).toNatClampNeg = a := nI_clamp (by omega)
  have hia : vp_in (nI a) 56 := vp_in_nI ha (by decide)
  unfold fw_M_execute_144 fw_M_execute_184 fw_M_execute_185
  dsimp only [flI]
  rw [ea]
  refine ⟨hia, fun c => ?_, fun c => ⟨hia, hx, fun d => ?_, fun d => ⟨hia, ?_⟩⟩⟩
  · have : sk (A 10 a) (A 12 a) (A 32 (ix (A 11 a))) = 0 := if_neg (fun g => c g.1)
    rw [this] at h
    rw [nI_1]
    exact h
  · have : sk (A 10 a) (A 12 a) (A 32 (ix (A 11 a))) = 0 := if_neg (fun g => d g.2)
    rw [this] at h
    rw [nI_1]
    exact h
  · have e1 : sk (A 10 a) (A 12 a) (A 32 (ix (A 11 a))) = ix (A 12 a) := if_pos ⟨c, d⟩
    rw [e1] at h
    obtain ⟨h1, h7⟩ := hy c
    obtain ⟨j, hj, ej⟩ := nI_of2 (M := 7) (n := 7) (by decide) (x := A 12 a) (fun g => absurd (Int32.lt_of_lt_of_le g (Int32.le_trans (by decide : (0 : Int32) ≤ 1) h1)) Int32.lt_irrefl) h7
    have e2 : nI k + (1 + A 12 a) = nI (k + 1 + ix (A 12 a)) := by
      rw [ej, ix_nI (by omega), show (1 : Int32) = nI 1 from rfl, nI_add, nI_add, Nat.add_assoc]
    rw [e2]
    exact h
set_option maxHeartbeats 4000000 in
theorem f_loop {Q : RA → RF → Prop} {n p sn : Nat} {F : RF} (hn : n < 514) (hP : ¬ F 0 = 0) : ∀ (f k : Nat) (A : RA), k ≤ 1000 → sn ≤ k + f → okP A p sn → A 16 n = nI p → A 20 n = -1 → (∃ o, o ≤ 4 ∧ A 21 n = nI o) →
    (∀ x3 A', enR A A' n (rn (mu A n) (F 0) (pq A F n) sn (pso A p) (psx A p) (psy A p) (psz A p) f k (A 32) (A 1) (A 2) (A 21 n) (wv A n)) → fw_M_execute_190 Q (nI n) (nI p) x3 A' F) → fw_M_execute_100 Q (f + 2) (nI n) (nI p) (nI k) A F := by
  have hid : ∀ {A : RA} {T H : Fn} {o : Int32} {w : Fn}, A 20 n = -1 → A 1 = T → A 2 = H → A 21 n = o → wv A n = w → enR A A n (-1, T, H, o, w) := fun {A T H o w} h1 h2 h3 h4 h5 => ⟨(upd_id h1).symm, h2, h3, (upd_id h4).symm, h5, fun _ _ => rfl, fun _ _ => rfl, fun _ _ _ _ _ _ _ => rfl⟩
  intro f
  induction f with
  | zero =>
    intro k A hkb hk hok hp hf ho hq
    obtain ⟨hp6, hs8, hs, -⟩ := hok
    have ep : (nI p).toNatClampNeg = p := nI_clamp (by omega)
    unfold fw_M_execute_100
    dsimp only [flI]
    rw [ep, hs]
    exact ⟨vp_in_nI (by show p < 7; omega) (by decide), fun _ => hq _ _ (hid hf rfl rfl rfl rfl), fun c => absurd (nI_le (by omega) (by omega)) c⟩
  | succ f ih =>
    intro k A hkb hk hok hp hf ho hq
    obtain ⟨hp6, hs8, hs, hst⟩ := id hok
    have ep : (nI p).toNatClampNeg = p := nI_clamp (by omega)
    have en : (nI n).toNatClampNeg = n := nI_clamp (by omega)
    have hin : vp_in (nI n) 514 := vp_in_nI hn (by decide)
    have hip : vp_in (nI p) 7 := vp_in_nI (by omega) (by decide)
    unfold fw_M_execute_100
    dsimp only [flI]
    rw [ep, hs, en]
    by_cases hks : sn ≤ k
    · refine ⟨hip, fun _ => hq _ _ ?_, fun c => absurd (nI_le hks (by omega)) c⟩
      unfold rn
      rw [if_pos hks]
      exact hid hf rfl rfl rfl rfl
    · refine ⟨hip, fun c => absurd ((nI_leI (by omega) (by omega)).mp c) hks, fun _ => ⟨hin, fun c => absurd (hf ▸ c) (by decide), fun _ => ?_⟩⟩
      have hkn : k < sn := Nat.not_le.mp hks
      have e8 : (8 : Int32) * nI p + nI k = nI (8 * p + k) := by rw [nI_lit8, nI_add]
      rw [e8]
      have ha : 8 * p + k < 56 := by omega
      have hokS := hst k hkn
      unfold rn at hq
      rw [if_neg hks] at hq
      refine f_stm hn ha hP (by rw [hp]; exact hip) hokS ho (fun hs0 => ?_) (fun r A1 hs1 hA1 => ?_)
      · refine ⟨fun c => absurd rfl c, fun _ => ⟨hin, ?_⟩⟩
        rw [en]
        refine f_next (A := upA A 20 (upd (A 20) n (nI k))) ha hokS.2.1 (fun c => hokS.2.2.2.2 c) ?_
        have hs0' : stm (mu A n) (F 0) (pq A F n) (pso A p k) (psx A p k) (psy A p k) (psz A p k) (A 32) (A 1) (A 2) (A 21 n) (wv A n) = none := hs0
        have hE : enR A (upA A 20 (upd (A 20) n (nI k))) n (nI k, A 1, A 2, A 21 n, wv A n) := ⟨rfl, rfl, rfl, (upd_id rfl).symm, rfl, fun _ _ => rfl, fun _ _ => rfl, fun j _ _ _ h4 _ _ => by simp [upA, h4]⟩
        have hq1 : ∀ x3, fw_M_execute_190 Q (nI n) (nI p) x3 (upA A 20 (upd (A 20) n (nI k))) F := fun x3 => hq x3 _ (by rw [hs0']; exact hE)
        show fw_M_execute_100 Q (f + 1 + 1) _ _ _ _ _
        unfold fw_M_execute_100
        dsimp only [flI]
        rw [ep, en]
        refine ⟨hip, fun _ => hq1 _, fun _ => ⟨hin, fun _ => hq1 _, fun c => absurd ?_ c⟩⟩
        show 0 ≤ upd (A 20) n (nI k) n
        simp only [upd, reduceIte]
        exact nI_pos' (by omega)
      · refine ⟨fun _ => ?_, fun c => absurd c (by decide)⟩
        have g1 := stm_g hs1 hokS.2.1
        obtain ⟨o, ho4, eo⟩ := ho
        obtain ⟨o', ho', eo'⟩ := stm_o (eo ▸ hs1) ho4
        obtain ⟨a1, a2, a3, a4, a5, a6, a7⟩ := id hA1
        have k10 := a7 10 (by decide) (by decide) (by decide) (by decide) (by decide)
        have k11 := a7 11 (by decide) (by decide) (by decide) (by decide) (by decide)
        have k12 := a7 12 (by decide) (by decide) (by decide) (by decide) (by decide)
        have k13 := a7 13 (by decide) (by decide) (by decide) (by decide) (by decide)
        have k9 := a7 9 (by decide) (by decide) (by decide) (by decide) (by decide)
        have k16 := a7 16 (by decide) (by decide) (by decide) (by decide) (by decide)
        have k8 := a7 8 (by decide) (by decide) (by decide) (by decide) (by decide)
        have k17 := a7 17 (by decide) (by decide) (by decide) (by decide) (by decide)
        have k20 := a7 20 (by decide) (by decide) (by decide) (by decide) (by decide)
        have hb := sk_le (gx := A1 32 (ix (A1 11 (8 * p + k)))) (fun c => hokS.2.2.2.2 c)
        refine f_next (A := A1) ha (by rw [k11]; exact hokS.2.1) (fun c => by rw [k12]; rw [k10] at c; exact hokS.2.2.2.2 c) ?_
        rw [k10, k12]
        refine ih _ A1 (by omega) (by omega) ⟨hp6, hs8, by rw [k9]; exact hs, fun j hj => by rw [k10, k11, k12, k13]; exact hst j hj⟩ (by rw [k16]; exact hp) (by rw [k20]; exact hf) ⟨o', ho', by rw [a4]; simp only [upd, reduceIte]; exact eo'⟩ (fun x3 A' hE => hq x3 A' ?_)
        have hs1' : stm (mu A n) (F 0) (pq A F n) (pso A p k) (psx A p k) (psy A p k) (psz A p k) (A 32) (A 1) (A 2) (A 21 n) (wv A n) = some r := hs1
        rw [hs1']
        refine enR_st hA1 g1 ?_
        have e21 : A1 21 n = r.2.2.2.1 := by rw [a4]; simp only [upd, reduceIte]
        rw [e21, a5, a1, a2, a3] at hE
        have q10 : pso A1 p = pso A p := by show (fun k => A1 10 (8 * p + k)) = _; rw [k10]
        have q11 : psx A1 p = psx A p := by show (fun k => A1 11 (8 * p + k)) = _; rw [k11]
        have q12 : psy A1 p = psy A p := by show (fun k => A1 12 (8 * p + k)) = _; rw [k12]
        have q13 : psz A1 p = psz A p := by show (fun k => A1 13 (8 * p + k)) = _; rw [k13]
        rw [q10, q11, q12, q13] at hE
        simp only [mu, pq] at hE ⊢
        rw [k8, k16, k17, k11] at hE
        exact hE
theorem rn_hi {mu P q : Int32} {sn : Nat} {so sx sy sz : Fn} : ∀ (f k : Nat) (g T H : Fn) (o : Int32) (w : Fn), (∀ j, 40 ≤ j → (rn mu P q sn so sx sy sz f k g T H o w).2.1 j = T j ∧ (rn mu P q sn so sx sy sz f k g T H o w).2.2.1 j = H j) := by
  intro f
  induction f with
  | zero => intro k g T H o w j _; exact ⟨rfl, rfl⟩
  | succ f ih =>
    intro k g T H o w j hj
    unfold rn
    by_cases hk : sn ≤ k
    · rw [if_pos hk]
      exact ⟨rfl, rfl⟩
    · rw [if_neg hk]
      cases hs : stm mu P q (so k) (sx k) (sy k) (sz k) g T H o w with
      | none => exact ⟨rfl, rfl⟩
      | some r =>
        have h1 := ih (k + 1 + sk (so k) (sy k) (r.1 (ix (sx k)))) r.1 r.2.1 r.2.2.1 r.2.2.2.1 r.2.2.2.2 j hj
        refine ⟨h1.1.trans ?_, h1.2.trans ?_⟩
        · rcases stm_inv hs with ⟨v, rfl⟩ | ⟨i, t, v, hi, ht, rfl⟩ | rfl | ⟨_, rfl⟩
          · rfl
          · have : j ≠ i := by omega
            simp [upd, this]
          · rfl
          · rfl
        · rcases stm_inv hs with ⟨v, rfl⟩ | ⟨i, t, v, hi, ht, rfl⟩ | rfl | ⟨_, rfl⟩
          · rfl
          · have : j ≠ i := by omega
            simp [upd, this]
          · rfl
          · rfl
theorem rn_b {mu P q : Int32} {sn : Nat} {so sx sy sz : Fn} : ∀ (f k : Nat) (g T H : Fn) (o : Int32) (w : Fn), b01 T → b01 (rn mu P q sn so sx sy sz f k g T H o w).2.1 := by
  intro f
  induction f with
  | zero => intro k g T H o w h; exact h
  | succ f ih =>
    intro k g T H o w h
    unfold rn
    by_cases hk : sn ≤ k
    · rw [if_pos hk]
      exact h
    · rw [if_neg hk]
      cases hs : stm mu P q (so k) (sx k) (sy k) (sz k) g T H o w with
      | none => exact h
      | some r => exact ih _ _ _ _ _ _ (stm_b hs h)
theorem f_regs {Q : RA → RF → Prop} {n : Nat} {A : RA} {F : RF} (hn : n < 514) (hx : let A1 := upA A 32 (cpf (A 32) (g0 (A 17 (3 * n)) (A 17 (3 * n + 1)) (A 17 (3 * n + 2))) 6)
    fsI A1 21 (nI n) 0 (fun A83 => fsI A83 20 (nI n) (-1) (fun A90 => flI A90 16 (nI n) (fun a96 => (∃ n', fw_M_execute_100 Q n' (nI n) a96 0 A90 F))))) : ∃ m, fw_M_execute_40 Q m (nI n) 0 A F := by
  dsimp only at hx
  generalize hG : g0 (A 17 (3 * n)) (A 17 (3 * n + 1)) (A 17 (3 * n + 2)) = G at hx
  have key : ∀ m i, i + m = 6 → ∀ x, x = nI i → fw_M_execute_40 Q (m + 1) (nI n) x (upA A 32 (cpf (A 32) G i)) F := by
    intro m
    induction m with
    | zero =>
      intro i hi x ex
      subst ex
      rw [show i = 6 by omega]
      unfold fw_M_execute_40
      exact ⟨fun _ => hx, fun c => absurd (show (6 : Int32) ≤ nI 6 by decide) c⟩
    | succ m ih =>
      intro i hi x ex
      subst ex
      have e : (nI i).toNatClampNeg = i := nI_clamp (by omega)
      have hin : vp_in (nI i) 6 := vp_in_nI (by omega) (by decide)
      have step : ∀ v, v = G i → fw_M_execute_70 Q (fun x1 x2 A F => fw_M_execute_40 Q (m + 1) x1 x2 A F) (nI n) (nI i) v (nI i) (upA A 32 (cpf (A 32) G i)) F := by
        intro v hv
        subst hv
        unfold fw_M_execute_70
        dsimp only [fsI]
        rw [e]
        refine ⟨hin, ?_⟩
        have := ih (i + 1) (by omega) (nI i + 1) (nI_1 i)
        have ea : upA (upA A 32 (cpf (A 32) G i)) 32 (upd (cpf (A 32) G i) i (G i)) = upA A 32 (cpf (A 32) G (i + 1)) := by
          rw [cpf_s]
          funext k
          by_cases h1 : k = 32
          · simp [upA, h1]
          · simp [upA, h1]
        rw [← ea] at this
        exact this
      unfold fw_M_execute_40
      refine ⟨fun c => absurd ((nI_leI (a := 6) (by decide) (by omega)).mp c) (by omega), fun _ => ⟨fun c => step 0 ?_, fun c => ?_⟩⟩
      · have h3 : 3 ≤ i := (nI_leI (a := 3) (by decide) (by omega)).mp c
        rw [← hG]
        simp [g0, show ¬ i = 0 by omega, show ¬ i = 1 by omega, show ¬ i = 2 by omega]
      · have h3 : i < 3 := by
          rcases Nat.lt_or_ge i 3 with g | g
          · exact g
          · exact absurd (nI_le g (by omega)) c
        dsimp only [flI]
        rw [nI_lit3, nI_add]
        have e3 : (nI (3 * n + i)).toNatClampNeg = 3 * n + i := nI_clamp (by omega)
        rw [e3]
        refine ⟨vp_in_nI (by show _ < 1542; omega) (by decide), step _ ?_⟩
        show A 17 (3 * n + i) = G i
        rw [← hG]
        rcases (show i = 0 ∨ i = 1 ∨ i = 2 by omega) with rfl | rfl | rfl <;> rfl
  refine ⟨7, ?_⟩
  have h0 := key 6 0 rfl 0 nI_0.symm
  have e0 : upA A 32 (cpf (A 32) G 0) = A := by
    rw [cpf_0]
    funext k
    by_cases h1 : k = 32
    · simp [upA, h1]
    · simp [upA, h1]
  rw [e0] at h0
  exact h0
