/-! what a SINGLE command sees and changes: its partition's rows; it sees the cells -/
def vw (P q : Int32) (k : Nat) : Prop := k < 32 ∧ nI k - nI k / P * P = q
def ag (P q : Int32) (T H T2 H2 : Fn) : Prop := (∀ k, vw P q k → T k = T2 k ∧ H k = H2 k) ∧ ∀ k, 32 ≤ k → H k = H2 k
def on (P q : Int32) (T H T' H' : Fn) : Prop := ∀ k, ¬ vw P q k → T' k = T k ∧ H' k = H k
theorem fr_vw {mu P q key : Int32} (hm : mu = 0) (h : ¬ fr mu P q key) : vw P q (ix key) := by
  have h1 : ¬ key < 0 := fun g => h (Or.inl g)
  have h3 : key - key / P * P = q := Decidable.byContradiction fun g => h (Or.inr (Or.inr ⟨hm, g⟩))
  refine ⟨(fr_in h).2, ?_⟩
  obtain ⟨j, hj, rfl⟩ := nI_of h1
  rw [ix_nI hj]
  exact h3
theorem ag_upd {P q : Int32} {T H T2 H2 : Fn} {k : Nat} {t v : Int32} (h : ag P q T H T2 H2) : ag P q (upd T k t) (upd H k v) (upd T2 k t) (upd H2 k v) := by
  refine ⟨fun j hj => ?_, fun j hj => ?_⟩
  · by_cases e : j = k
    · simp [upd, e]
    · simp only [upd, e, reduceIte]
      exact h.1 j hj
  · by_cases e : j = k
    · simp [upd, e]
    · simp only [upd, e, reduceIte]
      exact h.2 j hj
theorem on_upd {P q : Int32} {T H : Fn} {k : Nat} {t v : Int32} (h : vw P q k) : on P q T H (upd T k t) (upd H k v) := fun j hj => by
  have : j ≠ k := fun e => hj (e ▸ h)
  simp [upd, this]
theorem on_rf {P q : Int32} {T H : Fn} : on P q T H T H := fun _ _ => ⟨rfl, rfl⟩
theorem on_tr {P q : Int32} {T H T1 H1 T2 H2 : Fn} (h : on P q T H T1 H1) (g : on P q T1 H1 T2 H2) : on P q T H T2 H2 := fun k hk => ⟨(g k hk).1.trans (h k hk).1, (g k hk).2.trans (h k hk).2⟩
set_option maxHeartbeats 4000000 in
theorem stm_loc {mu P q op x y z : Int32} {g T H T2 H2 : Fn} {o : Int32} {w : Fn} (hm : mu = 0) (h9 : ¬ op = 9) (ha : ag P q T H T2 H2) :
    (stm mu P q op x y z g T H o w = none ∧ stm mu P q op x y z g T2 H2 o w = none) ∨ ∃ g' T' H' T2' H2' o' w', stm mu P q op x y z g T H o w = some (g', T', H', o', w') ∧ stm mu P q op x y z g T2 H2 o w = some (g', T2', H2', o', w') ∧ ag P q T' H' T2' H2' ∧ on P q T H T' H' ∧ on P q T2 H2 T2' H2' := by
  unfold stm
  by_cases c0 : op = 0
  · rw [if_pos c0, if_pos c0]
    by_cases f : fr mu P q (g (ix y))
    · rw [if_pos (Or.inl f), if_pos (Or.inl f)]
      exact Or.inl ⟨rfl, rfl⟩
    · have hv := ha.1 _ (fr_vw hm f)
      by_cases d : T (ix (g (ix y))) = 0
      · rw [if_pos (Or.inr d), if_pos (Or.inr (hv.1 ▸ d))]
        exact Or.inl ⟨rfl, rfl⟩
      · rw [if_neg (fun z => z.elim f d), if_neg (fun z => z.elim f (fun z => d (hv.1 ▸ z))), hv.2]
        exact Or.inr ⟨_, _, _, _, _, _, _, rfl, rfl, ha, on_rf, on_rf⟩
  rw [if_neg c0, if_neg c0]
  by_cases c1 : op = 1
  · rw [if_pos c1, if_pos c1]
    by_cases f : fr mu P q (g (ix x))
    · rw [if_pos f, if_pos f]
      exact Or.inl ⟨rfl, rfl⟩
    · rw [if_neg f, if_neg f]
      exact Or.inr ⟨_, _, _, _, _, _, _, rfl, rfl, ag_upd ha, on_upd (fr_vw hm f), on_upd (fr_vw hm f)⟩
  rw [if_neg c1, if_neg c1]
  by_cases c2 : op = 2
  · rw [if_pos c2, if_pos c2]
    by_cases f : fr mu P q (g (ix x))
    · rw [if_pos (Or.inl f), if_pos (Or.inl f)]
      exact Or.inl ⟨rfl, rfl⟩
    · have hv := ha.1 _ (fr_vw hm f)
      by_cases d : ¬ T (ix (g (ix x))) = 0
      · rw [if_pos (Or.inr d), if_pos (Or.inr (hv.1 ▸ d))]
        exact Or.inl ⟨rfl, rfl⟩
      · rw [if_neg (fun z => z.elim f d), if_neg (fun z => z.elim f (fun z => d (hv.1 ▸ z)))]
        exact Or.inr ⟨_, _, _, _, _, _, _, rfl, rfl, ag_upd ha, on_upd (fr_vw hm f), on_upd (fr_vw hm f)⟩
  rw [if_neg c2, if_neg c2]
  by_cases c3 : op = 3
  · rw [if_pos c3, if_pos c3]
    by_cases f : fr mu P q (g (ix x))
    · rw [if_pos (Or.inl f), if_pos (Or.inl f)]
      exact Or.inl ⟨rfl, rfl⟩
    · have hv := ha.1 _ (fr_vw hm f)
      by_cases d : T (ix (g (ix x))) = 0
      · rw [if_pos (Or.inr d), if_pos (Or.inr (hv.1 ▸ d))]
        exact Or.inl ⟨rfl, rfl⟩
      · rw [if_neg (fun z => z.elim f d), if_neg (fun z => z.elim f (fun z => d (hv.1 ▸ z)))]
        exact Or.inr ⟨_, _, _, _, _, _, _, rfl, rfl, ag_upd ha, on_upd (fr_vw hm f), on_upd (fr_vw hm f)⟩
  rw [if_neg c3, if_neg c3]
  by_cases c4 : op = 4
  · rw [if_pos c4, if_pos c4]
    exact Or.inr ⟨_, _, _, _, _, _, _, rfl, rfl, ha, on_rf, on_rf⟩
  rw [if_neg c4, if_neg c4]
  by_cases c5 : op = 5
  · rw [if_pos c5, if_pos c5]
    exact Or.inr ⟨_, _, _, _, _, _, _, rfl, rfl, ha, on_rf, on_rf⟩
  rw [if_neg c5, if_neg c5]
  by_cases c6 : op = 6
  · rw [if_pos c6, if_pos c6]
    by_cases f : g (ix x) < g (ix y)
    · rw [if_pos f, if_pos f]
      exact Or.inl ⟨rfl, rfl⟩
    · rw [if_neg f, if_neg f]
      exact Or.inr ⟨_, _, _, _, _, _, _, rfl, rfl, ha, on_rf, on_rf⟩
  rw [if_neg c6, if_neg c6]
  by_cases c7 : op = 7
  · rw [if_pos c7, if_pos c7]
    exact Or.inr ⟨_, _, _, _, _, _, _, rfl, rfl, ha, on_rf, on_rf⟩
  rw [if_neg c7, if_neg c7]
  by_cases c8 : op = 8
  · rw [if_pos c8, if_pos c8]
    by_cases f : o8 (g (ix y))
    · rw [if_pos f, if_pos f]
      exact Or.inl ⟨rfl, rfl⟩
    · rw [if_neg f, if_neg f, ha.2 (32 + ix (g (ix y))) (Nat.le_add_right _ _)]
      exact Or.inr ⟨_, _, _, _, _, _, _, rfl, rfl, ha, on_rf, on_rf⟩
  rw [if_neg c8, if_neg c8]
  by_cases c9 : op = 9
  · rw [if_pos c9, if_pos c9]
    exact absurd c9 h9
  rw [if_neg c9, if_neg c9]
  by_cases f : o = 4
  · rw [if_pos f, if_pos f]
    exact Or.inl ⟨rfl, rfl⟩
  · rw [if_neg f, if_neg f]
    exact Or.inr ⟨_, _, _, _, _, _, _, rfl, rfl, ha, on_rf, on_rf⟩
theorem rn_loc {mu P q : Int32} {sn : Nat} {so sx sy sz : Fn} (hm : mu = 0) (h9 : ∀ k, k < sn → ¬ so k = 9) : ∀ (f k : Nat) (g T H T2 H2 : Fn) (o : Int32) (w : Fn), ag P q T H T2 H2 →
    ∃ fa T' H' T2' H2' o' w', rn mu P q sn so sx sy sz f k g T H o w = (fa, T', H', o', w') ∧ rn mu P q sn so sx sy sz f k g T2 H2 o w = (fa, T2', H2', o', w') ∧ ag P q T' H' T2' H2' ∧ on P q T H T' H' ∧ on P q T2 H2 T2' H2' := by
  intro f
  induction f with
  | zero => intro k g T H T2 H2 o w ha; exact ⟨_, _, _, _, _, _, _, rfl, rfl, ha, on_rf, on_rf⟩
  | succ f ih =>
    intro k g T H T2 H2 o w ha
    unfold rn
    by_cases hk : sn ≤ k
    · rw [if_pos hk, if_pos hk]
      exact ⟨_, _, _, _, _, _, _, rfl, rfl, ha, on_rf, on_rf⟩
    · rw [if_neg hk, if_neg hk]
      rcases stm_loc (x := sx k) (y := sy k) (z := sz k) (g := g) (o := o) (w := w) hm (h9 k (Nat.not_le.mp hk)) ha with ⟨e1, e2⟩ | ⟨g', T', H', T2', H2', o', w', e1, e2, ha', o1, o2⟩
      · rw [e1, e2]
        exact ⟨_, _, _, _, _, _, _, rfl, rfl, ha, on_rf, on_rf⟩
      · rw [e1, e2]
        obtain ⟨fa, T3, H3, T4, H4, o3, w3, r1, r2, r3, r4, r5⟩ := ih (k + 1 + sk (so k) (sy k) (g' (ix (sx k)))) g' T' H' T2' H2' o' w' ha'
        exact ⟨fa, T3, H3, T4, H4, o3, w3, r1, r2, r3, on_tr o1 r4, on_tr o2 r5⟩
theorem ex_loc {mu P q : Int32} {sn : Nat} {so sx sy sz : Fn} {a b c : Int32} {T H T2 H2 w : Fn} (hm : mu = 0) (h9 : ∀ k, k < sn → ¬ so k = 9) (ha : ag P q T H T2 H2) :
    ∃ fa T' H' T2' H2' o' w', ex mu P q sn so sx sy sz a b c T H w = (fa, T', H', o', w') ∧ ex mu P q sn so sx sy sz a b c T2 H2 w = (fa, T2', H2', o', w') ∧ ag P q T' H' T2' H2' ∧ on P q T H T' H' ∧ on P q T2 H2 T2' H2' := by
  obtain ⟨fa, T', H', T2', H2', o', w', e1, e2, r3, r4, r5⟩ := rn_loc (sx := sx) (sy := sy) (sz := sz) hm h9 9 0 (g0 a b c) T H T2 H2 0 w ha
  unfold ex
  rw [e1, e2]
  dsimp only
  by_cases hf : fa < 0
  · rw [if_pos hf, if_pos hf]
    exact ⟨_, _, _, _, _, _, _, rfl, rfl, r3, r4, r5⟩
  · rw [if_neg hf, if_neg hf]
    exact ⟨_, _, _, _, _, _, _, rfl, rfl, ha, on_rf, on_rf⟩
/-- the outputs that were there before do not matter -/
theorem stm_w {mu P q op x y z : Int32} {g T H : Fn} {o : Int32} {w w2 : Fn} (hw : ∀ i, i < ix o → w i = w2 i) (ho : ∃ j : Nat, j ≤ 4 ∧ o = nI j) :
    (stm mu P q op x y z g T H o w = none ∧ stm mu P q op x y z g T H o w2 = none) ∨ ∃ g' T' H' o' w' w2', stm mu P q op x y z g T H o w = some (g', T', H', o', w') ∧ stm mu P q op x y z g T H o w2 = some (g', T', H', o', w2') ∧ (∀ i, i < ix o' → w' i = w2' i) ∧ ∃ j : Nat, j ≤ 4 ∧ o' = nI j := by
  unfold stm
  by_cases c0 : op = 0
  · rw [if_pos c0, if_pos c0]
    by_cases f : fr mu P q (g (ix y)) ∨ T (ix (g (ix y))) = 0
    · rw [if_pos f, if_pos f]
      exact Or.inl ⟨rfl, rfl⟩
    · rw [if_neg f, if_neg f]
      exact Or.inr ⟨_, _, _, _, _, _, rfl, rfl, hw, ho⟩
  rw [if_neg c0, if_neg c0]
  by_cases c1 : op = 1
  · rw [if_pos c1, if_pos c1]
    by_cases f : fr mu P q (g (ix x))
    · rw [if_pos f, if_pos f]
      exact Or.inl ⟨rfl, rfl⟩
    · rw [if_neg f, if_neg f]
      exact Or.inr ⟨_, _, _, _, _, _, rfl, rfl, hw, ho⟩
  rw [if_neg c1, if_neg c1]
  by_cases c2 : op = 2
  · rw [if_pos c2, if_pos c2]
    by_cases f : fr mu P q (g (ix x)) ∨ ¬ T (ix (g (ix x))) = 0
    · rw [if_pos f, if_pos f]
      exact Or.inl ⟨rfl, rfl⟩
    · rw [if_neg f, if_neg f]
      exact Or.inr ⟨_, _, _, _, _, _, rfl, rfl, hw, ho⟩
  rw [if_neg c2, if_neg c2]
  by_cases c3 : op = 3
  · rw [if_pos c3, if_pos c3]
    by_cases f : fr mu P q (g (ix x)) ∨ T (ix (g (ix x))) = 0
    · rw [if_pos f, if_pos f]
      exact Or.inl ⟨rfl, rfl⟩
    · rw [if_neg f, if_neg f]
      exact Or.inr ⟨_, _, _, _, _, _, rfl, rfl, hw, ho⟩
  rw [if_neg c3, if_neg c3]
  by_cases c4 : op = 4
  · rw [if_pos c4, if_pos c4]
    exact Or.inr ⟨_, _, _, _, _, _, rfl, rfl, hw, ho⟩
  rw [if_neg c4, if_neg c4]
  by_cases c5 : op = 5
  · rw [if_pos c5, if_pos c5]
    exact Or.inr ⟨_, _, _, _, _, _, rfl, rfl, hw, ho⟩
  rw [if_neg c5, if_neg c5]
  by_cases c6 : op = 6
  · rw [if_pos c6, if_pos c6]
    by_cases f : g (ix x) < g (ix y)
    · rw [if_pos f, if_pos f]
      exact Or.inl ⟨rfl, rfl⟩
    · rw [if_neg f, if_neg f]
      exact Or.inr ⟨_, _, _, _, _, _, rfl, rfl, hw, ho⟩
  rw [if_neg c6, if_neg c6]
  by_cases c7 : op = 7
  · rw [if_pos c7, if_pos c7]
    exact Or.inr ⟨_, _, _, _, _, _, rfl, rfl, hw, ho⟩
  rw [if_neg c7, if_neg c7]
  by_cases c8 : op = 8
  · rw [if_pos c8, if_pos c8]
    by_cases f : o8 (g (ix y))
    · rw [if_pos f, if_pos f]
      exact Or.inl ⟨rfl, rfl⟩
    · rw [if_neg f, if_neg f]
      exact Or.inr ⟨_, _, _, _, _, _, rfl, rfl, hw, ho⟩
  rw [if_neg c8, if_neg c8]
  by_cases c9 : op = 9
  · rw [if_pos c9, if_pos c9]
    by_cases f : o8 (g (ix x))
    · rw [if_pos f, if_pos f]
      exact Or.inl ⟨rfl, rfl⟩
    · rw [if_neg f, if_neg f]
      exact Or.inr ⟨_, _, _, _, _, _, rfl, rfl, hw, ho⟩
  rw [if_neg c9, if_neg c9]
  by_cases f : o = 4
  · rw [if_pos f, if_pos f]
    exact Or.inl ⟨rfl, rfl⟩
  · rw [if_neg f, if_neg f]
    obtain ⟨j, hj, rfl⟩ := ho
    have hlt : j < 4 := by
      rcases Nat.lt_or_ge j 4 with g | g
      · exact g
      · exact absurd (by rw [show j = 4 by omega]; rfl) f
    refine Or.inr ⟨_, _, _, _, _, _, rfl, rfl, fun i hi => ?_, j + 1, hlt, nI_1 j⟩
    rw [nI_1, ix_nI (by omega)] at hi
    rw [ix_nI (by omega)]
    rw [ix_nI (by omega)] at hw
    by_cases e : i = j
    · simp [upd, e]
    · simp only [upd, e, reduceIte]
      exact hw i (by omega)
theorem rn_w {mu P q : Int32} {sn : Nat} {so sx sy sz : Fn} : ∀ (f k : Nat) (g T H : Fn) (o : Int32) (w w2 : Fn), (∀ i, i < ix o → w i = w2 i) → (∃ j : Nat, j ≤ 4 ∧ o = nI j) →
    ∃ fa T' H' o' w' w2', rn mu P q sn so sx sy sz f k g T H o w = (fa, T', H', o', w') ∧ rn mu P q sn so sx sy sz f k g T H o w2 = (fa, T', H', o', w2') ∧ (∀ i, i < ix o' → w' i = w2' i) ∧ ∃ j : Nat, j ≤ 4 ∧ o' = nI j := by
  intro f
  induction f with
  | zero => intro k g T H o w w2 hw ho; exact ⟨_, _, _, _, _, _, rfl, rfl, hw, ho⟩
  | succ f ih =>
    intro k g T H o w w2 hw ho
    unfold rn
    by_cases hk : sn ≤ k
    · rw [if_pos hk, if_pos hk]
      exact ⟨_, _, _, _, _, _, rfl, rfl, hw, ho⟩
    · rw [if_neg hk, if_neg hk]
      rcases stm_w (mu := mu) (P := P) (q := q) (op := so k) (x := sx k) (y := sy k) (z := sz k) (g := g) (T := T) (H := H) hw ho with ⟨e1, e2⟩ | ⟨g', T', H', o', w', w2', e1, e2, hw', ho'⟩
      · rw [e1, e2]
        exact ⟨_, _, _, _, _, _, rfl, rfl, hw, ho⟩
      · rw [e1, e2]
        exact ih _ g' T' H' o' w' w2' hw' ho'
theorem ex_w {mu P q : Int32} {sn : Nat} {so sx sy sz : Fn} {a b c : Int32} {T H : Fn} (w w2 : Fn) :
    ∃ fa T' H' o' w' w2', ex mu P q sn so sx sy sz a b c T H w = (fa, T', H', o', w') ∧ ex mu P q sn so sx sy sz a b c T H w2 = (fa, T', H', o', w2') ∧ (∀ i, i < ix o' → w' i = w2' i) ∧ ∃ j : Nat, j ≤ 4 ∧ o' = nI j := by
  obtain ⟨fa, T', H', o', w', w2', e1, e2, r3, r4⟩ := rn_w (mu := mu) (P := P) (q := q) (sn := sn) (so := so) (sx := sx) (sy := sy) (sz := sz) 9 0 (g0 a b c) T H 0 w w2 (fun i hi => absurd hi (by rw [show ix (0 : Int32) = 0 by decide]; omega)) ⟨0, by omega, nI_0.symm⟩
  unfold ex
  rw [e1, e2]
  dsimp only
  by_cases hf : fa < 0
  · rw [if_pos hf, if_pos hf]
    exact ⟨_, _, _, _, _, _, rfl, rfl, r3, r4⟩
  · rw [if_neg hf, if_neg hf]
    exact ⟨_, _, _, _, _, _, rfl, rfl, fun i hi => absurd hi (by rw [show ix (0 : Int32) = 0 by decide]; omega), 0, by omega, nI_0.symm⟩
