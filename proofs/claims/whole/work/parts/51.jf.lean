/-! folds: what each call keeps -/
theorem fo_e2 {X X2 : Nat → DB → DB} {p p2 : Nat → Bool} {c : Nat} {s : DB} : ∀ (K : Nat), (∀ j, c < j → j ≤ c + K → p j = p2 j ∧ (p j = true → X j = X2 j)) → fo X p c s K = fo X2 p2 c s K := by
  intro K
  induction K with
  | zero => intro _; rfl
  | succ K ih =>
    intro h
    unfold fo
    obtain ⟨h1, h2⟩ := h (c + K + 1) (by omega) (by omega)
    rw [ih (fun j a b => h j a (by omega)), h1]
    by_cases hp : p2 (c + K + 1) = true
    · rw [if_pos hp, if_pos hp, h2 (h1.trans hp)]
    · rw [if_neg hp, if_neg hp]
theorem fo_none {X : Nat → DB → DB} {p : Nat → Bool} {c k : Nat} {s : DB} : ∀ (m : Nat), (∀ j, c + k < j → j ≤ c + (k + m) → p j = false) → fo X p c s (k + m) = fo X p c s k := by
  intro m
  induction m with
  | zero => intro _; rfl
  | succ m ih =>
    intro h
    show (if p (c + (k + m) + 1) = true then _ else fo X p c s (k + m)) = _
    rw [if_neg (by rw [h _ (by omega) (by omega)]; decide)]
    exact ih (fun j a b => h j a (by omega))
theorem fo_tailv {P q : Int32} {X : Nat → DB → DB} {p : Nat → Bool} {c k : Nat} {s : DB} : ∀ (m : Nat), (∀ j, c + k < j → j ≤ c + (k + m) → p j = true → ∃ q2, sgl P X q2 j ∧ ¬ q2 = q) → agD P q (fo X p c s (k + m)) (fo X p c s k) := by
  intro m
  induction m with
  | zero => intro _; exact ag_rf
  | succ m ih =>
    intro h
    have i := ih (fun j a b => h j a (by omega))
    show agD P q (if p (c + (k + m) + 1) = true then X (c + (k + m) + 1) (fo X p c s (k + m)) else fo X p c s (k + m)) _
    by_cases hp : p (c + (k + m) + 1) = true
    · rw [if_pos hp]
      obtain ⟨q2, h1, h2⟩ := h _ (by omega) (by omega) hp
      exact ag_tr (on_ag (h1.1 _) h2) i
    · rw [if_neg hp]
      exact i
theorem vw_iff {P i k : Nat} (h1 : 1 ≤ P) (h4 : P ≤ 4) (hi : i < P) (hk : k < 32) : vw (nI P) (nI i) k ↔ k % P = i := by
  unfold vw
  rw [pk_rem (by omega) (by omega) (by omega), nI_eq (by have := Nat.mod_lt k (show 0 < P by omega); omega) (by omega)]
  exact ⟨fun h => h.2, fun h => ⟨hk, h⟩⟩
section FOL
variable {P l d c u : Nat} {ic ml : Nat → Bool} {hm : Nat → Nat} {xo : Nat → DB → Oc} {dn : Nat → Bool} {cm : Nat → Nat → Bool} {q : Nat → List Nat} {sd mk : Nat → Bool} {live base mid : DB} {fA oA wA fA' oA' wA' : Fn}
theorem cpl_t {n : Nat} (h : cpl dn ic n = true) : dn n = true ∧ ic n = true := by
  unfold cpl at h
  simp at h
  exact h
theorem cpl_i {n : Nat} (h1 : dn n = true) (h2 : ic n = true) : cpl dn ic n = true := by
  unfold cpl
  rw [h1, h2]
  rfl
/-- a new number -/
theorem JF_new {b : Bool} {xo' : Nat → DB → Oc} (h : JF l c ic dn xo live base fA oA wA) (hc : c ≤ l) (hx : ∀ n, n ≤ l → xo' n = xo n) : JF (l + 1) c (ub ic (l + 1) b) (ub dn (l + 1) false) xo' live base fA oA wA := by
  obtain ⟨h1, h3, h2⟩ := h
  have ecpl : ∀ n, n ≤ l → cpl (ub dn (l + 1) false) (ub ic (l + 1) b) n = cpl dn ic n := fun n hn => by
    unfold cpl
    rw [ub_n (by omega), ub_n (by omega)]
  have el : cpl (ub dn (l + 1) false) (ub ic (l + 1) b) (l + 1) = false := by
    unfold cpl
    rw [ub_s]
    rfl
  have ef : ∀ K, c + K ≤ l → fo (xd xo') (cpl (ub dn (l + 1) false) (ub ic (l + 1) b)) c base K = fo (xd xo) (cpl dn ic) c base K := fun K hK => fo_e2 K (fun j a b => ⟨ecpl j (by omega), fun _ => by funext s; unfold xd; rw [hx j (by omega)]⟩)
  refine ⟨?_, fun n a b g => ?_, fun n a b g1 g2 => ?_⟩
  · rw [show l + 1 - c = l - c + 1 by omega]
    show _ = (if _ then _ else _)
    rw [show c + (l - c) + 1 = l + 1 by omega, el, ef _ (by omega)]
    exact h1
  · rw [ub_n (by omega)] at g ⊢
    exact h3 n a b g
  · have e : n ≠ l + 1 := fun z => by rw [z, ub_s] at g1; exact absurd g1 (by decide)
    rw [ub_n e] at g1 g2
    have := h2 n a (by omega) g1 g2
    unfold ocm at this ⊢
    rw [ef _ (by omega), hx n (by omega)]
    exact this
/-- a command is done -/
theorem JF_run {n : Nat} (hX : JX P l ic ml hm xo) (hO : XO l ic xo) (h : JF l c ic dn xo live base fA oA wA) (hl : l ≤ 1000) (hP4 : P ≤ 4) (hn : c < n) (hnl : n ≤ l) (hic : ic n = true) (hdn : dn n = false) (hH : ∀ j, n < j → j ≤ l → dn j = true → ic j = true → ml n = false ∧ ml j = false ∧ hm j ≠ hm n)
    (h20 : fA' = upd fA n (xo n live).1) (h21 : oA' = upd oA n (xo n live).2.2.2.1) (h22 : ∀ k, k < ix (xo n live).2.2.2.1 → wA' (4 * n + k) = (xo n live).2.2.2.2 k) (h22' : ∀ j, ¬ (4 * n ≤ j ∧ j < 4 * n + 4) → wA' j = wA j) : JF l c ic (ub dn n true) xo (xd xo n live) base fA' oA' wA' := by
  obtain ⟨h1, h3, h2⟩ := h
  have hsn := hX n (by omega) hnl hic
  have pn : cpl dn ic (c + (n - 1 - c) + 1) = false := by
    rw [show c + (n - 1 - c) + 1 = n by omega]
    unfold cpl
    rw [hdn]
    rfl
  have pn2 : cpl (ub dn n true) ic (c + (n - 1 - c) + 1) = true := by
    rw [show c + (n - 1 - c) + 1 = n by omega]
    exact cpl_i ub_s hic
  have pe : ∀ j, j ≠ n → cpl (ub dn n true) ic j = cpl dn ic j := fun j hj => by
    unfold cpl
    rw [ub_n hj]
  have ins : ∀ K, n ≤ c + K → c + K ≤ l → fo (xd xo) (cpl (ub dn n true) ic) c base K = xd xo n (fo (xd xo) (cpl dn ic) c base K) := fun K k1 k2 => by
    have := fo_ins (X := xd xo) (c := c) (i := n - 1 - c) (s := base) pn pn2 K (by omega) (fun j a b e => pe j (by omega)) (fun j a b g s => ?_)
    · rw [show c + (n - 1 - c) + 1 = n by omega] at this
      exact this
    · obtain ⟨g1, g2⟩ := cpl_t g
      obtain ⟨m1, m2, m3⟩ := hH j (by omega) (by omega) g1 g2
      rw [show c + (n - 1 - c) + 1 = n by omega]
      have a1 := (hsn.2 m1).1
      have hj := hX j (by omega) (by omega) g2
      have a2 := (hj.2 m2).1
      exact sgl_comm a1 a2 (fun z => m3 ((nI_eq (by omega) (by omega)).mp z).symm) s
  have low : ∀ K, c + K < n → fo (xd xo) (cpl (ub dn n true) ic) c base K = fo (xd xo) (cpl dn ic) c base K := fun K hK => fo_ext K (fun j a b => pe j (by omega))
  refine ⟨?_, fun m a b g => ?_, fun j a b g1 g2 => ?_⟩
  · rw [ins (l - c) (by omega) (by omega), ← h1]
  · by_cases e : m = n
    · rw [e, ub_s]
    · rw [ub_n e]
      exact h3 m a b g
  · by_cases e : j = n
    · subst e
      have e0 : (xo j live).1 = (xo j (fo (xd xo) (cpl dn ic) c base (j - 1 - c))).1 ∧ (xo j live).2.2.2 = (xo j (fo (xd xo) (cpl dn ic) c base (j - 1 - c))).2.2.2 := by
        by_cases hml : ml j = true
        · have : live = fo (xd xo) (cpl dn ic) c base (j - 1 - c) := by
            rw [h1, show l - c = (j - 1 - c) + (l - (j - 1)) by omega]
            refine fo_none _ (fun k k1 k2 => ?_)
            cases hk : cpl dn ic k with
            | false => rfl
            | true =>
              obtain ⟨x1, x2⟩ := cpl_t hk
              by_cases ek : k = j
              · rw [ek, hdn] at x1
                exact absurd x1 (by decide)
              · have := (hH k (by omega) (by omega) x1 x2).1
                rw [hml] at this
                exact absurd this (by decide)
          rw [← this]
          exact ⟨rfl, rfl⟩
        · have hml : ml j = false := by
            cases h : ml j with
            | false => rfl
            | true => exact absurd h hml
          have ha : agD (nI P) (nI (hm j)) live (fo (xd xo) (cpl dn ic) c base (j - 1 - c)) := by
            rw [h1, show l - c = (j - 1 - c) + (l - (j - 1)) by omega]
            refine fo_tailv _ (fun k k1 k2 hk => ?_)
            obtain ⟨x1, x2⟩ := cpl_t hk
            by_cases ek : k = j
            · rw [ek, hdn] at x1
              exact absurd x1 (by decide)
            · obtain ⟨m1, m2, m3⟩ := hH k (by omega) (by omega) x1 x2
              have hj := hX k (by omega) (by omega) x2
              exact ⟨_, (hj.2 m2).1, fun z => m3 ((nI_eq (by omega) (by omega)).mp z)⟩
          exact (hsn.2 hml).2 _ _ ha
      refine ⟨?_, ?_, fun k hk => ?_⟩
      · rw [low _ (by omega), h20, upd_s, e0.1]
      · rw [low _ (by omega), h21, upd_s, e0.2]
      · rw [h21, upd_s] at hk
        rw [low _ (by omega), h22 k hk, e0.2]
    · rw [ub_n e] at g1
      obtain ⟨o1, o2, o3⟩ := h2 j a b g1 g2
      have hxx : (xo j (fo (xd xo) (cpl (ub dn n true) ic) c base (j - 1 - c))).1 = (xo j (fo (xd xo) (cpl dn ic) c base (j - 1 - c))).1 ∧ (xo j (fo (xd xo) (cpl (ub dn n true) ic) c base (j - 1 - c))).2.2.2 = (xo j (fo (xd xo) (cpl dn ic) c base (j - 1 - c))).2.2.2 := by
        by_cases hjn : j < n
        · rw [low _ (by omega)]
          exact ⟨rfl, rfl⟩
        · rw [ins _ (by omega) (by omega)]
          obtain ⟨m1, m2, m3⟩ := hH j (by omega) b g1 g2
          have hj := hX j (by omega) b g2
          exact (hj.2 m2).2 _ _ (on_ag ((hsn.2 m1).1.1 _) (fun z => m3 ((nI_eq (by omega) (by omega)).mp z).symm))
      have h4 : ∀ k, k < ix (oA j) → k < 4 := fun k hk => by
        obtain ⟨t, ht, et⟩ := hO j (by omega) b g2 (fo (xd xo) (cpl dn ic) c base (j - 1 - c))
        rw [o2, et, ix_nI (by omega)] at hk
        omega
      refine ⟨?_, ?_, fun k hk => ?_⟩
      · rw [hxx.1, h20, upd_n e]
        exact o1
      · rw [hxx.2, h21, upd_n e]
        exact o2
      · rw [h21, upd_n e] at hk
        have := h4 k hk
        rw [hxx.2, h22' _ (by omega)]
        exact o3 k hk
/-- what stands behind a first of its site -/
theorem hH_S {i n : Nat} (hX : JX P l ic ml hm xo) (h : JQ P l u ic ml hm dn cm q sd mk) (hi : i < P) (h1 : 1 ≤ n) (hw : wt ic ml hm dn cm i n = true) (hic : ic n = true) : ∀ j, n < j → j ≤ l → dn j = true → ic j = true → ml n = false ∧ ml j = false ∧ hm j ≠ hm n := fun j hj hjl hd hc => by
  have hjP := (hX j (by omega) hjl hc).1
  cases hml : ml n with
  | true =>
    have := (h.2.2.2.1 (hm j) hjP n j h1 hj hjl (wt_ml hic hml (wt_dn hw)) (by unfold rv; simp)).1
    rw [hd] at this
    exact absurd this (by decide)
  | false =>
    have hh : hm n = i := by
      rw [wt_c hic, hml] at hw
      simp at hw
      exact hw.2
    have hr : ¬ rv ic ml hm i j = true := fun z => by
      have := (h.2.2.2.1 i hi n j h1 hj hjl hw z).1
      rw [hd] at this
      exact absurd this (by decide)
    unfold rv at hr
    simp at hr
    exact ⟨rfl, hr.1.2, fun z => hr.2 (z.trans hh)⟩
/-- below a first of its site: all that the site must do is done -/
theorem below {i n : Nat} (h : JQ P l u ic ml hm dn cm q sd mk) (hnl : n ≤ l) (hf : ∀ m, 1 ≤ m → m < n → wt ic ml hm dn cm i m = false) {m : Nat} (h1 : 1 ≤ m) (hmn : m < n) (hic : ic m = true) (hr : ml m = true ∨ hm m = i) : dn m = true := by
  have := hf m h1 hmn
  rw [wt_c hic] at this
  cases hd : dn m with
  | true => rfl
  | false =>
    rw [hd] at this
    rcases hr with hr | hr <;> simp [hr] at this
theorem JM_mark {i : Nat} {t : List Nat} (hP4 : 1 ≤ P ∧ P ≤ 4) (hX : JX P l ic ml hm xo) (hJ : JQ P l u ic ml hm dn cm q sd mk) (hF : JF l c ic dn xo live base fA oA wA) (hM : JM P c u ic xo cm base mid) (hl : l ≤ 1000) (hcu : c < u) (hul : u ≤ l) (hi : i < P) (hq : q i = u :: t) (hic : ic u = false) : JM P c u ic xo (cmS cm u i) base (midp P i live mid) := by
  have hq' := hq
  rw [hJ.1 i hi] at hq'
  obtain ⟨n1, nl, nw, nf⟩ := fi_head hq'
  have e1 : agD (nI P) (nI i) live (fo (xd xo) (cpl dn ic) c base (u - 1 - c)) := by
    rw [hF.1, show l - c = (u - 1 - c) + (l - (u - 1)) by omega]
    refine fo_tailv _ (fun k k1 k2 hk => ?_)
    obtain ⟨x1, x2⟩ := cpl_t hk
    have hku : k ≠ u := fun z => by rw [z, hic] at x2; exact absurd x2 (by decide)
    have hr : ¬ rv ic ml hm i k = true := fun z => by
      have := (hJ.2.2.2.1 i hi u k n1 (by omega) (by omega) nw z).1
      rw [x1] at this
      exact absurd this (by decide)
    unfold rv at hr
    simp at hr
    have hk' := hX k (by omega) (by omega) x2
    exact ⟨_, (hk'.2 hr.1.2).1, fun z => hr.2 ((nI_eq (by omega) (by omega)).mp z)⟩
  have e2 : agD (nI P) (nI i) (fo (xd xo) (cpl dn ic) c base (u - 1 - c)) (fo (xd xo) ic c base (u - 1 - c)) := by
    have dn_c : ∀ j, 1 ≤ j → j < u → (ml j = true ∨ hm j = i) → cpl dn ic j = ic j := fun j a b g => by
      unfold cpl
      cases hc : ic j with
      | false => simp
      | true => rw [below hJ hul nf a b hc g]; rfl
    refine (fo_view (P := nI P) (q := nI i) (X := xd xo) (vq := fun j => nI (hm j)) (mul := fun j => ic j = true ∧ ml j = true) (u - 1 - c) (fun j a b g z => ?_) (fun j a b g => dn_c j (by omega) (by omega) (Or.inl g.2)) (fun j a b g z => ?_) (fun j m a b b2 g z => ?_) (u - 1 - c) (Nat.le_refl _)).1
    · have hc : ic j = true := g.elim (fun y => (cpl_t y).2) id
      have hml : ml j = false := by
        cases h : ml j with
        | false => rfl
        | true => exact absurd ⟨hc, h⟩ z
      exact ((hX j (by omega) (by omega) hc).2 hml).1
    · cases hc : ic j with
      | false => unfold cpl; rw [hc]; simp
      | true =>
        have := (hX j (by omega) (by omega) hc).1
        rw [← hc]
        exact dn_c j (by omega) (by omega) (Or.inr ((nI_eq (by omega) (by omega)).mp z))
    · cases hc : ic j with
      | false => unfold cpl; rw [hc]; simp
      | true =>
        unfold cpl
        rw [hc]
        cases hd : dn j with
        | true => rfl
        | false =>
          have hjP := (hX j (by omega) (by omega) hc).1
          have := (hJ.2.2.2.1 (hm j) hjP j m (by omega) b (by omega) (by rw [wt_c hc, hd]; simp) (by unfold rv; rw [g.2]; simp)).1
          rw [(cpl_t z).1] at this
          exact absurd this (by decide)
  have e := ag_tr e1 e2
  intro hu0 i' hi' hc'
  unfold JM at hM
  generalize fo (xd xo) ic c base (u - 1 - c) = B at e hM ⊢
  rw [cmS_s] at hc'
  unfold cset at hc'
  refine ⟨fun k hk => ?_, fun k hk => ?_⟩
  · have hk32 := hk.1
    have hkm := (vw_iff hP4.1 hP4.2 hi' hk32).mp hk
    have m1 : (midp P i live mid).1 k = if k < 32 ∧ k % P = i then live.1 k else mid.1 k := rfl
    have m2 : (midp P i live mid).2 k = if 32 ≤ k then live.2 k else if k < 32 ∧ k % P = i then live.2 k else mid.2 k := rfl
    rw [m1, m2, if_neg (show ¬ 32 ≤ k by omega)]
    by_cases ei : i' = i
    · have hc : k < 32 ∧ k % P = i := ⟨hk32, hkm.trans ei⟩
      rw [if_pos hc, if_pos hc]
      rw [ei] at hk
      exact e.1 k hk
    · have hc : ¬ (k < 32 ∧ k % P = i) := fun z => ei (hkm.symm.trans z.2)
      rw [if_neg hc, if_neg hc]
      rw [if_neg ei] at hc'
      exact (hM hu0 i' hi' hc').1 k hk
  · have m2 : (midp P i live mid).2 k = if 32 ≤ k then live.2 k else if k < 32 ∧ k % P = i then live.2 k else mid.2 k := rfl
    rw [m2, if_pos hk]
    exact e.2 k hk
/-- what the tables hold when the snapshot is complete -/
theorem JM_sim (hP4 : 1 ≤ P ∧ P ≤ 4) (hM : JM P c u ic xo cm base mid) (hu : u ≠ 0) (hf : ∀ i, i < P → cm u i = true) : (∀ k, k < 32 → vv mid k = vv (fo (xd xo) ic c base (u - 1 - c)) k) ∧ ∀ k, k < 8 → mid.2 (32 + k) = (fo (xd xo) ic c base (u - 1 - c)).2 (32 + k) := by
  refine ⟨fun k hk => ?_, fun k hk => ?_⟩
  · have hi := Nat.mod_lt k (show 0 < P by omega)
    have := (hM hu (k % P) hi (hf _ hi)).1 k ((vw_iff hP4.1 hP4.2 hi hk).mpr rfl)
    exact vv_eq this.1 this.2
  · exact (hM hu 0 (by omega) (hf 0 (by omega))).2 (32 + k) (by omega)
/-- all sites at the marker: all below it is done -/
theorem belowU (hX : JX P l ic ml hm xo) (hJ : JQ P l u ic ml hm dn cm q sd mk) (hul : u ≤ l) (hic : ic u = false) (hf : ∀ i, i < P → cm u i = true) {m : Nat} (h1 : 1 ≤ m) (hmu : m < u) (hc : ic m = true) : dn m = true := by
  cases hd : dn m with
  | true => rfl
  | false =>
    have hP := (hX m h1 (by omega) hc).1
    have := (hJ.2.2.2.1 (hm m) hP m u h1 hmu hul (by rw [wt_c hc, hd]; simp) (by unfold rv; rw [hic]; rfl)).2
    rw [hf _ hP] at this
    exact absurd this (by decide)
theorem JF_done (hX : JX P l ic ml hm xo) (hJ : JQ P l u ic ml hm dn cm q sd mk) (hF : JF l c ic dn xo live base fA oA wA) (hcu : c < u) (hul : u ≤ l) (hic : ic u = false) (hf : ∀ i, i < P → cm u i = true) {base' : DB} (hb : base' = fo (xd xo) ic c base (u - 1 - c))
    (ho : ∀ n, u < n → n ≤ l → cpl dn ic n = true → ocm xo n (fo (xd xo) (cpl dn ic) u base' (n - 1 - u)) fA' oA' wA') : JF l u ic dn xo live base' fA' oA' wA' ∧ (∀ n, u < n → n ≤ l → fo (xd xo) (cpl dn ic) u base' (n - 1 - u) = fo (xd xo) (cpl dn ic) c base (n - 1 - c)) ∧ ∀ n, c < n → n < u → fo (xd xo) ic c base (n - 1 - c) = fo (xd xo) (cpl dn ic) c base (n - 1 - c) := by
  have low : ∀ K, c + K < u → fo (xd xo) ic c base K = fo (xd xo) (cpl dn ic) c base K := fun K hK => fo_ext K (fun j a b => by
    unfold cpl
    cases hc : ic j with
    | false => simp
    | true => rw [belowU hX hJ hul hic hf (by omega) (by omega) hc]; rfl)
  have eb : fo (xd xo) (cpl dn ic) c base (u - c) = base' := by
    rw [show u - c = (u - 1 - c) + 1 by omega, fo_none 1 (fun j a b => ?_), hb, low _ (by omega)]
    unfold cpl
    rw [show j = u by omega, hic]
    simp
  have spl : ∀ K, fo (xd xo) (cpl dn ic) u base' K = fo (xd xo) (cpl dn ic) c base (u - c + K) := fun K => by
    rw [fo_add, eb, show c + (u - c) = u by omega]
  refine ⟨⟨?_, fun n a b g => ?_, fun n a b g1 g2 => ho n a b (cpl_i g1 g2)⟩, fun n a b => ?_, fun n a b => low _ (by omega)⟩
  · rw [spl, show u - c + (l - u) = l - c by omega]
    exact hF.1
  · by_cases e : n = u
    · rw [e, hic] at g
      exact absurd g (by decide)
    · exact belowU hX hJ hul hic hf a (by omega) g
  · rw [spl, show u - c + (n - 1 - u) = n - 1 - c by omega]
theorem fl_fo {m : Nat} : c ≤ m → fl xo base ((nu c m).filter ic) = fo (xd xo) ic c base (m - c) := by
  intro h
  obtain ⟨k, rfl⟩ : ∃ k, m = c + k := ⟨m - c, by omega⟩
  clear h
  induction k with
  | zero =>
    rw [show c + 0 - c = 0 by omega]
    unfold nu
    rw [show c + 0 - c = 0 by omega]
    rfl
  | succ k ih =>
    rw [show c + (k + 1) = c + k + 1 by omega, nu_succ (by omega), List.filter_append, show c + k + 1 - c = (c + k - c) + 1 by omega]
    unfold fl at ih ⊢
    rw [List.foldl_append, ih]
    show _ = (if ic (c + (c + k - c) + 1) = true then _ else _)
    rw [show c + (c + k - c) + 1 = c + k + 1 by omega, List.filter_cons, List.filter_nil]
    by_cases hc : ic (c + k + 1) = true
    · rw [if_pos hc, if_pos hc]
      rfl
    · rw [if_neg hc, if_neg hc]
      rfl
theorem nu_split (h1 : c ≤ u) (h2 : u ≤ l) : nu c l = nu c u ++ nu u l := by
  unfold nu
  rw [show u + 1 = c + 1 + 1 * (u - c) by omega, List.range'_append, show u - c + (l - u) = l - c by omega]
theorem fi_le (h1 : c ≤ d) (h2 : d ≤ l) : ((nu c l).filter ic).filter (fun m => decide (m ≤ d)) = (nu c d).filter ic := by
  rw [nu_split h1 h2, List.filter_append, List.filter_append]
  have a1 : ((nu c d).filter ic).filter (fun m => decide (m ≤ d)) = (nu c d).filter ic := List.filter_eq_self.mpr (fun m hm => by
    have := mem_nu.mp (List.mem_filter.mp hm).1
    simp
    omega)
  have a2 : ((nu d l).filter ic).filter (fun m => decide (m ≤ d)) = [] := List.filter_eq_nil_iff.mpr (fun m hm => by
    have := mem_nu.mp (List.mem_filter.mp hm).1
    simp
    omega)
  rw [a1, a2, List.append_nil]
theorem fi_drop (h1 : c ≤ u) (h2 : u ≤ l) : ((nu c l).filter ic).dropWhile (fun m => decide (m ≤ u)) = (nu u l).filter ic := by
  rw [nu_split h1 h2, List.filter_append, List.dropWhile_append_of_pos (fun m hm => ?_)]
  · have : ∀ m, m ∈ (nu u l).filter ic → u < m := fun m hm => (mem_nu.mp (List.mem_filter.mp hm).1).1
    generalize (nu u l).filter ic = L at this
    cases L with
    | nil => rfl
    | cons a t =>
      rw [List.dropWhile_cons, if_neg]
      have := this a List.mem_cons_self
      simp
      omega
  · have := mem_nu.mp (List.mem_filter.mp hm).1
    simp
    omega
end FOL
