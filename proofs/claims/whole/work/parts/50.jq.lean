/-! queues, numbers: what each call keeps -/
theorem mem_nu {c l n : Nat} : n ∈ nu c l ↔ c < n ∧ n ≤ l := by
  unfold nu
  rw [List.mem_range'_1]
  omega
theorem nu_so {c l : Nat} : (nu c l).Pairwise (· < ·) := List.pairwise_lt_range'
theorem nu_nd {c l : Nat} : (nu c l).Nodup := nu_so.imp Nat.ne_of_lt
theorem nu_succ {c l : Nat} (h : c ≤ l) : nu c (l + 1) = nu c l ++ [l + 1] := by
  unfold nu
  rw [show l + 1 - c = l - c + 1 by omega, List.range'_concat]
  congr 2
  omega
/-- the first -/
theorem fi_head {l n : Nat} {p : Nat → Bool} {t : List Nat} (h : (nu 0 l).filter p = n :: t) : 1 ≤ n ∧ n ≤ l ∧ p n = true ∧ ∀ m, 1 ≤ m → m < n → p m = false := by
  have h1 : n ∈ (nu 0 l).filter p := by rw [h]; exact List.mem_cons_self
  obtain ⟨h2, h3⟩ := List.mem_filter.mp h1
  have := mem_nu.mp h2
  refine ⟨by omega, by omega, h3, fun m g1 g2 => ?_⟩
  cases hp : p m with
  | false => rfl
  | true =>
    have : m ∈ (nu 0 l).filter p := List.mem_filter.mpr ⟨mem_nu.mpr ⟨by omega, by omega⟩, hp⟩
    rw [h] at this
    have hs : ((nu 0 l).filter p).Pairwise (· < ·) := nu_so.filter p
    rw [h] at hs
    rcases List.mem_cons.mp this with e | e
    · omega
    · have := (List.pairwise_cons.mp hs).1 m e
      omega
theorem fi_nil {l : Nat} {p : Nat → Bool} (h : (nu 0 l).filter p = []) : ∀ n, 1 ≤ n → n ≤ l → p n = false := fun n h1 h2 => by
  cases hp : p n with
  | false => rfl
  | true =>
    have : n ∈ (nu 0 l).filter p := List.mem_filter.mpr ⟨mem_nu.mpr ⟨by omega, by omega⟩, hp⟩
    rw [h] at this
    exact absurd this List.not_mem_nil
theorem fi_ext {c l : Nat} {p p2 : Nat → Bool} (h : ∀ n, c < n → n ≤ l → p n = p2 n) : (nu c l).filter p = (nu c l).filter p2 := List.filter_congr (fun n hn => h n (mem_nu.mp hn).1 (mem_nu.mp hn).2)
theorem fi_tail {l n : Nat} {p p2 : Nat → Bool} {t : List Nat} (h : (nu 0 l).filter p = n :: t) (h2 : ∀ m, 1 ≤ m → m ≤ l → m ≠ n → p2 m = p m) (hn : p2 n = false) : (nu 0 l).filter p2 = t := by
  have e : (nu 0 l).filter p2 = ((nu 0 l).filter p).filter (fun m => decide (m ≠ n)) := by
    rw [List.filter_filter]
    refine List.filter_congr (fun m hm => ?_)
    have := mem_nu.mp hm
    by_cases e : m = n
    · subst e
      rw [hn]
      simp
    · rw [h2 m (by omega) (by omega) e]
      simp [e]
  rw [e, h, List.filter_cons, if_neg (by simp)]
  refine List.filter_eq_self.mpr (fun m hm => ?_)
  have hs : ((nu 0 l).filter p).Pairwise (· < ·) := nu_so.filter p
  rw [h] at hs
  have := (List.pairwise_cons.mp hs).1 m hm
  simp
  omega
def cmR (cm : Nat → Nat → Bool) (n : Nat) : Nat → Nat → Bool := fun m => if m = n then fun _ => false else cm m
theorem cmR_s {cm : Nat → Nat → Bool} {n : Nat} : cmR cm n n = fun _ => false := by simp [cmR]
theorem cmR_n {cm : Nat → Nat → Bool} {n m : Nat} (h : m ≠ n) : cmR cm n m = cm m := by simp [cmR, h]
section JQS
variable {P l d c u : Nat} {ic ml : Nat → Bool} {hm : Nat → Nat} {dn : Nat → Bool} {cm : Nat → Nat → Bool} {q : Nat → List Nat} {sd mk : Nat → Bool}
theorem JQ_mem (h : JQ P l u ic ml hm dn cm q sd mk) {i n : Nat} (hi : i < P) (hn : n ∈ q i) : 1 ≤ n ∧ n ≤ l := by
  rw [h.1 i hi] at hn
  have := mem_nu.mp (List.mem_filter.mp hn).1
  omega
theorem JQ_len (h : JQ P l u ic ml hm dn cm q sd mk) {i : Nat} (hi : i < P) : (q i).length ≤ l := by
  rw [h.1 i hi]
  refine Nat.le_trans (List.length_filter_le _ _) ?_
  unfold nu
  rw [List.length_range']
  omega
theorem wt_c {i n : Nat} (h : ic n = true) : wt ic ml hm dn cm i n = (!dn n && (ml n || decide (hm n = i))) := by
  unfold wt
  rw [h]
  rfl
theorem wt_m {i n : Nat} (h : ic n = false) : wt ic ml hm dn cm i n = (!dn n && !cm n i) := by
  unfold wt
  rw [h]
  rfl
theorem wt_dn {i n : Nat} (h : wt ic ml hm dn cm i n = true) : dn n = false := by
  unfold wt at h
  cases hd : dn n with
  | false => rfl
  | true => rw [hd] at h; exact absurd h (by simp)
theorem wt_rv {i n : Nat} (h : wt ic ml hm dn cm i n = true) : rv ic ml hm i n = true := by
  unfold wt at h
  unfold rv
  cases hc : ic n with
  | false => rfl
  | true =>
    rw [hc] at h
    simp at h ⊢
    exact h.2
/-- a marker that waits is the one under way -/
theorem JQ_mk (h : JQ P l u ic ml hm dn cm q sd mk) {i n : Nat} (hi : i < P) (h1 : 1 ≤ n) (hn : n ≤ l) (hic : ic n = false) (hw : wt ic ml hm dn cm i n = true) : n = u := by
  refine Decidable.byContradiction fun z => ?_
  rw [wt_m hic] at hw
  rcases h.2.1 n h1 hn hic z with g | g
  · rw [g] at hw
    exact absurd hw (by simp)
  · rw [g i hi] at hw
    exact absurd hw (by simp)
/-- the MULTI command that a site stalls at is its first -/
theorem JQ_st (h : JQ P l u ic ml hm dn cm q sd mk) {i n m : Nat} (hi : i < P) (hn : n ≤ l) (hm1 : ml n = true) (hcm : cm n i = true) (h1 : 1 ≤ m) (hmn : m < n) : wt ic ml hm dn cm i m = false := by
  cases hw : wt ic ml hm dn cm i m with
  | false => rfl
  | true =>
    have := (h.2.2.2.1 i hi m n h1 hmn hn hw (by unfold rv; rw [hm1]; simp)).2
    rw [this] at hcm
    exact absurd hcm (by decide)
theorem wt_ml {i n : Nat} (hic : ic n = true) (hml : ml n = true) (hd : dn n = false) : wt ic ml hm dn cm i n = true := by
  rw [wt_c hic, hd, hml]
  rfl
/-- one MULTI command at most has sites stalled at it: the first of a site that it waits at -/
theorem JQ_un (h : JQ P l u ic ml hm dn cm q sd mk) {i j n m : Nat} (hi : i < P) (hj : j < P) (h1 : 1 ≤ n) (hn : n ≤ l) (hwn : wt ic ml hm dn cm j n = true) (hfi : ∀ m, 1 ≤ m → m < n → wt ic ml hm dn cm i m = false) (m1 : 1 ≤ m) (hml : m ≤ l) (mic : ic m = true) (mml : ml m = true) (mdn : dn m = false) (mcm : cm m j = true) : m = n := by
  rcases Nat.lt_trichotomy m n with g | g | g
  · have := hfi m m1 g
    rw [wt_ml mic mml mdn] at this
    exact absurd this (by decide)
  · exact g
  · have := JQ_st h hj hml mml mcm h1 g
    rw [this] at hwn
    exact absurd hwn (by decide)
/-- a new command -/
theorem JQ_inv {p0 : Bool} {h0 : Nat} (h : JQ P l u ic ml hm dn cm q sd mk) (hu : u ≤ l) : JQ P (l + 1) u (ub ic (l + 1) true) (ub ml (l + 1) p0) (un hm (l + 1) h0) (ub dn (l + 1) false) (cmR cm (l + 1)) (fun j => if p0 = true ∨ j = h0 then q j ++ [l + 1] else q j) sd mk := by
  obtain ⟨a1, a2, a3, a4, a5, a6⟩ := h
  have old : ∀ i n, n ≤ l → wt (ub ic (l + 1) true) (ub ml (l + 1) p0) (un hm (l + 1) h0) (ub dn (l + 1) false) (cmR cm (l + 1)) i n = wt ic ml hm dn cm i n := fun i n hn => by
    unfold wt
    rw [ub_n (by omega), ub_n (by omega), ub_n (by omega), un_n (by omega), cmR_n (by omega)]
  have oldr : ∀ i n, n ≤ l → rv (ub ic (l + 1) true) (ub ml (l + 1) p0) (un hm (l + 1) h0) i n = rv ic ml hm i n := fun i n hn => by
    unfold rv
    rw [ub_n (by omega), ub_n (by omega), un_n (by omega)]
  refine ⟨fun i hi => ?_, fun n h1 hn hic hne => ?_, fun g => ?_, fun i hi m n h1 hmn hn hw hr => ?_, fun i hi => ?_, fun n i hi => ?_⟩
  · rw [nu_succ (Nat.zero_le l), List.filter_append, fi_ext (fun n _ g => old i n g), ← a1 i hi]
    have e : wt (ub ic (l + 1) true) (ub ml (l + 1) p0) (un hm (l + 1) h0) (ub dn (l + 1) false) (cmR cm (l + 1)) i (l + 1) = (p0 || decide (h0 = i)) := by
      rw [wt_c ub_s, ub_s, ub_s, un_s]
      rfl
    rw [List.filter_cons, e, List.filter_nil]
    dsimp only
    by_cases hp : p0 = true
    · simp [hp]
    · by_cases hj : i = h0
      · simp [hp, hj]
      · have : ¬ h0 = i := fun z => hj z.symm
        simp [hp, hj, this]
  · have : n ≠ l + 1 := fun z => by rw [z, ub_s] at hic; exact absurd hic (by decide)
    rw [ub_n this] at hic ⊢
    rw [cmR_n this]
    exact a2 n h1 (by omega) hic hne
  · rw [ub_n (by omega), ub_n (by omega), cmR_n (by omega)]
    exact a3 g
  · by_cases e : n = l + 1
    · subst e
      rw [ub_s, cmR_s]
      exact ⟨rfl, rfl⟩
    · rw [old i m (by omega)] at hw
      rw [oldr i n (by omega)] at hr
      rw [ub_n e, cmR_n e]
      exact a4 i hi m n h1 hmn (by omega) hw hr
  · rw [a5 i hi]
    refine ⟨fun ⟨n, b1, b2, b3, b4, b5, b6⟩ => ⟨n, b1, by omega, by rw [ub_n (by omega)]; exact b3, by rw [ub_n (by omega)]; exact b4, by rw [ub_n (by omega)]; exact b5, by rw [cmR_n (by omega)]; exact b6⟩, fun ⟨n, b1, b2, b3, b4, b5, b6⟩ => ?_⟩
    have : n ≠ l + 1 := fun z => by rw [z, cmR_s] at b6; exact Bool.noConfusion b6
    rw [ub_n this] at b3 b4 b5
    rw [cmR_n this] at b6
    exact ⟨n, b1, by omega, b3, b4, b5, b6⟩
  · by_cases e : n = l + 1
    · subst e
      rw [cmR_s]
    · rw [cmR_n e]
      exact a6 n i hi
/-- a new marker -/
theorem JQ_snap (h : JQ P l 0 ic ml hm dn cm q sd mk) : JQ P (l + 1) (l + 1) (ub ic (l + 1) false) ml hm (ub dn (l + 1) false) (cmR cm (l + 1)) (fun j => q j ++ [l + 1]) sd (fun _ => false) := by
  obtain ⟨a1, a2, a3, a4, a5, a6⟩ := h
  have old : ∀ i n, n ≤ l → wt (ub ic (l + 1) false) ml hm (ub dn (l + 1) false) (cmR cm (l + 1)) i n = wt ic ml hm dn cm i n := fun i n hn => by
    unfold wt
    rw [ub_n (by omega), ub_n (by omega), cmR_n (by omega)]
  have oldr : ∀ i n, n ≤ l → rv (ub ic (l + 1) false) ml hm i n = rv ic ml hm i n := fun i n hn => by
    unfold rv
    rw [ub_n (by omega)]
  refine ⟨fun i hi => ?_, fun n h1 hn hic hne => ?_, fun g => ?_, fun i hi m n h1 hmn hn hw hr => ?_, fun i hi => ?_, fun n i hi => ?_⟩
  · rw [nu_succ (Nat.zero_le l), List.filter_append, fi_ext (fun n _ g => old i n g), ← a1 i hi]
    have e : wt (ub ic (l + 1) false) ml hm (ub dn (l + 1) false) (cmR cm (l + 1)) i (l + 1) = true := by
      rw [wt_m ub_s, ub_s, cmR_s]
      rfl
    rw [List.filter_cons, e, List.filter_nil]
    simp
  · rw [ub_n (by omega)] at hic ⊢
    rw [cmR_n (by omega)]
    exact a2 n h1 (by omega) hic (by omega)
  · rw [ub_s, ub_s, cmR_s]
    exact ⟨rfl, rfl, fun _ _ => rfl⟩
  · by_cases e : n = l + 1
    · subst e
      rw [ub_s, cmR_s]
      exact ⟨rfl, rfl⟩
    · rw [old i m (by omega)] at hw
      rw [oldr i n (by omega)] at hr
      rw [ub_n e, cmR_n e]
      exact a4 i hi m n h1 hmn (by omega) hw hr
  · rw [a5 i hi]
    refine ⟨fun ⟨n, b1, b2, b3, b4, b5, b6⟩ => ⟨n, b1, by omega, by rw [ub_n (by omega)]; exact b3, b4, by rw [ub_n (by omega)]; exact b5, by rw [cmR_n (by omega)]; exact b6⟩, fun ⟨n, b1, b2, b3, b4, b5, b6⟩ => ?_⟩
    have : n ≠ l + 1 := fun z => by rw [z, cmR_s] at b6; exact Bool.noConfusion b6
    rw [ub_n this] at b3 b5
    rw [cmR_n this] at b6
    exact ⟨n, b1, by omega, b3, b4, b5, b6⟩
  · by_cases e : n = l + 1
    · subst e
      rw [cmR_s]
    · rw [cmR_n e]
      exact a6 n i hi
/-- a site stalls -/
theorem JQ_stall {i n : Nat} {t : List Nat} (h : JQ P l u ic ml hm dn cm q sd mk) (hi : i < P) (hq : q i = n :: t) (hic : ic n = true) (hml : ml n = true) : JQ P l u ic ml hm dn (cmS cm n i) q (ub sd i true) mk := by
  have hq' := hq
  rw [h.1 i hi] at hq'
  obtain ⟨n1, nl, nw, nf⟩ := fi_head hq'
  obtain ⟨a1, a2, a3, a4, a5, a6⟩ := h
  have hd := wt_dn nw
  have same : ∀ j m, wt ic ml hm dn (cmS cm n i) j m = wt ic ml hm dn cm j m := fun j m => by
    by_cases e : m = n
    · subst e
      rw [wt_c hic, wt_c hic]
    · unfold wt
      rw [cmS_n e]
  refine ⟨fun j hj => ?_, fun m h1 hm1 mic hne => ?_, fun g => ?_, fun j hj m n' h1 hmn hn hw hr => ?_, fun j hj => ?_, fun m j hj => ?_⟩
  · rw [a1 j hj]
    exact fi_ext (fun m _ _ => (same j m).symm)
  · have : m ≠ n := fun z => by rw [z, hic] at mic; exact absurd mic (by decide)
    rw [cmS_n this]
    exact a2 m h1 hm1 mic hne
  · have : u ≠ n := fun z => by have := (a3 g).1; rw [z, hic] at this; exact absurd this (by decide)
    rw [cmS_n this]
    exact a3 g
  · rw [same] at hw
    obtain ⟨b1, b2⟩ := a4 j hj m n' h1 hmn hn hw hr
    refine ⟨b1, ?_⟩
    by_cases e : n' = n
    · subst e
      rw [cmS_s]
      unfold cset
      by_cases ej : j = i
      · subst ej
        rw [nf m h1 hmn] at hw
        exact absurd hw (by decide)
      · rw [if_neg ej]
        exact b2
    · rw [cmS_n e]
      exact b2
  · by_cases ej : j = i
    · subst ej
      rw [ub_s]
      exact ⟨fun _ => ⟨n, n1, nl, hic, hml, hd, by rw [cmS_s]; unfold cset; rw [if_pos rfl]⟩, fun _ => rfl⟩
    · rw [ub_n ej, a5 j hj]
      have ec : ∀ m, cmS cm n i m j = cm m j := fun m => by
        by_cases e : m = n
        · subst e
          rw [cmS_s]
          unfold cset
          rw [if_neg ej]
        · rw [cmS_n e]
      simp only [ec]
  · by_cases e : m = n
    · subst e
      rw [cmS_s]
      unfold cset
      rw [if_neg (by omega)]
      exact a6 m j hj
    · rw [cmS_n e]
      exact a6 m j hj
/-- all sites stalled: the reference's full -/
theorem JQ_all {i n : Nat} {t : List Nat} (h : JQ P l u ic ml hm dn cm q sd mk) (hi : i < P) (hq : q i = n :: t) (hic : ic n = true) (hml : ml n = true) : (∀ j, j < P → ub sd i true j = true) ↔ ∀ j, j < P → cset (cm n) i j = true := by
  have hq' := hq
  rw [h.1 i hi] at hq'
  obtain ⟨n1, nl, nw, nf⟩ := fi_head hq'
  have hd := wt_dn nw
  refine ⟨fun g j hj => ?_, fun g j hj => ?_⟩
  · unfold cset
    by_cases e : j = i
    · rw [if_pos e]
    · rw [if_neg e]
      have := g j hj
      rw [ub_n e] at this
      obtain ⟨m, b1, b2, b3, b4, b5, b6⟩ := (h.2.2.2.2.1 j hj).mp this
      rw [JQ_un h hi hj n1 nl (wt_ml hic hml hd) nf b1 b2 b3 b4 b5 b6] at b6
      exact b6
  · by_cases e : j = i
    · rw [e, ub_s]
    · rw [ub_n e]
      have := g j hj
      unfold cset at this
      rw [if_neg e] at this
      exact (h.2.2.2.2.1 j hj).mpr ⟨n, n1, nl, hic, hml, hd, this⟩
/-- a MULTI command is done -/
theorem JQ_runM {i n : Nat} {t : List Nat} (h : JQ P l u ic ml hm dn cm q sd mk) (hi : i < P) (hq : q i = n :: t) (hic : ic n = true) (hml : ml n = true) (hal : ∀ j, j < P → cset (cm n) i j = true) : JQ P l u ic ml hm (ub dn n true) (cmS cm n i) (fun j => (q j).tail) (fun _ => false) mk ∧ (∀ j, j < P → ∀ m, 1 ≤ m → m < n → wt ic ml hm dn cm j m = false) := by
  have hq' := hq
  rw [h.1 i hi] at hq'
  obtain ⟨n1, nl, nw, nf⟩ := fi_head hq'
  have hd := wt_dn nw
  have low : ∀ j, j < P → ∀ m, 1 ≤ m → m < n → wt ic ml hm dn cm j m = false := fun j hj m m1 hmn => by
    by_cases e : j = i
    · rw [e]
      exact nf m m1 hmn
    · have := hal j hj
      unfold cset at this
      rw [if_neg e] at this
      exact JQ_st h hj nl hml this m1 hmn
  refine ⟨?_, low⟩
  have no : ∀ j, j < P → ∀ m, 1 ≤ m → m ≤ l → ic m = true → ml m = true → dn m = false → cm m j = true → m = n := fun j hj m b1 b2 b3 b4 b5 b6 => JQ_un h hi hj n1 nl (wt_ml hic hml hd) nf b1 b2 b3 b4 b5 b6
  obtain ⟨a1, a2, a3, a4, a5, a6⟩ := h
  have same : ∀ j m, m ≠ n → wt ic ml hm (ub dn n true) (cmS cm n i) j m = wt ic ml hm dn cm j m := fun j m e => by
    unfold wt
    rw [cmS_n e, ub_n e]
  have hn0 : ∀ j, wt ic ml hm (ub dn n true) (cmS cm n i) j n = false := fun j => by
    rw [wt_c hic, ub_s]
    rfl
  refine ⟨fun j hj => ?_, fun m h1 hm1 mic hne => ?_, fun g => ?_, fun j hj m n' h1 hmn hn hw hr => ?_, fun j hj => ⟨fun z => Bool.noConfusion z, fun ⟨m, b1, b2, b3, b4, b5, b6⟩ => False.elim ?_⟩, fun m j hj => ?_⟩
  · have hw : wt ic ml hm dn cm j n = true := wt_ml hic hml hd
    have hqj := a1 j hj
    cases hc : q j with
    | nil =>
      rw [hc] at hqj
      have := fi_nil hqj.symm n n1 nl
      rw [hw] at this
      exact absurd this (by decide)
    | cons n' t' =>
      rw [hc] at hqj
      obtain ⟨k1, kl, kw, kf⟩ := fi_head hqj.symm
      have : n' = n := by
        rcases Nat.lt_trichotomy n' n with g | g | g
        · rw [low j hj n' k1 g] at kw
          exact absurd kw (by decide)
        · exact g
        · rw [kf n n1 g] at hw
          exact absurd hw (by decide)
      subst this
      show (q j).tail = _
      rw [hc]
      exact (fi_tail hqj.symm (fun m _ _ e => same j m e) (hn0 j)).symm
  · have : m ≠ n := fun z => by rw [z, hic] at mic; exact absurd mic (by decide)
    rw [cmS_n this, ub_n this]
    exact a2 m h1 hm1 mic hne
  · have : u ≠ n := fun z => by have := (a3 g).1; rw [z, hic] at this; exact absurd this (by decide)
    rw [cmS_n this, ub_n this]
    exact a3 g
  · have hmn' : m ≠ n := fun z => by rw [z, hn0] at hw; exact absurd hw (by decide)
    rw [same j m hmn'] at hw
    obtain ⟨b1, b2⟩ := a4 j hj m n' h1 hmn hn hw hr
    have e : n' ≠ n := fun z => by
      subst z
      rw [low j hj m h1 hmn] at hw
      exact absurd hw (by decide)
    rw [ub_n e, cmS_n e]
    exact ⟨b1, b2⟩
  · have e : m ≠ n := fun z => by rw [z, ub_s] at b5; exact absurd b5 (by decide)
    rw [ub_n e] at b5
    rw [cmS_n e] at b6
    exact e (no j hj m b1 b2 b3 b4 b5 b6)
  · by_cases e : m = n
    · subst e
      rw [cmS_s]
      unfold cset
      rw [if_neg (by omega)]
      exact a6 m j hj
    · rw [cmS_n e]
      exact a6 m j hj
/-- at a first that is no MULTI the site doesn't stall -/
theorem JQ_sd {i n : Nat} {t : List Nat} (h : JQ P l u ic ml hm dn cm q sd mk) (hi : i < P) (hq : q i = n :: t) (hn : ¬ (ic n = true ∧ ml n = true)) : sd i = false := by
  have hq' := hq
  rw [h.1 i hi] at hq'
  obtain ⟨n1, nl, nw, nf⟩ := fi_head hq'
  cases hs : sd i with
  | false => rfl
  | true =>
    obtain ⟨m, b1, b2, b3, b4, b5, b6⟩ := (h.2.2.2.2.1 i hi).mp hs
    have e := JQ_un h hi hi n1 nl nw nf b1 b2 b3 b4 b5 b6
    subst e
    exact absurd ⟨b3, b4⟩ hn
/-- a SINGLE command is done -/
theorem JQ_runS {i n : Nat} {t : List Nat} (h : JQ P l u ic ml hm dn cm q sd mk) (hi : i < P) (hq : q i = n :: t) (hic : ic n = true) (hml : ml n = false) : JQ P l u ic ml hm (ub dn n true) (cmS cm n i) (uq q i (q i).tail) (ub sd i false) mk := by
  have hsd := JQ_sd h hi hq (fun z => by rw [hml] at z; exact absurd z.2 (by decide))
  have hq' := hq
  rw [h.1 i hi] at hq'
  obtain ⟨n1, nl, nw, nf⟩ := fi_head hq'
  have hd := wt_dn nw
  have hh : hm n = i := by
    rw [wt_c hic, hml] at nw
    simp at nw
    exact nw.2
  obtain ⟨a1, a2, a3, a4, a5, a6⟩ := h
  have same : ∀ j m, m ≠ n → wt ic ml hm (ub dn n true) (cmS cm n i) j m = wt ic ml hm dn cm j m := fun j m e => by
    unfold wt
    rw [cmS_n e, ub_n e]
  have hn0 : ∀ j, wt ic ml hm (ub dn n true) (cmS cm n i) j n = false := fun j => by
    rw [wt_c hic, ub_s]
    rfl
  refine ⟨fun j hj => ?_, fun m h1 hm1 mic hne => ?_, fun g => ?_, fun j hj m n' h1 hmn hn hw hr => ?_, fun j hj => ?_, fun m j hj => ?_⟩
  · unfold uq
    by_cases e : j = i
    · subst e
      rw [if_pos rfl, hq]
      exact (fi_tail hq' (fun m _ _ e => same j m e) (hn0 j)).symm
    · rw [if_neg e, a1 j hj]
      refine fi_ext (fun m _ _ => ?_)
      by_cases em : m = n
      · subst em
        rw [hn0, wt_c hic, hml]
        have : ¬ hm m = j := fun z => e (z.symm.trans hh)
        simp [this]
      · exact (same j m em).symm
  · have : m ≠ n := fun z => by rw [z, hic] at mic; exact absurd mic (by decide)
    rw [cmS_n this, ub_n this]
    exact a2 m h1 hm1 mic hne
  · have : u ≠ n := fun z => by have := (a3 g).1; rw [z, hic] at this; exact absurd this (by decide)
    rw [cmS_n this, ub_n this]
    exact a3 g
  · have hmn' : m ≠ n := fun z => by rw [z, hn0] at hw; exact absurd hw (by decide)
    rw [same j m hmn'] at hw
    obtain ⟨b1, b2⟩ := a4 j hj m n' h1 hmn hn hw hr
    have e : n' ≠ n := fun z => by
      subst z
      have : j = i := by
        unfold rv at hr
        rw [hic, hml] at hr
        simp at hr
        exact hr.symm.trans hh
      subst this
      rw [nf m h1 hmn] at hw
      exact absurd hw (by decide)
    rw [ub_n e, cmS_n e]
    exact ⟨b1, b2⟩
  · rw [ub_id hsd, a5 j hj]
    refine ⟨fun ⟨m, b1, b2, b3, b4, b5, b6⟩ => ?_, fun ⟨m, b1, b2, b3, b4, b5, b6⟩ => ?_⟩
    · have e : m ≠ n := fun z => by rw [z, hml] at b4; exact absurd b4 (by decide)
      exact ⟨m, b1, b2, b3, b4, by rw [ub_n e]; exact b5, by rw [cmS_n e]; exact b6⟩
    · have e : m ≠ n := fun z => by rw [z, hml] at b4; exact absurd b4 (by decide)
      rw [ub_n e] at b5
      rw [cmS_n e] at b6
      exact ⟨m, b1, b2, b3, b4, b5, b6⟩
  · by_cases e : m = n
    · subst e
      rw [cmS_s]
      unfold cset
      rw [if_neg (by omega)]
      exact a6 m j hj
    · rw [cmS_n e]
      exact a6 m j hj
/-- a site comes to the marker -/
theorem JQ_mark {i : Nat} {t : List Nat} (h : JQ P l u ic ml hm dn cm q sd mk) (hi : i < P) (hq : q i = u :: t) (hic : ic u = false) : JQ P l u ic ml hm dn (cmS cm u i) (uq q i (q i).tail) (ub sd i false) (ub mk i true) := by
  have hsd := JQ_sd h hi hq (fun z => by rw [hic] at z; exact absurd z.1 (by decide))
  have hq' := hq
  rw [h.1 i hi] at hq'
  obtain ⟨n1, nl, nw, nf⟩ := fi_head hq'
  obtain ⟨a1, a2, a3, a4, a5, a6⟩ := h
  have same : ∀ j m, m ≠ u → wt ic ml hm dn (cmS cm u i) j m = wt ic ml hm dn cm j m := fun j m e => by
    unfold wt
    rw [cmS_n e]
  have samej : ∀ j, j ≠ i → wt ic ml hm dn (cmS cm u i) j u = wt ic ml hm dn cm j u := fun j e => by
    rw [wt_m hic, wt_m hic, cmS_s]
    unfold cset
    rw [if_neg e]
  have hn0 : wt ic ml hm dn (cmS cm u i) i u = false := by
    rw [wt_m hic, cmS_s]
    unfold cset
    rw [if_pos rfl]
    simp
  have less : ∀ j m, wt ic ml hm dn (cmS cm u i) j m = true → wt ic ml hm dn cm j m = true := fun j m g => by
    by_cases e : m = u
    · subst e
      by_cases ej : j = i
      · subst ej
        rw [hn0] at g
        exact absurd g (by decide)
      · rw [samej j ej] at g
        exact g
    · rw [same j m e] at g
      exact g
  refine ⟨fun j hj => ?_, fun m h1 hm1 mic hne => ?_, fun g => ?_, fun j hj m n' h1 hmn hn hw hr => ?_, fun j hj => ?_, fun m j hj => ?_⟩
  · unfold uq
    by_cases e : j = i
    · subst e
      rw [if_pos rfl, hq]
      exact (fi_tail hq' (fun m _ _ e => same j m e) hn0).symm
    · rw [if_neg e, a1 j hj]
      refine fi_ext (fun m _ _ => ?_)
      by_cases em : m = u
      · subst em
        exact (samej j e).symm
      · exact (same j m em).symm
  · rw [cmS_n hne]
    exact a2 m h1 hm1 mic hne
  · refine ⟨(a3 g).1, (a3 g).2.1, fun j hj => ?_⟩
    rw [cmS_s]
    unfold cset ub
    rw [(a3 g).2.2 j hj]
  · have hw' := less j m hw
    obtain ⟨b1, b2⟩ := a4 j hj m n' h1 hmn hn hw' hr
    refine ⟨b1, ?_⟩
    by_cases e : n' = u
    · subst e
      rw [cmS_s]
      unfold cset
      by_cases ej : j = i
      · subst ej
        rw [nf m h1 hmn] at hw'
        exact absurd hw' (by decide)
      · rw [if_neg ej]
        exact b2
    · rw [cmS_n e]
      exact b2
  · rw [ub_id hsd, a5 j hj]
    refine ⟨fun ⟨m, b1, b2, b3, b4, b5, b6⟩ => ?_, fun ⟨m, b1, b2, b3, b4, b5, b6⟩ => ?_⟩
    · have e : m ≠ u := fun z => by rw [z, hic] at b3; exact absurd b3 (by decide)
      exact ⟨m, b1, b2, b3, b4, b5, by rw [cmS_n e]; exact b6⟩
    · have e : m ≠ u := fun z => by rw [z, hic] at b3; exact absurd b3 (by decide)
      rw [cmS_n e] at b6
      exact ⟨m, b1, b2, b3, b4, b5, b6⟩
  · by_cases e : m = u
    · subst e
      rw [cmS_s]
      unfold cset
      rw [if_neg (by omega)]
      exact a6 m j hj
    · rw [cmS_n e]
      exact a6 m j hj
/-- the snapshot is complete -/
theorem JQ_done (h : JQ P l u ic ml hm dn cm q sd mk) (hf : ∀ i, i < P → cm u i = true) : JQ P l 0 ic ml hm dn cm q sd mk := by
  obtain ⟨a1, a2, a3, a4, a5, a6⟩ := h
  refine ⟨a1, fun m h1 hm1 mic _ => ?_, fun g => absurd rfl g, a4, a5, a6⟩
  by_cases e : m = u
  · subst e
    exact Or.inr hf
  · exact a2 m h1 hm1 mic e
/-- after a crash -/
theorem JQ_crash (h : JQ P l u ic ml hm dn cm q sd mk) : JQ P d 0 ic ml hm (fun _ => true) cm (fun _ => []) (fun _ => false) mk := by
  have hw : ∀ i n, wt ic ml hm (fun _ => true) cm i n = false := fun i n => by
    unfold wt
    simp
  refine ⟨fun i hi => ?_, fun n _ _ _ _ => Or.inl rfl, fun g => absurd rfl g, fun i hi m n _ _ _ w _ => ?_, fun i hi => ⟨fun z => Bool.noConfusion z, fun ⟨n, _, _, _, _, b5, _⟩ => Bool.noConfusion b5⟩, h.2.2.2.2.2⟩
  · rw [fi_ext (p2 := fun _ => false) (fun n _ _ => hw i n)]
    simp
  · rw [hw] at w
    exact absurd w (by decide)
end JQS
