/-! clients: what each call keeps -/
section CLI
variable {P l d d' c u : Nat} {ic ml : Nat → Bool} {dn : Nat → Bool} {cl : Nat → Nat} {cs : Fn} {cn : Nat → Nat} {cd cc : Nat → Bool} {cf : Fn} {co : Nat → Nat} {cw : Nat → Fn} {fA oA wA fA' oA' wA' : Fn} {A A3 A' : RA}
theorem stl_1 {c : Nat} (h : stl d cs cn cd cc c = 1) : cs c = 1 ∧ ¬ (cd c = true ∧ cn c ≤ d) := by
  unfold stl at h
  by_cases g : cs c = 1 ∧ cd c = true ∧ cn c ≤ d
  · rw [if_pos g] at h
    by_cases e : cc c = true
    · rw [if_pos e] at h; exact absurd h (by decide)
    · rw [if_neg e] at h; exact absurd h (by decide)
  · rw [if_neg g] at h
    exact ⟨h, fun z => g ⟨h, z⟩⟩
theorem RK_tell (hK : RK cs cn cf co cw A3) (hlink : ∀ c, c < 4 → cs c = 1 → cd c = dn (cn c) ∧ (cd c = true → (cc c = true ↔ A3 20 (cn c) < 0) ∧ (cc c = false → cf c = A3 20 (cn c)) ∧ co c ≤ 4 ∧ A3 21 (cn c) = nI (co c) ∧ ∀ k, k < co c → cw c k = A3 22 (4 * cn c + k))) (hTC : ∀ c, c < 4 → TC d dn cn A3 A' c) (h28 : A' 28 = A3 28) : RK (stl d cs cn cd cc) cn cf co cw A' := by
  intro c hc
  obtain ⟨r1, r2, r3, r4, r5⟩ := hK c hc
  obtain ⟨t1, t2⟩ := hTC c hc
  rw [h28]
  by_cases g : cs c = 1 ∧ cd c = true ∧ cn c ≤ d
  · obtain ⟨l1, l2⟩ := hlink c hc g.1
    obtain ⟨m1, m2, m3, m4, m5⟩ := l2 g.2.1
    obtain ⟨s1, s2, s3, s4⟩ := t1 ⟨by rw [r1]; exact g.1, by rw [← l1]; exact g.2.1, g.2.2⟩
    have e : stl d cs cn cd cc c = if cc c = true then 2 else 3 := if_pos g
    refine ⟨?_, r2, r3, fun z => ⟨s3.trans m4, m3, fun k hk => (s4 k (by omega)).trans (m5 k hk).symm⟩, fun z => ?_⟩
    · rw [s1, e]
      by_cases hcc : cc c = true
      · rw [if_pos hcc, if_pos (m1.mp hcc)]
      · rw [if_neg hcc, if_neg (fun y => hcc (m1.mpr y))]
    · rw [e] at z
      have hcc : cc c = false := by
        cases h : cc c with
        | false => rfl
        | true => rw [h] at z; exact absurd z (by decide)
      rw [s2, m2 hcc]
  · have e : stl d cs cn cd cc c = cs c := if_neg g
    rw [e]
    obtain ⟨s1, s2, s3, s4⟩ := t2 (fun z => by
      have z1 : cs c = 1 := by rw [← r1]; exact z.1
      exact g ⟨z1, by rw [(hlink c hc z1).1]; exact z.2.1, z.2.2⟩)
    refine ⟨s1.trans r1, r2, r3, fun z => ?_, fun z => s2.trans (r5 z)⟩
    obtain ⟨m1, m2, m3⟩ := r4 z
    exact ⟨s3.trans m1, m2, fun k hk => (s4 k (by omega)).trans (m3 k hk)⟩
theorem JK_stl (hJ : JK l d ic dn cl cs cn cd cc cf co cw fA oA wA) (heq : ∀ c, c < 4 → cs c = 1 → cd c = true → fA' (cn c) = fA (cn c) ∧ oA' (cn c) = oA (cn c) ∧ ∀ k, k < co c → wA' (4 * cn c + k) = wA (4 * cn c + k)) : JK l d' ic dn cl (stl d' cs cn cd cc) cn cd cc cf co cw fA' oA' wA' := by
  refine ⟨fun c hc h => ?_, fun n h1 h2 h3 h4 => ?_⟩
  · obtain ⟨g1, g2⟩ := stl_1 h
    obtain ⟨b1, b2, b3, b4, b5, b6, b7⟩ := hJ.1 c hc g1
    refine ⟨b1, b2, b3, b4, b5, g2, fun z => ?_⟩
    obtain ⟨e1, e2, e3⟩ := heq c hc g1 z
    obtain ⟨m1, m2, m3, m4, m5⟩ := b7 z
    rw [e1, e2]
    exact ⟨m1, m2, m3, m4, fun k hk => (m5 k hk).trans (e3 k hk).symm⟩
  · obtain ⟨a1, a2, a3⟩ := hJ.2 n h1 h2 h3 h4
    refine ⟨a1, ?_, a3⟩
    have := (hJ.1 _ a1 a2).2.2.2.2.1
    unfold stl
    rw [if_neg (fun z => by rw [z.2.1, a3, h4] at this; exact absurd this (by decide))]
    exact a2
theorem JK_new {i : Nat} (hi : i < 4) (hJ : JK l d ic dn cl cs cn cd cc cf co cw fA oA wA) (hd : d ≤ l) (hcs : ¬ cs i = 1) : JK (l + 1) d (ub ic (l + 1) true) (ub dn (l + 1) false) (un cl (l + 1) i) (upd cs i 1) (un cn i (l + 1)) (ub cd i false) cc cf co cw fA oA wA := by
  refine ⟨fun c hc h => ?_, fun n h1 h2 h3 h4 => ?_⟩
  · by_cases e : c = i
    · subst e
      rw [un_s, ub_s, ub_s, ub_s, un_s]
      exact ⟨by omega, by omega, rfl, rfl, rfl, fun z => absurd z.1 (by decide), fun z => absurd z (by decide)⟩
    · rw [upd_n e] at h
      obtain ⟨b1, b2, b3, b4, b5, b6, b7⟩ := hJ.1 c hc h
      rw [un_n e, ub_n (show cn c ≠ l + 1 by omega), ub_n e, un_n (show cn c ≠ l + 1 by omega), ub_n (show cn c ≠ l + 1 by omega)]
      exact ⟨b1, by omega, b3, b4, b5, b6, b7⟩
  · by_cases e : n = l + 1
    · subst e
      rw [un_s, upd_s, un_s]
      exact ⟨hi, rfl, rfl⟩
    · rw [ub_n e] at h3 h4
      obtain ⟨a1, a2, a3⟩ := hJ.2 n h1 (by omega) h3 h4
      rw [un_n e]
      have : cl n ≠ i := fun z => hcs (by rw [← z]; exact a2)
      rw [upd_n this, un_n this]
      exact ⟨a1, a2, a3⟩
theorem JK_snap (hJ : JK l d ic dn cl cs cn cd cc cf co cw fA oA wA) : JK (l + 1) d (ub ic (l + 1) false) (ub dn (l + 1) false) cl cs cn cd cc cf co cw fA oA wA := by
  refine ⟨fun c hc h => ?_, fun n h1 h2 h3 h4 => ?_⟩
  · obtain ⟨b1, b2, b3, b4, b5, b6, b7⟩ := hJ.1 c hc h
    rw [ub_n (by omega), ub_n (by omega)]
    exact ⟨b1, by omega, b3, b4, b5, b6, b7⟩
  · have e : n ≠ l + 1 := fun z => by rw [z, ub_s] at h3; exact absurd h3 (by decide)
    rw [ub_n e] at h3 h4
    exact hJ.2 n h1 (by omega) h3 h4
theorem JK_run {n j : Nat} {o : Oc} {w' : Fn} {fl' : Int32} (hJ : JK l d ic dn cl cs cn cd cc cf co cw fA oA wA) (h1 : 1 ≤ n) (hn : n ≤ l) (hic : ic n = true) (hdn : dn n = false) (hj : j ≤ 4) (ho : o.2.2.2.1 = nI j) (hw : ∀ k, k < j → w' k = o.2.2.2.2 k) (hfl : ¬ o.1 < 0 → fl' = o.1) (h20 : fA' = upd fA n o.1) (h21 : oA' = upd oA n o.2.2.2.1) (h22 : ∀ k, k < ix o.2.2.2.1 → wA' (4 * n + k) = o.2.2.2.2 k) (h22' : ∀ j, ¬ (4 * n ≤ j ∧ j < 4 * n + 4) → wA' j = wA j) :
    JK l d ic (ub dn n true) cl (upd cs (cl n) (if cs (cl n) = 1 ∧ cn (cl n) ≤ d then (if o.1 < 0 then 2 else 3) else cs (cl n))) cn (ub cd (cl n) true) (ub cc (cl n) (decide (o.1 < 0))) (upd cf (cl n) fl') (un co (cl n) j) (fun c => if c = cl n then w' else cw c) fA' oA' wA' := by
  obtain ⟨a1, a2, a3⟩ := hJ.2 n h1 hn hic hdn
  refine ⟨fun c hc h => ?_, fun m m1 m2 m3 m4 => ?_⟩
  · by_cases e : c = cl n
    · subst e
      rw [upd_s, a3] at h
      have hnd : ¬ n ≤ d := fun z => by
        rw [if_pos ⟨a2, z⟩] at h
        by_cases y : o.1 < 0
        · rw [if_pos y] at h; exact absurd h (by decide)
        · rw [if_neg y] at h; exact absurd h (by decide)
      rw [a3, ub_s, ub_s, ub_s, un_s, upd_s, h20, upd_s, h21, upd_s]
      simp only [reduceIte]
      refine ⟨h1, hn, hic, trivial, trivial, fun z => hnd z.2, fun _ => ⟨?_, fun z => ?_, hj, ho, fun k hk => ?_⟩⟩
      · simp
      · exact hfl (by simpa using z)
      · rw [hw k hk, h22 k (by rw [ho, ix_nI (by omega)]; exact hk)]
    · rw [upd_n e] at h
      obtain ⟨b1, b2, b3, b4, b5, b6, b7⟩ := hJ.1 c hc h
      have hne : cn c ≠ n := fun z => e (by rw [← b4, z])
      rw [ub_n hne, ub_n e, ub_n e, un_n e, upd_n e, h20, upd_n hne, h21, upd_n hne]
      simp only [e, reduceIte]
      refine ⟨b1, b2, b3, b4, b5, b6, fun z => ?_⟩
      obtain ⟨m1, m2, m3, m4, m5⟩ := b7 z
      exact ⟨m1, m2, m3, m4, fun k hk => by rw [h22' _ (by omega)]; exact m5 k hk⟩
  · have e : m ≠ n := fun z => by rw [z, ub_s] at m4; exact absurd m4 (by decide)
    rw [ub_n e] at m4
    obtain ⟨b1, b2, b3⟩ := hJ.2 m m1 m2 m3 m4
    have : cl m ≠ cl n := fun z => e (by rw [← b3, z, a3])
    rw [upd_n this]
    exact ⟨b1, b2, b3⟩
theorem RK_run {n j : Nat} {o : Oc} {w' : Fn} {fl' : Int32} (hJ : JK l d ic dn cl cs cn cd cc cf co cw fA oA wA) (hK : RK cs cn cf co cw A) (h1 : 1 ≤ n) (hn : n ≤ l) (hic : ic n = true) (hdn : dn n = false) (hj : j ≤ 4) (ho : o.2.2.2.1 = nI j) (hw : ∀ k, k < j → w' k = o.2.2.2.2 k) (hfl : ¬ o.1 < 0 → fl' = o.1) (h20 : A' 20 = upd fA n o.1) (h21 : A' 21 = upd oA n o.2.2.2.1) (h22 : ∀ k, k < ix o.2.2.2.1 → A' 22 (4 * n + k) = o.2.2.2.2 k)
    (hA3 : A3 27 = A 27 ∧ A3 29 = A 29 ∧ A3 30 = A 30 ∧ A3 31 = A 31 ∧ A3 20 = A' 20 ∧ A3 21 = A' 21 ∧ A3 22 = A' 22 ∧ ∀ c, c < 4 → TC d (ub dn n true) cn A3 A' c) (h28 : A' 28 = A 28) :
    RK (upd cs (cl n) (if cs (cl n) = 1 ∧ cn (cl n) ≤ d then (if o.1 < 0 then 2 else 3) else cs (cl n))) cn (upd cf (cl n) fl') (un co (cl n) j) (fun c => if c = cl n then w' else cw c) A' := by
  obtain ⟨a1, a2, a3⟩ := hJ.2 n h1 hn hic hdn
  obtain ⟨x27, x29, x30, x31, x20, x21, x22, hTC⟩ := hA3
  intro c hc
  obtain ⟨r1, r2, r3, r4, r5⟩ := hK c hc
  obtain ⟨t1, t2⟩ := hTC c hc
  unfold tld at t1 t2
  rw [x20, x21, x22] at t1
  rw [x27] at t1
  rw [x27, x29, x30, x31] at t2
  rw [h28]
  by_cases e : c = cl n
  · subst e
    rw [upd_s, upd_s, un_s, a3]
    simp only [reduceIte]
    by_cases g : n ≤ d
    · obtain ⟨s1, s2, s3, s4⟩ := t1 ⟨by rw [r1]; exact a2, by rw [a3, ub_s], by rw [a3]; exact g⟩
      rw [a3] at s1 s2 s3 s4
      rw [h20, upd_s] at s1 s2
      rw [h21, upd_s] at s3
      rw [if_pos ⟨a2, g⟩]
      refine ⟨s1, by rw [r2, a3], by omega, fun z => ⟨s3.trans ho, hj, fun k hk => ?_⟩, fun z => ?_⟩
      · rw [s4 k (by omega), h22 k (by rw [ho, ix_nI (by omega)]; exact hk), hw k hk]
      · rw [s2, hfl (fun y => by rw [if_pos y] at z; exact absurd z (by decide))]
    · obtain ⟨s1, s2, s3, s4⟩ := t2 (fun z => g (by have := z.2.2; rw [a3] at this; exact this))
      rw [if_neg (fun z => g z.2), a2]
      exact ⟨s1.trans (r1.trans a2), by rw [r2, a3], by omega, fun z => absurd z (by decide), fun z => absurd z (by decide)⟩
  · rw [upd_n e, upd_n e, un_n e]
    simp only [e, reduceIte]
    obtain ⟨s1, s2, s3, s4⟩ := t2 (fun z => by
      have z1 : cs c = 1 := by rw [← r1]; exact z.1
      obtain ⟨b1, b2, b3, b4, b5, b6, b7⟩ := hJ.1 c hc z1
      have hne : cn c ≠ n := fun y => e (by rw [← b4, y])
      have := z.2.1
      rw [ub_n hne, ← b5] at this
      exact b6 ⟨this, z.2.2⟩)
    refine ⟨s1.trans r1, r2, r3, fun z => ?_, fun z => s2.trans (r5 z)⟩
    obtain ⟨m1, m2, m3⟩ := r4 z
    exact ⟨s3.trans m1, m2, fun k hk => (s4 k (by omega)).trans (m3 k hk)⟩
theorem JK_crash (hJ : JK l d ic dn cl cs cn cd cc cf co cw fA oA wA) : JK d d ic (fun _ => true) cl (fun i => if cs i = 1 then 4 else cs i) cn cd cc cf co cw fA' oA' wA' := by
  refine ⟨fun c hc h => ?_, fun n _ _ _ h4 => Bool.noConfusion h4⟩
  dsimp only at h
  by_cases e : cs c = 1
  · rw [if_pos e] at h
    exact absurd h (by decide)
  · rw [if_neg e] at h
    exact absurd h e
theorem RK_crash (hK : RK cs cn cf co cw A) (h27 : ∀ i, i < 4 → A' 27 i = if A 27 i = 1 then 4 else A 27 i) (hk : ∀ k, 28 ≤ k → k ≤ 31 → A' k = A k) : RK (fun i => if cs i = 1 then 4 else cs i) cn cf co cw A' := fun c hc => by
  obtain ⟨r1, r2, r3, r4, r5⟩ := hK c hc
  dsimp only
  rw [h27 c hc, r1, hk 28 (by decide) (by decide), hk 29 (by decide) (by decide), hk 30 (by decide) (by decide), hk 31 (by decide) (by decide)]
  refine ⟨rfl, r2, r3, fun z => ?_, fun z => ?_⟩
  · by_cases e : cs c = 1
    · rw [if_pos e] at z; exact absurd z (by decide)
    · rw [if_neg e] at z; exact r4 z
  · by_cases e : cs c = 1
    · rw [if_pos e] at z; exact absurd z (by decide)
    · rw [if_neg e] at z; exact r5 z
end CLI
