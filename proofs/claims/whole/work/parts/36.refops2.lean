section OPS2
variable {P l d c u : Nat} {ic ml : Nat → Bool} {hm : Nat → Nat} {xo : Nat → DB → Oc} {dn : Nat → Bool} {cm : Nat → Nat → Bool} {A : RA} {F : RF} {lf : Nat → Nat} {live base : DB}
variable {dr : Option Nat} {dep : Nat → Bool} {mul : Fn} {sn : Nat → Nat} {so sx sy sz : Nat → Fn} {cs : Fn} {cn : Nat → Nat} {cf : Fn} {co : Nat → Nat} {cw : Nat → Fn}
/-- a new number's rows -/
def nxt (A A' : RA) (n : Nat) (v : Int32) : Prop := A' 16 = upd (A 16) n v ∧ A' 18 = upd (A 18) n 0 ∧ A' 19 = upd (A 19) n 0
theorem f_nxt {Q : Int32 → RA → RF → Prop} {v : Int32} (hl : F 15 = nI l) (h5 : l + 1 ≤ 513) (k : Q (nI (l + 1)) (upA (upA (upA A 16 (upd (A 16) (l + 1) v)) 18 (upd (A 18) (l + 1) 0)) 19 (upd (A 19) (l + 1) 0)) (upd F 15 (nI (l + 1)))) : fw_M_next Q v A F := by
  unfold fw_M_next
  dsimp only [fpF, fsI, fsZ]
  rw [hl, nI_1, upd_s]
  have en : (nI (l + 1)).toNatClampNeg = l + 1 := nI_clamp (by omega)
  have hin : vp_in (nI (l + 1)) 514 := vp_in_nI (by omega) (by decide)
  rw [en, upA_n (by decide), upA_n (by decide), upA_n (by decide)]
  exact ⟨hin, hin, Or.inl rfl, hin, k⟩
theorem f_invoke {Q : Int32 → RA → RF → Prop} {x y a b e : Int32} (hN : RN P l d c u F) (hcl : c ≤ l) (hC : RC P l ic ml hm xo A F) (hQ : RQ dr dep mul sn so sx sy sz A F) (hK : RK cs cn cf co cw A) (hl : l + 1 ≤ 513)
    (h0 : ¬ (∃ i p, i < 4 ∧ p < 6 ∧ x = nI i ∧ y = nI p ∧ ¬ cs i = 1 ∧ dep p = true) → Q (-1) A F)
    (hF : ∀ i p, i < 4 → p < 6 → x = nI i → y = nI p → ¬ cs i = 1 → dep p = true → 48 ≤ ((nu c l).filter ic).length → Q (-2) A F)
    (h1 : ∀ i p, i < 4 → p < 6 → x = nI i → y = nI p → ¬ cs i = 1 → dep p = true → ((nu c l).filter ic).length < 48 → ∀ A', nxt A A' (l + 1) (nI p) → A' 17 = upd (upd (upd (A 17) (3 * (l + 1)) a) (3 * (l + 1) + 1) b) (3 * (l + 1) + 2) e → A' 27 = upd (A 27) i 1 → A' 28 = upd (A 28) i (nI (l + 1)) → (∀ k, k ≠ 16 → k ≠ 17 → k ≠ 18 → k ≠ 19 → k ≠ 27 → k ≠ 28 → A' k = A k) → Q (nI (l + 1)) A' (upd F 15 (nI (l + 1)))) : fw_M_invoke Q x y a b e A F := by
  unfold fw_M_invoke fw_M_invoke_36
  refine f_outN (n := 4) (by decide) (fun g => ⟨fun _ => h0 (fun ⟨i, p, hi, hp, ex, _⟩ => g i hi ex), fun z => absurd z (by decide)⟩) (fun i hi ex => ⟨fun z => absurd rfl z, fun _ => ?_⟩)
  subst ex
  dsimp only [flI, fsI]
  have ei : (nI i).toNatClampNeg = i := nI_clamp (by omega)
  have hi4 : vp_in (nI i) 4 := vp_in_nI (by omega) (by decide)
  rw [ei, (hK i hi).1]
  refine ⟨hi4, fun z => h0 (fun ⟨i', p, hi', hp, e1, e2, e3, e4⟩ => ?_), fun z => ?_⟩
  · rw [← (nI_eq (by omega) (by omega)).mp e1] at e3
    exact e3 z
  refine f_outN (n := 6) (by decide) (fun g => ⟨fun _ => h0 (fun ⟨i', p, hi', hp, e1, e2, e3, e4⟩ => g p hp e2), fun z => absurd z (by decide)⟩) (fun p hp ey => ⟨fun z => absurd rfl z, fun _ => ?_⟩)
  subst ey
  have ep : (nI p).toNatClampNeg = p := nI_clamp (by omega)
  rw [ep, hQ.1 p hp]
  refine ⟨vp_in_nI (show p < 6 by omega) (by decide), fun w => ?_, fun w => h0 (fun ⟨i', p', hi', hp', e1, e2, e3, e4⟩ => ?_)⟩
  · have hdp : dep p = true := by
      cases h : dep p with
      | false => exact absurd (b2_0.mpr h) w
      | true => rfl
    have hlen : ((nu c l).filter ic).length ≤ 600 := Nat.le_trans (List.length_filter_le _ _) (by rw [List.length_range']; omega)
    refine f_logged hN hC hcl (by omega) ⟨fun v => f_nxt hN.2.1 hl ?_, fun v => hF i p hi hp rfl rfl z hdp (Nat.not_lt.mp fun y => v (nI_lt (b := 48) y (by decide)))⟩
    have h48 : ((nu c l).filter ic).length < 48 := (nI_ltI (b := 48) (by omega) (by decide)).mp v
    have t0 : (3 : Int32) * nI (l + 1) = nI (3 * (l + 1)) := nI_lit3 _
    have t2 : nI (3 * (l + 1)) + 2 = nI (3 * (l + 1) + 2) := nI_add _ 2
    rw [t0, nI_1, t2]
    have c0 : (nI (3 * (l + 1))).toNatClampNeg = 3 * (l + 1) := nI_clamp (by omega)
    have c1 : (nI (3 * (l + 1) + 1)).toNatClampNeg = 3 * (l + 1) + 1 := nI_clamp (by omega)
    have c2 : (nI (3 * (l + 1) + 2)).toNatClampNeg = 3 * (l + 1) + 2 := nI_clamp (by omega)
    rw [c0, c1, c2]
    refine ⟨vp_in_nI (show 3 * (l + 1) < 1542 by omega) (by decide), vp_in_nI (show 3 * (l + 1) + 1 < 1542 by omega) (by decide), vp_in_nI (show 3 * (l + 1) + 2 < 1542 by omega) (by decide), hi4, hi4, h1 i p hi hp rfl rfl z hdp h48 _ ⟨?_, ?_, ?_⟩ ?_ ?_ ?_ (fun k g1 g2 g3 g4 g5 g6 => ?_)⟩
    · rw [upA_n (by decide), upA_n (by decide), upA_n (by decide), upA_n (by decide), upA_n (by decide), upA_n (by decide), upA_n (by decide), upA_s]
    · rw [upA_n (by decide), upA_n (by decide), upA_n (by decide), upA_n (by decide), upA_n (by decide), upA_n (by decide), upA_s]
    · rw [upA_n (by decide), upA_n (by decide), upA_n (by decide), upA_n (by decide), upA_n (by decide), upA_s]
    · rw [upA_n (by decide), upA_n (by decide), upA_s, upA_s, upA_s, upA_n (by decide), upA_n (by decide), upA_n (by decide)]
    · rw [upA_n (by decide), upA_s, upA_n (by decide), upA_n (by decide), upA_n (by decide), upA_n (by decide), upA_n (by decide), upA_n (by decide)]
    · rw [upA_s, upA_n (by decide), upA_n (by decide), upA_n (by decide), upA_n (by decide), upA_n (by decide), upA_n (by decide), upA_n (by decide)]
    · rw [upA_n g6, upA_n g5, upA_n g2, upA_n g2, upA_n g2, upA_n g4, upA_n g3, upA_n g1]
  · rw [← (nI_eq (by omega) (by omega)).mp e2, b2_0.mp w] at e4
    exact absurd e4 (by decide)
theorem f_snap {Q : Int32 → RA → RF → Prop} (hN : RN P l d c u F) (hu : u ≤ l) (hl : l + 1 ≤ 513) (h0 : u ≠ 0 → Q (-1) A F) (h1 : u = 0 → ∀ A', nxt A A' (l + 1) (-1) → (∀ k, k ≠ 16 → k ≠ 18 → k ≠ 19 → A' k = A k) → Q (nI (l + 1)) A' (upd (upd F 15 (nI (l + 1))) 25 (nI (l + 1)))) : fw_M_snapshot Q A F := by
  unfold fw_M_snapshot
  rw [hN.2.2.2.2]
  refine ⟨fun z => f_nxt hN.2.1 hl ?_, fun z => h0 (fun y => z (by rw [y]; decide))⟩
  have hu0 : u = 0 := by
    have := (nI_leI (b := 0) (by omega) (by decide)).mp z
    omega
  dsimp only [fpF]
  rw [upd_s]
  exact h1 hu0 _ ⟨by rw [upA_n (by decide), upA_n (by decide), upA_s], by rw [upA_n (by decide), upA_s], upA_s⟩ (fun k g1 g2 g3 => by rw [upA_n g3, upA_n g2, upA_n g1])
theorem f_flush {Q : Int32 → RA → RF → Prop} (hN : RN P l d c u F) (hG : RG l dn cm A) (hl : l ≤ 513) (hk : ∀ c, c < 4 → A 28 c = nI (cn c) ∧ cn c ≤ 513) (hdn : ∀ c, c < 4 → A 27 c = 1 → 1 ≤ cn c ∧ cn c ≤ l) (h : ∀ A', (∀ k, k ≠ 27 → k ≠ 29 → k ≠ 30 → k ≠ 31 → A' k = A k) → (∀ c, c < 4 → TC l dn cn A A' c) → Q (nI l) A' (upd F 23 (nI l))) : fw_M_flush Q A F := by
  unfold fw_M_flush
  dsimp only [fpF]
  rw [hN.2.1]
  refine f_tell (d := l) (dn := dn) (cn := cn) upd_s hl hk (fun c hc hp => (hG _ (hdn c hc hp).1 (hdn c hc hp).2).1) (fun A' a b => ?_)
  rw [upd_s]
  exact h A' a b
def cmS (cm : Nat → Nat → Bool) (n i : Nat) : Nat → Nat → Bool := fun m => if m = n then cset (cm n) i else cm m
theorem cmS_s {cm : Nat → Nat → Bool} {n i : Nat} : cmS cm n i n = cset (cm n) i := by simp [cmS]
theorem cmS_n {cm : Nat → Nat → Bool} {n i m : Nat} (h : m ≠ n) : cmS cm n i m = cm m := by simp [cmS, h]
/-- what a run leaves -/
def RR (d n : Nat) (dn : Nat → Bool) (cn : Nat → Nat) (o : Oc) (base : DB) (A A' : RA) : Prop := RT (o.2.1, o.2.2.1) base A' ∧ A' 20 = upd (A 20) n o.1 ∧ A' 21 = upd (A 21) n o.2.2.2.1 ∧ (∀ k, k < ix o.2.2.2.1 → A' 22 (4 * n + k) = o.2.2.2.2 k) ∧ (∀ j, ¬ (4 * n ≤ j ∧ j < 4 * n + 4) → A' 22 j = A 22 j) ∧
  (∃ A3 : RA, A3 27 = A 27 ∧ A3 29 = A 29 ∧ A3 30 = A 30 ∧ A3 31 = A 31 ∧ A3 20 = A' 20 ∧ A3 21 = A' 21 ∧ A3 22 = A' 22 ∧ ∀ c, c < 4 → TC d (ub dn n true) cn A3 A' c) ∧ ∀ k, (7 ≤ k ∧ k ≤ 17) ∨ k = 26 ∨ k = 28 → A' k = A k
set_option maxHeartbeats 1000000 in
theorem f_step {Q : Int32 → RA → RF → Prop} {x : Int32} (hN : RN P l d c u F) (hJ : JN P l d c u) (hT : RT live base A) (hC : RC P l ic ml hm xo A F) (hG : RG l dn cm A) (hS : RS lf A) (hl : l ≤ 513) (hz : ∀ n i, P ≤ i → cm n i = false) (hdu : u ≠ 0 → ic u = false) (hk : ∀ c, c < 4 → A 28 c = nI (cn c) ∧ cn c ≤ 513) (hdn : ∀ c, c < 4 → A 27 c = 1 → 1 ≤ cn c ∧ cn c ≤ l) (hmk : ∀ i n, i < P → 1 ≤ n → n ≤ l → ic n = false → wt ic ml hm dn cm i n = true → n = u)
    (h0 : (∀ i, i < P → x ≠ nI i) → Q (-1) A F) (hI : ∀ i, i < P → x = nI i → (∀ n, 1 ≤ n → n ≤ l → wt ic ml hm dn cm i n = false) → Q 0 A F)
    (hW : ∀ i n, i < P → x = nI i → 1 ≤ n → n ≤ l → wt ic ml hm dn cm i n = true → (∀ m, 1 ≤ m → m < n → wt ic ml hm dn cm i m = false) →
      (ic n = true → ml n = true → ¬ (∀ j, j < P → cset (cm n) i j = true) → ∀ A', RG l dn (cmS cm n i) A' → (∀ k, k ≠ 19 → A' k = A k) → Q 2 A' F) ∧
      (ic n = true → (ml n = true → ∀ j, j < P → cset (cm n) i j = true) → ∀ A', RR d n dn cn (xo n live) base A A' → RG l (ub dn n true) (cmS cm n i) A' → Q 1 A' F) ∧
      (n = u → ic n = false → ¬ (u ≠ 0 ∧ ∀ j, j < P → cmS cm n i u j = true ∧ un lf i (cpn (A 1) P i 32) j = 0) → ∀ A', RG l dn (cmS cm n i) A' → RS (un lf i (cpn (A 1) P i 32)) A' → (∀ k, k ≠ 19 → k ≠ 26 → A' k = A k) → Q 3 A' F) ∧
      (n = u → ic n = false → (u ≠ 0 ∧ ∀ j, j < P → cmS cm n i u j = true ∧ un lf i (cpn (A 1) P i 32) j = 0) → ∀ A2 base' A' F', RG l dn (cmS cm n i) A2 → RS (un lf i (cpn (A 1) P i 32)) A2 → (∀ k, k ≠ 19 → k ≠ 26 → A2 k = A k) → CR P l d c u ic dn xo cn base base' A2 A' → RN P l (max d u) u 0 F' → F' 14 = F 14 → Q 3 A' F')) : fw_M_step Q x A F := by
  obtain ⟨j1, j2, j3, j4, j5, j6⟩ := id hJ
  unfold fw_M_step
  rw [hN.1]
  refine f_outN (by omega) (fun g => ⟨fun z => absurd z (by decide), fun _ => h0 g⟩) (fun i hi ex => ⟨fun _ => ?_, fun z => absurd rfl z⟩)
  subst ex
  refine f_first hN ⟨j1, j2⟩ hC hG hi hl (fun g => ?_) (fun n h1 hn hw hb => ?_)
  · unfold fw_M_step_38
    rw [hN.2.1]
    exact ⟨fun z => absurd ((nI_leI (by omega) (by omega)).mp z) (by omega), fun _ => hI i hi rfl g⟩
  obtain ⟨hW1, hW2, hW3, hW4⟩ := hW i n hi rfl h1 hn hw hb
  unfold fw_M_step_38
  dsimp only [flI, fsI]
  have en : (nI n).toNatClampNeg = n := nI_clamp (by omega)
  have hin : vp_in (nI n) 514 := vp_in_nI (by omega) (by decide)
  rw [hN.2.1, en, (hG n h1 hn).2, bit_set _ (by omega)]
  refine ⟨fun _ => ⟨hin, hin, hin, ?_⟩, fun z => absurd (nI_le hn (by omega)) z⟩
  rw [upA_n (by decide)]
  generalize hA1 : upA A 19 (upd (A 19) n (nI (bt (cset (cm n) i)))) = A1
  have k1 : ∀ k, k ≠ 19 → A1 k = A k := fun k hk => by rw [← hA1, upA_n hk]
  have hG1 : RG l dn (cmS cm n i) A1 := fun m g1 g2 => by
    refine ⟨by rw [k1 18 (by decide)]; exact (hG m g1 g2).1, ?_⟩
    rw [← hA1, upA_s]
    by_cases e : m = n
    · subst e
      rw [upd_s, cmS_s]
    · rw [upd_n e, cmS_n e]
      exact (hG m g1 g2).2
  have hC1 : RC P l ic ml hm xo A1 F := RC_ext hC (fun k g1 g2 => k1 k (by omega)) rfl
  cases hic : ic n with
  | false =>
    rw [(hC n h1 hn).1 hic]
    have hnu := hmk i n hi h1 hn hic hw
    refine ⟨fun z => absurd z (by decide), fun _ => ⟨fun z => absurd (by rw [hN.2.2.2.2, hnu]) z, fun _ => ?_⟩⟩
    refine f_rowsOf hN.1 ⟨j1, j2⟩ hi ?_
    have ei : (nI i).toNatClampNeg = i := nI_clamp (by omega)
    rw [ei, k1 1 (by decide)]
    refine ⟨vp_in_nI (show i < 4 by omega) (by decide), ?_⟩
    generalize hA2 : upA A1 26 (upd (A1 26) i (nI (cpn (A 1) P i 32))) = A2
    have k2 : ∀ k, k ≠ 19 → k ≠ 26 → A2 k = A k := fun k g1 g2 => by rw [← hA2, upA_n g2, k1 k g1]
    have k2' : ∀ k, k ≠ 26 → A2 k = A1 k := fun k g2 => by rw [← hA2, upA_n g2]
    have hG2 : RG l dn (cmS cm n i) A2 := fun m g1 g2 => by rw [k2' 18 (by decide), k2' 19 (by decide)]; exact hG1 m g1 g2
    have hS2 : RS (un lf i (cpn (A 1) P i 32)) A2 := fun j hj => by
      rw [← hA2, upA_s]
      by_cases e : j = i
      · subst e
        rw [upd_s, un_s]
        exact ⟨rfl, cpn_le 32⟩
      · rw [upd_n e, un_n e, k1 26 (by decide)]
        exact hS j hj
    have hT2 : RT live base A2 := by
      unfold RT at hT ⊢
      rw [k2 1 (by decide) (by decide), k2 2 (by decide) (by decide), k2 3 (by decide) (by decide), k2 4 (by decide) (by decide), k2 32 (by decide) (by decide)]
      exact hT
    have hz2 : ∀ m j, P ≤ j → cmS cm n i m j = false := fun m j hj => by
      by_cases e : m = n
      · subst e
        rw [cmS_s]
        unfold cset
        rw [if_neg (by omega)]
        exact hz m j hj
      · rw [cmS_n e]
        exact hz m j hj
    unfold fw_M_step_88
    exact f_comp hN hJ hT2 (RC_ext hC (fun k g1 g2 => k2 k (by omega) (by omega)) rfl) hG2 hS2 hl hz2 hdu (fun c hc => by rw [k2 28 (by decide) (by decide)]; exact hk c hc) (fun c hc hp => hdn c hc (by rw [k2 27 (by decide) (by decide)] at hp; exact hp)) (fun g => hW3 hnu hic (by rw [hnu] at g ⊢; exact g) A2 hG2 hS2 k2) (fun g base' A' F' r1 r2 r3 => hW4 hnu hic (by rw [hnu] at g ⊢; exact g) A2 base' A' F' hG2 hS2 k2 r1 r2 r3)
  | true =>
    obtain ⟨p, sn, e1, e2, e3, e4, e5, e6⟩ := (hC n h1 hn).2 hic
    have ep : (nI p).toNatClampNeg = p := nI_clamp (by have := e2.1.1; omega)
    have hb1 : b01 (A1 1) := by rw [k1 1 (by decide)]; exact hT.2.2.2.2.1
    have hz1 : ∀ j, 6 ≤ j → A1 32 j = 0 := by rw [k1 32 (by decide)]; exact hT.2.2.2.2.2.2.2
    have run : (ml n = true → ∀ j, j < P → cset (cm n) i j = true) → fw_M_step_127 Q (nI i) (nI n) A1 F := fun hml => by
      unfold fw_M_step_127
      refine f_run hN.1 ⟨j1, j2⟩ hC1 h1 hn hl hic hb1 hz1 (fun A2 hX => ?_)
      rw [k1 1 (by decide), k1 2 (by decide), hT.1, hT.2.1] at hX
      obtain ⟨b1, b2', b3, b4, b5, b6, b7, b8, b9, b10⟩ := hX
      dsimp only [fsZ]
      rw [en]
      refine ⟨hin, Or.inr rfl, ?_⟩
      generalize hA3 : upA A2 18 (upd (A2 18) n 1) = A3
      have k3 : ∀ k, k ≠ 18 → A3 k = A2 k := fun k hk => by rw [← hA3, upA_n hk]
      have k8 : ∀ k, (7 ≤ k ∧ k ≤ 17) ∨ (26 ≤ k ∧ k ≤ 31) ∨ k = 3 ∨ k = 4 → A3 k = A k := fun k hk => by rw [k3 k (by omega), b8 k (by omega) (by omega) (by omega) (by omega) (by omega) (by omega) (by omega) (by omega), k1 k (by omega)]
      have g18 : ∀ m, 1 ≤ m → m ≤ l → A3 18 m = b2 (ub dn n true m) := fun m g1 g2 => by
        rw [← hA3, upA_s]
        by_cases e : m = n
        · subst e
          rw [upd_s, ub_s]
          rfl
        · rw [upd_n e, ub_n e, b8 18 (by decide) (by decide) (by decide) (by decide) (by decide) (by decide) (by decide) (by decide)]
          exact (hG1 m g1 g2).1
      refine f_tell (d := d) (dn := ub dn n true) (cn := cn) hN.2.2.1 (by omega) (fun c hc => by rw [k8 28 (by omega)]; exact hk c hc) (fun c hc hp => ?_) (fun A4 w1 w2 => ?_)
      · rw [k8 27 (by omega)] at hp
        exact g18 _ (hdn c hc hp).1 (hdn c hc hp).2
      · have w1' : ∀ k, k ≠ 18 → k ≠ 27 → k ≠ 29 → k ≠ 30 → k ≠ 31 → A4 k = A2 k := fun k g0 g1 g2 g3 g4 => by rw [w1 k g1 g2 g3 g4, k3 k g0]
        refine hW2 hic hml A4 ⟨⟨?_, ?_, ?_, ?_, ?_, ?_, fun j hj => ?_, ?_⟩, ?_, ?_, fun k hk => ?_, fun j hj => ?_, ⟨A3, k8 27 (by omega), k8 29 (by omega), k8 30 (by omega), k8 31 (by omega), (w1 20 (by decide) (by decide) (by decide) (by decide)).symm, (w1 21 (by decide) (by decide) (by decide) (by decide)).symm, (w1 22 (by decide) (by decide) (by decide) (by decide)).symm, w2⟩, fun k hk => by rw [w1 k (by omega) (by omega) (by omega) (by omega), k8 k (by omega)]⟩ (fun m g1 g2 => ⟨?_, ?_⟩)
        · rw [w1' 1 (by decide) (by decide) (by decide) (by decide) (by decide)]; exact b2'
        · rw [w1' 2 (by decide) (by decide) (by decide) (by decide) (by decide)]; exact b3
        · rw [w1 3 (by decide) (by decide) (by decide) (by decide), k8 3 (by omega)]; exact hT.2.2.1
        · rw [w1 4 (by decide) (by decide) (by decide) (by decide), k8 4 (by omega)]; exact hT.2.2.2.1
        · rw [w1' 1 (by decide) (by decide) (by decide) (by decide) (by decide)]; exact b9
        · rw [w1 3 (by decide) (by decide) (by decide) (by decide), k8 3 (by omega)]; exact hT.2.2.2.2.2.1
        · rw [w1' 1 (by decide) (by decide) (by decide) (by decide) (by decide), w1' 2 (by decide) (by decide) (by decide) (by decide) (by decide), w1 3 (by decide) (by decide) (by decide) (by decide), k8 3 (by omega), w1 4 (by decide) (by decide) (by decide) (by decide), k8 4 (by omega), (b10 j hj).1, (b10 j hj).2, k1 1 (by decide), k1 2 (by decide)]
          exact hT.2.2.2.2.2.2.1 j hj
        · rw [w1' 32 (by decide) (by decide) (by decide) (by decide) (by decide)]; exact b7
        · rw [w1' 20 (by decide) (by decide) (by decide) (by decide) (by decide), b1, k1 20 (by decide)]
        · rw [w1' 21 (by decide) (by decide) (by decide) (by decide) (by decide), b4, k1 21 (by decide)]
        · rw [w1' 22 (by decide) (by decide) (by decide) (by decide) (by decide)]; exact b5 k hk
        · rw [w1' 22 (by decide) (by decide) (by decide) (by decide) (by decide), b6 j hj, k1 22 (by decide)]
        · rw [w1 18 (by decide) (by decide) (by decide) (by decide)]; exact g18 m g1 g2
        · rw [w1' 19 (by decide) (by decide) (by decide) (by decide) (by decide), b8 19 (by decide) (by decide) (by decide) (by decide) (by decide) (by decide) (by decide) (by decide)]; exact (hG1 m g1 g2).2
    rw [e1, ep, k1 8 (by decide), (hG1 n h1 hn).2, hN.1, cmS_s]
    have hz1 : ∀ j, P ≤ j → cset (cm n) i j = false := fun j hj => by
      unfold cset
      rw [if_neg (by omega)]
      exact hz n j hj
    refine ⟨fun _ => ⟨hin, vp_in_nI (show p < 7 by have := e2.1.1; omega) (by decide), fun z => run (fun y => by rw [e3.mp z] at y; exact absurd y (by decide)), fun z => ⟨hin, fun y => run (fun _ => (bit_full _ j1 j2 hz1).mp y), fun y => hW1 hic ?_ (fun g => y ((bit_full _ j1 j2 hz1).mpr g)) A1 hG1 k1⟩⟩, fun z => absurd (nI_pos' (by have := e2.1.1; omega)) z⟩
    cases h : ml n with
    | false => exact absurd (e3.mpr h) z
    | true => rfl
end OPS2
