section OPS3
variable {P l d c u : Nat} {ic ml : Nat → Bool} {hm : Nat → Nat} {xo : Nat → DB → Oc} {dn : Nat → Bool} {cm : Nat → Nat → Bool} {A : RA} {F : RF} {lf : Nat → Nat} {live base : DB}
variable {dr : Option Nat} {dep : Nat → Bool} {mul : Fn} {sn : Nat → Nat} {so sx sy sz : Nat → Fn} {cs : Fn} {cn : Nat → Nat} {cf : Fn} {co : Nat → Nat} {cw : Nat → Fn}
theorem ix_neg {y : Int32} (h : ¬ 0 ≤ y) : ix y = 0 := by
  have : y < 0 := Int32.not_le.mp h
  show y.toNatClampNeg = 0
  unfold Int32.toNatClampNeg
  rw [Int32.lt_iff_toInt_lt] at this
  exact Int.toNat_eq_zero.mpr (Int.le_of_lt this)
theorem f_scan {Q : Int32 → RA → RF → Prop} {x y : Int32} (hN : RN P l d c u F) (hJ : JN P l d c u) (hT : RT live base A) (hC : RC P l ic ml hm xo A F) (hG : RG l dn cm A) (hS : RS lf A) (hl : l ≤ 513) (hz : ∀ n i, P ≤ i → cm n i = false) (hdu : u ≠ 0 → ic u = false) (hk : ∀ c, c < 4 → A 28 c = nI (cn c) ∧ cn c ≤ 513) (hdn : ∀ c, c < 4 → A 27 c = 1 → 1 ≤ cn c ∧ cn c ≤ l)
    (h0 : ¬ (∃ i, i < P ∧ x = nI i ∧ u ≠ 0 ∧ cm u i = true) → Q (-1) A F)
    (h3 : ∀ i, i < P → x = nI i → u ≠ 0 → cm u i = true → ¬ (u ≠ 0 ∧ ∀ j, j < P → cm u j = true ∧ un lf i (lf i - ix y) j = 0) → ∀ A', RS (un lf i (lf i - ix y)) A' → (∀ k, k ≠ 26 → A' k = A k) → Q (nI (lf i - ix y)) A' F)
    (h4 : ∀ i, i < P → x = nI i → u ≠ 0 → cm u i = true → (u ≠ 0 ∧ ∀ j, j < P → cm u j = true ∧ un lf i (lf i - ix y) j = 0) → ∀ A2 base' A' F', RS (un lf i (lf i - ix y)) A2 → (∀ k, k ≠ 26 → A2 k = A k) → CR P l d c u ic dn xo cn base base' A2 A' → RN P l (max d u) u 0 F' → F' 14 = F 14 → Q (nI (lf i - ix y)) A' F') : fw_M_scan Q x y A F := by
  obtain ⟨j1, j2, j3, j4, j5, j6⟩ := id hJ
  unfold fw_M_scan fw_M_scan_34
  rw [hN.1]
  refine f_outN (by omega) (fun g => ⟨fun _ => h0 (fun ⟨i, hi, e, _⟩ => g i hi e), fun z => absurd z (by decide)⟩) (fun i hi ex => ⟨fun z => absurd rfl z, fun _ => ?_⟩)
  subst ex
  rw [hN.2.2.2.2]
  refine ⟨fun z => h0 (fun ⟨i', hi', e, hu, _⟩ => hu ((nI_eq (b := 0) (by omega) (by decide)).mp z)), fun z => ?_⟩
  have hu : u ≠ 0 := fun y => z (by rw [y]; rfl)
  dsimp only [flI]
  have eu : (nI u).toNatClampNeg = u := nI_clamp (by omega)
  have ei : (nI i).toNatClampNeg = i := nI_clamp (by omega)
  have hi4 : vp_in (nI i) 4 := vp_in_nI (by omega) (by decide)
  obtain ⟨s1, s2⟩ := hS i (by omega)
  rw [eu, (hG u (by omega) j5).2, bit_of _ (by omega)]
  refine ⟨vp_in_nI (show u < 514 by omega) (by decide), fun w => ?_, fun w => h0 (fun ⟨i', hi', e, _, g⟩ => ?_)⟩
  · have hcu : cm u i = true := by
      cases h : cm u i with
      | false => exact absurd h w
      | true => rfl
    have fin : fw_M_scan_68 Q (nI i) y 0 (nI (lf i - ix y)) A F := by
      unfold fw_M_scan_68
      dsimp only [fsI]
      rw [ei]
      refine ⟨hi4, ?_⟩
      generalize hA2 : upA A 26 (upd (A 26) i (nI (lf i - ix y))) = A2
      have k2 : ∀ k, k ≠ 26 → A2 k = A k := fun k g2 => by rw [← hA2, upA_n g2]
      have hG2 : RG l dn cm A2 := fun m g1 g2 => by rw [k2 18 (by decide), k2 19 (by decide)]; exact hG m g1 g2
      have hS2 : RS (un lf i (lf i - ix y)) A2 := fun j hj => by
        rw [← hA2, upA_s]
        by_cases e : j = i
        · subst e
          rw [upd_s, un_s]
          exact ⟨rfl, by omega⟩
        · rw [upd_n e, un_n e]
          exact hS j hj
      have hT2 : RT live base A2 := by
        unfold RT at hT ⊢
        rw [k2 1 (by decide), k2 2 (by decide), k2 3 (by decide), k2 4 (by decide), k2 32 (by decide)]
        exact hT
      exact f_comp hN hJ hT2 (RC_ext hC (fun k g1 g2 => k2 k (by omega)) rfl) hG2 hS2 hl hz hdu (fun c hc => by rw [k2 28 (by decide)]; exact hk c hc) (fun c hc hp => hdn c hc (by rw [k2 27 (by decide)] at hp; exact hp)) (fun g => h3 i hi rfl hu hcu g A2 hS2 k2) (fun g base' A' F' r1 r2 r3 => h4 i hi rfl hu hcu g A2 base' A' F' hS2 k2 r1 r2 r3)
    have s45 : ∀ m : Nat, m < 2 ^ 31 → m = ix y → fw_M_scan_45 Q (nI i) y (nI m) A F := fun m hm e => by
      unfold fw_M_scan_45
      dsimp only [flI]
      rw [ei, s1]
      rw [← e] at fin
      refine ⟨hi4, fun z => ?_, fun z => ⟨hi4, ?_⟩⟩
      · have := (nI_leI (by omega) hm).mp z
        rw [show lf i - m = 0 by omega] at fin
        exact fin
      · have : ¬ lf i ≤ m := fun w => z (nI_le w hm)
        rw [pk_sub (by omega)]
        exact fin
    refine ⟨fun v => ?_, fun v => s45 0 (by decide) (ix_neg v).symm⟩
    obtain ⟨m, hm, rfl⟩ := nI_of (x := y) (Int32.not_lt.mpr v)
    exact s45 m hm (ix_nI hm).symm
  · rw [← (nI_eq (by omega) (by omega)).mp e, w] at g
    exact absurd g (by decide)
theorem f_crash {Q : Int32 → RA → RF → Prop} (hN : RN P l d c u F) (hJ : JN P l d c u) (hT : RT live base A) (hC : RC P l ic ml hm xo A F) (hl : l ≤ 513)
    (h : ∀ A', RT (fo (xd xo) ic c base (d - c)) base A' → (∀ n, c < n → n ≤ d → ic n = true → ocm xo n (fo (xd xo) ic c base (n - 1 - c)) (A' 20) (A' 21) (A' 22)) → (∀ n, 1 ≤ n → n ≤ d → A' 18 n = 1) → (∀ i, i < 4 → A' 27 i = if A 27 i = 1 then 4 else A 27 i) → (∀ k, (7 ≤ k ∧ k ≤ 17) ∨ k = 19 ∨ k = 26 ∨ (28 ≤ k ∧ k ≤ 31) → A' k = A k) → Q (nI d) A' (upd (upd F 15 (nI d)) 25 0)) : fw_M_crash Q A F := by
  obtain ⟨j1, j2, j3, j4, j5, j6⟩ := id hJ
  obtain ⟨n0, n1, n2, n3, n4⟩ := hN
  obtain ⟨t1, t2, t3, t4, t5, t6, t7, t8⟩ := hT
  unfold fw_M_crash
  dsimp only [fpF]
  rw [n2, upd_s]
  refine f_replay (by rw [upd_n (by decide)]; exact n0) (by rw [upd_n (by decide)]; exact n3) ⟨j1, j2⟩ (RC_ext hC (fun _ _ _ => rfl) (upd_n (by decide))) j3 j4 hl t3 t4 t6 t7 t8 (fun A1 hL => ?_)
  obtain ⟨a1, a2, a3, a4, a5, a6, a7, a8⟩ := hL
  generalize hF2 : upd (upd F 15 (nI d)) 25 0 = F2 at h ⊢
  have f15 : F2 15 = nI d := by rw [← hF2, upd_n (by decide), upd_s]
  have f23 : F2 23 = nI d := by rw [← hF2, upd_n (by decide), upd_n (by decide), n2]
  have lose : ∀ m i A3, i + m = 4 → (∀ k, k ≠ 18 → k ≠ 27 → A3 k = A1 k) → (∀ n, 1 ≤ n → n ≤ d → A3 18 n = 1) → (∀ j, j < i → A3 27 j = if A 27 j = 1 then 4 else A 27 j) → (∀ j, i ≤ j → j < 4 → A3 27 j = A 27 j) → fw_M_crash_46 Q (m + 1) (nI i) A3 F2 := by
    intro m
    induction m with
    | zero =>
      intro i A3 hi k1 k2 k3 k4
      unfold fw_M_crash_46
      rw [f23]
      have kA : ∀ k, (7 ≤ k ∧ k ≤ 17) ∨ k = 19 ∨ k = 26 ∨ (28 ≤ k ∧ k ≤ 31) ∨ k = 3 ∨ k = 4 → A3 k = A k := fun k hk => by rw [k1 k (by omega) (by omega), a8 k (by omega) (by omega) (by omega) (by omega) (by omega) (by omega) (by omega) (by omega)]
      refine ⟨fun _ => h A3 ⟨?_, ?_, ?_, ?_, ?_, ?_, fun j hj => ?_, ?_⟩ (fun n x1 x2 x3 => ?_) k2 (fun j hj => k3 j (by omega)) (fun k hk => kA k (by omega)), fun z => absurd (nI_le (a := 4) (by omega) (by omega)) z⟩
      · rw [k1 1 (by decide) (by decide), a1, show d + 1 - 1 - c = d - c by omega]
      · rw [k1 2 (by decide) (by decide), a2, show d + 1 - 1 - c = d - c by omega]
      · rw [kA 3 (by omega), t3]
      · rw [kA 4 (by omega), t4]
      · rw [k1 1 (by decide) (by decide)]; exact a3
      · rw [kA 3 (by omega)]; exact t6
      · rw [k1 1 (by decide) (by decide), k1 2 (by decide) (by decide), kA 3 (by omega), kA 4 (by omega), t3, t4]; exact a4 j hj
      · rw [k1 32 (by decide) (by decide)]; exact a5
      · rw [k1 20 (by decide) (by decide), k1 21 (by decide) (by decide), k1 22 (by decide) (by decide)]
        exact a6 n x1 (by omega) x3
    | succ m ih =>
      intro i A3 hi k1 k2 k3 k4
      unfold fw_M_crash_46 fw_M_crash_68
      dsimp only [flI, fsI]
      have ei : (nI i).toNatClampNeg = i := nI_clamp (by omega)
      have hi4 : vp_in (nI i) 4 := vp_in_nI (by omega) (by decide)
      rw [ei, k4 i (Nat.le_refl i) (by omega), nI_1]
      refine ⟨fun z => absurd ((nI_leI (a := 4) (by omega) (by omega)).mp z) (by omega), fun _ => ⟨hi4, fun z => ih (i + 1) A3 (by omega) k1 k2 (fun j hj => ?_) (fun j g1 g2 => k4 j (by omega) g2), fun z => ⟨hi4, ih (i + 1) _ (by omega) (fun k g1 g2 => by rw [upA_n g2]; exact k1 k g1 g2) (fun n g1 g2 => by rw [upA_n (by decide)]; exact k2 n g1 g2) (fun j hj => ?_) (fun j g1 g2 => ?_)⟩⟩⟩
      · by_cases e : j = i
        · subst e
          rw [if_neg z]
          exact k4 j (Nat.le_refl j) (by omega)
        · exact k3 j (by omega)
      · rw [upA_s]
        by_cases e : j = i
        · subst e
          rw [upd_s, if_pos z]
        · rw [upd_n e]
          exact k3 j (by omega)
      · rw [upA_s, upd_n (by omega)]
        exact k4 j (by omega) g2
  have key : ∀ m x A3, x + m = d + 1 → 1 ≤ x → (∀ k, k ≠ 18 → A3 k = A1 k) → (∀ n, 1 ≤ n → n < x → A3 18 n = 1) → fw_M_crash_23 Q (m + 1) (nI x) A3 F2 := by
    intro m
    induction m with
    | zero =>
      intro x A3 hx h1 k1 k2
      unfold fw_M_crash_23
      rw [f15]
      refine ⟨fun _ => ⟨5, lose 4 0 A3 (by omega) (fun k g1 _ => k1 k g1) (fun n g1 g2 => k2 n g1 (by omega)) (fun j hj => by omega) (fun j _ _ => ?_)⟩, fun z => absurd (nI_lt (by omega) (by omega)) z⟩
      rw [k1 27 (by decide), a8 27 (by decide) (by decide) (by decide) (by decide) (by decide) (by decide) (by decide) (by decide)]
    | succ m ih =>
      intro x A3 hx h1 k1 k2
      unfold fw_M_crash_23
      dsimp only [fsZ]
      have en : (nI x).toNatClampNeg = x := nI_clamp (by omega)
      rw [f15, en, nI_1]
      refine ⟨fun z => absurd z (nI_nlt (by omega) (by omega)), fun _ => ⟨vp_in_nI (show x < 514 by omega) (by decide), Or.inr rfl, ih (x + 1) _ (by omega) (by omega) (fun k g => by rw [upA_n g]; exact k1 k g) (fun n g1 g2 => ?_)⟩⟩
      rw [upA_s]
      by_cases e : n = x
      · subst e
        exact upd_s
      · rw [upd_n e]
        exact k2 n g1 (by omega)
  exact ⟨d + 1, key d 1 A1 (by omega) (Nat.le_refl 1) (fun _ _ => rfl) (fun n g1 g2 => by omega)⟩
/-! what only answers -/
theorem f_answer {Q : Int32 → RA → RF → Prop} {x : Int32} (hK : RK cs cn cf co cw A) (h0 : (∀ i, i < 4 → x ≠ nI i) → Q (-1) A F) (h1 : ∀ i, i < 4 → x = nI i → Q (cs i) A F) : fw_M_answer Q x A F := by
  unfold fw_M_answer fw_M_answer_18
  refine f_outN (n := 4) (by decide) (fun g => ⟨fun z => absurd z (by decide), fun _ => h0 g⟩) (fun i hi ex => ⟨fun _ => ?_, fun z => absurd rfl z⟩)
  subst ex
  dsimp only [flI]
  rw [nI_clamp (n := i) (by omega), (hK i hi).1]
  exact ⟨vp_in_nI (show i < 4 by omega) (by decide), h1 i hi rfl⟩
def ovl (cs cf : Int32) (co : Nat) (cw : Fn) (y : Int32) : Int64 := if cs = 2 then (if y = -1 then (nI co).toInt64 else if y < 0 ∨ ¬ y < nI co then 1000000000000 else (cw (ix y)).toInt64) else if cs = 3 ∧ y = -1 then cf.toInt64 else 1000000000000
theorem f_output {Q : Int64 → RA → RF → Prop} {x y : Int32} (hK : RK cs cn cf co cw A) (h0 : (∀ i, i < 4 → x ≠ nI i) → Q 1000000000000 A F) (h1 : ∀ i, i < 4 → x = nI i → Q (ovl (cs i) (cf i) (co i) (cw i) y) A F) : fw_M_output Q x y A F := by
  unfold fw_M_output fw_M_output_98 fw_M_output_40
  refine f_outN (n := 4) (by decide) (fun g => ⟨fun z => absurd z (by decide), fun _ => h0 g⟩) (fun i hi ex => ⟨fun _ => ?_, fun z => absurd rfl z⟩)
  subst ex
  have h1 := h1 i hi rfl
  obtain ⟨r1, r2, r3, r4, r5⟩ := hK i hi
  have hi4 : vp_in (nI i) 4 := vp_in_nI (show i < 4 by omega) (by decide)
  dsimp only [flI]
  rw [nI_clamp (n := i) (by omega), r1]
  unfold ovl at h1
  refine ⟨hi4, fun c3 => ⟨hi4, fun c2 => ?_, fun c2 => ?_⟩, fun c3 => ?_⟩
  · obtain ⟨s1, s2, s3⟩ := r4 c2
    rw [if_pos c2] at h1
    rw [s1]
    refine ⟨fun cy => ⟨hi4, ?_⟩, fun cy => ⟨hi4, ?_⟩⟩
    · rw [if_neg cy] at h1
      refine f_out (fun g => ⟨fun z => absurd z (by decide), fun _ => ?_⟩) (fun g => ⟨fun _ => ?_, fun z => absurd rfl z⟩)
      · rw [if_pos g] at h1
        exact h1
      · rw [if_neg g] at h1
        obtain ⟨j, hj, rfl⟩ := nI_of (x := y) (fun z => g (Or.inl z))
        have hjc : j < co i := (nI_ltI hj (by omega)).mp (Decidable.byContradiction fun z => g (Or.inr z))
        rw [nI_lit4, nI_add, nI_clamp (n := 4 * i + j) (by omega), s3 j hjc]
        rw [ix_nI hj] at h1
        exact ⟨vp_in_nI (show 4 * i + j < 16 by omega) (by decide), h1⟩
    · rw [if_pos cy] at h1
      exact h1
  · rw [if_neg c2, if_neg (fun z => c3 z.1)] at h1
    exact h1
  · rw [if_neg (by rw [c3]; decide)] at h1
    refine ⟨fun cy => ?_, fun cy => ⟨hi4, ?_⟩⟩
    · rw [if_neg (fun z => cy z.2)] at h1
      exact h1
    · rw [if_pos ⟨c3, cy⟩] at h1
      rw [r5 c3]
      exact h1
theorem f_row {Q : Int64 → RA → RF → Prop} {x : Int32} (hT : RT live base A) (h0 : (∀ i, i < 32 → x ≠ nI i) → Q 1000000000000 A F) (h1 : ∀ i, i < 32 → x = nI i → Q (vv live i) A F) : fw_M_row Q x A F := by
  unfold fw_M_row fw_M_row_18 fw_M_row_31
  refine f_outN (n := 32) (by decide) (fun g => ⟨fun _ => h0 g, fun z => absurd z (by decide)⟩) (fun i hi ex => ⟨fun z => absurd rfl z, fun _ => ?_⟩)
  subst ex
  have h1 := h1 i hi rfl
  have hi4 : vp_in (nI i) 40 := vp_in_nI (by omega) (by decide)
  dsimp only [flI]
  rw [nI_clamp (n := i) (by omega), hT.1, hT.2.1]
  unfold vv at h1
  refine ⟨hi4, fun z => ⟨hi4, ?_⟩, fun z => ?_⟩
  · rw [if_neg z] at h1
    exact h1
  · rw [if_pos z] at h1
    exact h1
theorem f_repl {Q : Int64 → RA → RF → Prop} {x : Int32} (hT : RT live base A) (h0 : (∀ i, i < 8 → x ≠ nI i) → Q 1000000000000 A F) (h1 : ∀ i, i < 8 → x = nI i → Q (live.2 (32 + i)).toInt64 A F) : fw_M_replicated Q x A F := by
  unfold fw_M_replicated fw_M_replicated_25
  refine f_outN (n := 8) (by decide) (fun g => ⟨fun z => absurd z (by decide), fun _ => h0 g⟩) (fun i hi ex => ⟨fun _ => ?_, fun z => absurd rfl z⟩)
  subst ex
  have h1 := h1 i hi rfl
  dsimp only [flI]
  rw [show (32 : Int32) + nI i = nI (32 + i) from nI_add 32 i, nI_clamp (n := 32 + i) (by omega), hT.2.1]
  exact ⟨vp_in_nI (show 32 + i < 40 by omega) (by decide), h1⟩
theorem f_rows {Q : Int32 → RA → RF → Prop} {x : Int32} (hF : F 0 = nI P) (hP : 1 ≤ P ∧ P ≤ 4) (hT : RT live base A) (h0 : (∀ i, i < P → x ≠ nI i) → Q (-1) A F) (h1 : ∀ i, i < P → x = nI i → Q (nI (cpn live.1 P i 32)) A F) : fw_M_rows Q x A F := by
  unfold fw_M_rows fw_M_rows_20
  rw [hF]
  refine f_outN (by omega) (fun g => ⟨fun z => absurd z (by decide), fun _ => h0 g⟩) (fun i hi ex => ⟨fun _ => ?_, fun z => absurd rfl z⟩)
  subst ex
  refine f_rowsOf hF hP hi ?_
  rw [hT.1]
  exact h1 i hi rfl
theorem f_wait {Q : Int32 → RA → RF → Prop} {x : Int32} (hN : RN P l d c u F) (hP : 1 ≤ P ∧ P ≤ 4) (hC : RC P l ic ml hm xo A F) (hG : RG l dn cm A) (hl : l ≤ 513) (h0 : (∀ i, i < P → x ≠ nI i) → Q (-1) A F) (h1 : ∀ i, i < P → x = nI i → Q (nI ((nu 0 l).filter (wt ic ml hm dn cm i)).length) A F) : fw_M_waiting Q x A F := by
  unfold fw_M_waiting
  rw [hN.1]
  refine f_outN (by omega) (fun g => ⟨fun z => absurd z (by decide), fun _ => h0 g⟩) (fun i hi ex => ⟨fun _ => ?_, fun z => absurd rfl z⟩)
  subst ex
  exact f_waiting hN hP hC hG hi hl (h1 i hi rfl)
end OPS3
