/-! the reference: what it reads of commands -/
theorem bt_lt (f : Nat → Bool) : bt f < 16 := by
  unfold bt
  split <;> split <;> split <;> split <;> omega
theorem bit_of (f : Nat → Bool) {i : Nat} (hi : i < 4) : (((nI (bt f)) >>> (nI i &&& 31)) &&& 1) = 0 ↔ f i = false := by
  have key : ∀ b0 b1 b2 b3 : Bool, ∀ i, i < 4 → ((((nI ((if b0 then 1 else 0) + (if b1 then 2 else 0) + (if b2 then 4 else 0) + (if b3 then 8 else 0))) >>> (nI i &&& 31)) &&& 1) = 0 ↔ (if i = 0 then b0 else if i = 1 then b1 else if i = 2 then b2 else b3) = false) := by decide +kernel
  have := key (f 0) (f 1) (f 2) (f 3) i hi
  unfold bt
  rw [this]
  rcases (by omega : i = 0 ∨ i = 1 ∨ i = 2 ∨ i = 3) with rfl | rfl | rfl | rfl <;> rfl
def cset (f : Nat → Bool) (i : Nat) : Nat → Bool := fun j => if j = i then true else f j
theorem bit_set (f : Nat → Bool) {i : Nat} (hi : i < 4) : nI (bt f) ||| (1 <<< (nI i &&& 31)) = nI (bt (cset f i)) := by
  have key : ∀ b0 b1 b2 b3 : Bool, ∀ i, i < 4 → (nI ((if b0 then 1 else 0) + (if b1 then 2 else 0) + (if b2 then 4 else 0) + (if b3 then 8 else 0))) ||| ((1 : Int32) <<< (nI i &&& 31)) = nI ((if (if 0 = i then true else b0) then 1 else 0) + (if (if 1 = i then true else b1) then 2 else 0) + (if (if 2 = i then true else b2) then 4 else 0) + (if (if 3 = i then true else b3) then 8 else 0)) := by decide +kernel
  exact key (f 0) (f 1) (f 2) (f 3) i hi
theorem bit_full (f : Nat → Bool) {P : Nat} (h1 : 1 ≤ P) (h4 : P ≤ 4) (hz : ∀ i, P ≤ i → f i = false) : nI (bt f) = ((1 <<< (nI P &&& 31)) - 1) ↔ ∀ i, i < P → f i = true := by
  have k1 : ∀ b0 : Bool, (nI ((if b0 then 1 else 0) + (if false then 2 else 0) + (if false then 4 else 0) + (if false then 8 else 0)) = (((1 : Int32) <<< (nI 1 &&& 31)) - 1) ↔ b0 = true) := by decide +kernel
  have k2 : ∀ b0 b1 : Bool, (nI ((if b0 then 1 else 0) + (if b1 then 2 else 0) + (if false then 4 else 0) + (if false then 8 else 0)) = (((1 : Int32) <<< (nI 2 &&& 31)) - 1) ↔ b0 = true ∧ b1 = true) := by decide +kernel
  have k3 : ∀ b0 b1 b2 : Bool, (nI ((if b0 then 1 else 0) + (if b1 then 2 else 0) + (if b2 then 4 else 0) + (if false then 8 else 0)) = (((1 : Int32) <<< (nI 3 &&& 31)) - 1) ↔ b0 = true ∧ b1 = true ∧ b2 = true) := by decide +kernel
  have k4 : ∀ b0 b1 b2 b3 : Bool, (nI ((if b0 then 1 else 0) + (if b1 then 2 else 0) + (if b2 then 4 else 0) + (if b3 then 8 else 0)) = (((1 : Int32) <<< (nI 4 &&& 31)) - 1) ↔ b0 = true ∧ b1 = true ∧ b2 = true ∧ b3 = true) := by decide +kernel
  have this : nI (bt f) = (((1 : Int32) <<< (nI P &&& 31)) - 1) ↔ (f 0 = true ∧ (1 < P → f 1 = true) ∧ (2 < P → f 2 = true) ∧ (3 < P → f 3 = true)) := by
    unfold bt
    rcases (by omega : P = 1 ∨ P = 2 ∨ P = 3 ∨ P = 4) with rfl | rfl | rfl | rfl
    · rw [hz 1 (by omega), hz 2 (by omega), hz 3 (by omega), k1]
      simp
    · rw [hz 2 (by omega), hz 3 (by omega), k2]
      simp
    · rw [hz 3 (by omega), k3]
      simp
    · rw [k4]
      simp
  rw [this]
  refine ⟨fun ⟨a, b, c, d⟩ i hi => ?_, fun h => ⟨h 0 (by omega), h 1, h 2, h 3⟩⟩
  rcases (by omega : i = 0 ∨ i = 1 ∨ i = 2 ∨ i = 3) with rfl | rfl | rfl | rfl
  · exact a
  · exact b hi
  · exact c hi
  · exact d hi
theorem bit_nz (f : Nat → Bool) {P : Nat} (h4 : P ≤ 4) (hz : ∀ i, P ≤ i → f i = false) : nI (bt f) = 0 ↔ ∀ i, i < P → f i = false := by
  have key : ∀ b0 b1 b2 b3 : Bool, (nI ((if b0 then 1 else 0) + (if b1 then 2 else 0) + (if b2 then 4 else 0) + (if b3 then 8 else 0)) = 0 ↔ (b0 = false ∧ b1 = false ∧ b2 = false ∧ b3 = false)) := by decide +kernel
  unfold bt
  rw [key]
  refine ⟨fun ⟨a, b, c, d⟩ i hi => ?_, fun h => ?_⟩
  · rcases (by omega : i = 0 ∨ i = 1 ∨ i = 2 ∨ i = 3) with rfl | rfl | rfl | rfl <;> assumption
  · have : ∀ i, f i = false := fun i => by
      by_cases hi : i < P
      · exact h i hi
      · exact hz i (by omega)
    exact ⟨this 0, this 1, this 2, this 3⟩
theorem b2_0 {b : Bool} : b2 b = 0 ↔ b = false := by cases b <;> decide
theorem b2_1 {b : Bool} : b2 b = 1 ↔ b = true := by cases b <;> decide
theorem b2_01 {b : Bool} : b2 b = 0 ∨ b2 b = 1 := by cases b <;> decide
section REF
variable {P l d c u : Nat} {ic ml : Nat → Bool} {hm : Nat → Nat} {xo : Nat → DB → Oc} {dn : Nat → Bool} {cm : Nat → Nat → Bool} {A : RA} {F : RF}
theorem f_waits {Q : Int32 → RA → RF → Prop} {i n : Nat} (hF : F 0 = nI P) (hP : 1 ≤ P ∧ P ≤ 4) (hC : RC P l ic ml hm xo A F) (hG : RG l dn cm A) (hi : i < P) (h1 : 1 ≤ n) (hn : n ≤ l) (hl : l ≤ 513) (k : Q (b2 (wt ic ml hm dn cm i n)) A F) : fw_M_waits Q (nI i) (nI n) A F := by
  have en : (nI n).toNatClampNeg = n := nI_clamp (by omega)
  have hin : vp_in (nI n) 514 := vp_in_nI (by omega) (by decide)
  obtain ⟨g1, g2⟩ := hG n h1 hn
  unfold fw_M_waits fw_M_waits_73 fw_M_waits_69 fw_M_waits_74 fw_M_waits_35 fw_M_waits_36
  dsimp only [flI]
  rw [en, g1, g2]
  refine ⟨hin, ?_⟩
  unfold wt at k
  cases hic : ic n with
  | false =>
    rw [(hC n h1 hn).1 hic]
    rw [hic] at k
    refine ⟨fun c => absurd c (by decide), fun _ => ⟨hin, fun c => ⟨Or.inl rfl, ?_⟩, fun c => ⟨hin, fun c2 => ⟨Or.inl rfl, ?_⟩, fun c2 => ⟨Or.inr rfl, ?_⟩⟩⟩⟩
    · have hd : dn n = true := by
        cases h : dn n with
        | false => exact absurd (b2_0.mpr h) c
        | true => rfl
      rw [hd] at k
      exact k
    · rw [b2_0.mp c] at k
      have : cm n i = true := by
        cases h : cm n i with
        | false => exact absurd ((bit_of _ (by omega)).mpr h) c2
        | true => rfl
      rw [this] at k
      exact k
    · rw [b2_0.mp c, (bit_of _ (by omega)).mp c2] at k
      exact k
  | true =>
    obtain ⟨p, sn, e1, e2, e3, e4, e5, -⟩ := (hC n h1 hn).2 hic
    rw [hic] at k
    have ep : (nI p).toNatClampNeg = p := nI_clamp (by have := e2.1.1; omega)
    rw [e1, ep]
    refine ⟨fun _ => ⟨hin, fun c => ⟨Or.inl rfl, ?_⟩, fun c => ⟨hin, vp_in_nI (show p < 7 by have := e2.1.1; omega) (by decide), fun c2 => ⟨Or.inr rfl, ?_⟩, fun c2 => ?_⟩⟩, fun c => absurd (nI_pos' (by have := e2.1.1; omega)) c⟩
    · have hd : dn n = true := by
        cases h : dn n with
        | false => exact absurd (b2_0.mpr h) c
        | true => rfl
      rw [hd] at k
      exact k
    · have : ml n = true := by
        cases h : ml n with
        | false => exact absurd (e3.mpr h) c2
        | true => rfl
      rw [b2_0.mp c, this] at k
      exact k
    · refine f_part (by omega) (by rw [hF]; exact nI_ne0 (by omega) (by omega)) ?_
      rw [hF, e4]
      rw [b2_0.mp c, e3.mp c2] at k
      refine ⟨fun c3 => ⟨Or.inl rfl, ?_⟩, fun c3 => ⟨Or.inr rfl, ?_⟩⟩
      · rw [decide_eq_false (fun z : hm n = i => c3 (by rw [z]))] at k
        exact k
      · rw [decide_eq_true ((nI_eq (by omega) (by omega)).mp c3)] at k
        exact k
/-- how many -/
theorem f_logged {Q : Int32 → RA → RF → Prop} (hN : RN P l d c u F) (hC : RC P l ic ml hm xo A F) (hcl : c ≤ l) (hl : l ≤ 513) (k : Q (nI ((nu c l).filter ic).length) A F) : fw_M_logged Q A F := by
  have key : ∀ m x y, x + m = l + 1 → 1 ≤ x → x ≤ l + 1 → y + m ≤ 2000 → Q (nI (y + ((List.range' x m).filter ic).length)) A F → fw_M_logged_9 Q (m + 1) (nI y) (nI x) A F := by
    intro m
    induction m with
    | zero =>
      intro x y hx h1 h2 hy kk
      unfold fw_M_logged_9
      rw [hN.2.1]
      exact ⟨fun _ => kk, fun c => absurd (nI_lt (by omega) (by omega)) c⟩
    | succ m ih =>
      intro x y hx h1 h2 hy kk
      have en : (nI x).toNatClampNeg = x := nI_clamp (by omega)
      unfold fw_M_logged_9 fw_M_logged_29
      dsimp only [flI]
      rw [hN.2.1, en, nI_1]
      rw [List.range'_succ, List.filter_cons] at kk
      refine ⟨fun c => absurd c (nI_nlt (by omega) (by omega)), fun _ => ⟨vp_in_nI (show x < 514 by omega) (by decide), ?_⟩⟩
      cases hic : ic x with
      | false =>
        rw [(hC x h1 (by omega)).1 hic]
        rw [hic] at kk
        exact ⟨fun _ => ih _ _ (by omega) (by omega) (by omega) (by omega) kk, fun c => absurd (by decide : (-1 : Int32) < 0) c⟩
      | true =>
        obtain ⟨p, sn, e1, e2, -⟩ := (hC x h1 (by omega)).2 hic
        rw [e1, nI_1]
        rw [hic] at kk
        refine ⟨fun c => absurd c (nI_pos (by have := e2.1.1; omega)), fun _ => ih _ _ (by omega) (by omega) (by omega) (by omega) ?_⟩
        simp only [List.length_cons, reduceIte] at kk
        rw [show y + 1 + ((List.range' (x + 1) m).filter ic).length = y + (((List.range' (x + 1) m).filter ic).length + 1) by omega]
        exact kk
  unfold fw_M_logged
  refine ⟨l - c + 1, ?_⟩
  rw [hN.2.2.2.1, nI_1]
  exact key (l - c) (c + 1) 0 (by omega) (by omega) (by omega) (by omega) (by rw [Nat.zero_add]; exact k)
theorem f_waiting {Q : Int32 → RA → RF → Prop} {i : Nat} (hN : RN P l d c u F) (hP : 1 ≤ P ∧ P ≤ 4) (hC : RC P l ic ml hm xo A F) (hG : RG l dn cm A) (hi : i < P) (hl : l ≤ 513) (k : Q (nI ((nu 0 l).filter (wt ic ml hm dn cm i)).length) A F) : ∃ n, fw_M_waiting_17 Q n (nI i) 0 1 A F := by
  have key : ∀ m x y, x + m = l + 1 → 1 ≤ x → x ≤ l + 1 → y + m ≤ 2000 → Q (nI (y + ((List.range' x m).filter (wt ic ml hm dn cm i)).length)) A F → fw_M_waiting_17 Q (m + 1) (nI i) (nI y) (nI x) A F := by
    intro m
    induction m with
    | zero =>
      intro x y hx h1 h2 hy kk
      unfold fw_M_waiting_17
      rw [hN.2.1]
      exact ⟨fun _ => kk, fun c => absurd (nI_lt (by omega) (by omega)) c⟩
    | succ m ih =>
      intro x y hx h1 h2 hy kk
      unfold fw_M_waiting_17 fw_M_waiting_37
      rw [hN.2.1, nI_1]
      rw [List.range'_succ, List.filter_cons] at kk
      refine ⟨fun c => absurd c (nI_nlt (by omega) (by omega)), fun _ => f_waits hN.1 hP hC hG hi h1 (by omega) hl ?_⟩
      cases hw : wt ic ml hm dn cm i x with
      | false =>
        rw [hw] at kk
        exact ⟨fun _ => ih _ _ (by omega) (by omega) (by omega) (by omega) kk, fun c => absurd rfl c⟩
      | true =>
        rw [hw] at kk
        refine ⟨fun c => absurd c (by decide), fun _ => ?_⟩
        rw [nI_1]
        refine ih _ _ (by omega) (by omega) (by omega) (by omega) ?_
        simp only [List.length_cons, reduceIte] at kk
        rw [show y + 1 + ((List.range' (x + 1) m).filter (wt ic ml hm dn cm i)).length = y + (((List.range' (x + 1) m).filter (wt ic ml hm dn cm i)).length + 1) by omega]
        exact kk
  exact ⟨l + 1, key l 1 0 (by omega) (by omega) (by omega) (by omega) (by rw [Nat.zero_add]; exact k)⟩
/-- the first that waits -/
theorem f_first {Q : Int32 → RA → RF → Prop} {i : Nat} (hN : RN P l d c u F) (hP : 1 ≤ P ∧ P ≤ 4) (hC : RC P l ic ml hm xo A F) (hG : RG l dn cm A) (hi : i < P) (hl : l ≤ 513) (h0 : (∀ n, 1 ≤ n → n ≤ l → wt ic ml hm dn cm i n = false) → fw_M_step_38 Q (nI i) (nI (l + 1)) A F) (h1 : ∀ n, 1 ≤ n → n ≤ l → wt ic ml hm dn cm i n = true → (∀ m, 1 ≤ m → m < n → wt ic ml hm dn cm i m = false) → fw_M_step_38 Q (nI i) (nI n) A F) : ∃ n, fw_M_step_15 Q n (nI i) 1 A F := by
  have key : ∀ m x, x + m = l + 1 → 1 ≤ x → (∀ j, 1 ≤ j → j < x → wt ic ml hm dn cm i j = false) → fw_M_step_15 Q (m + 1) (nI i) (nI x) A F := by
    intro m
    induction m with
    | zero =>
      intro x hx hx1 hb
      unfold fw_M_step_15
      rw [hN.2.1]
      refine ⟨fun _ => ?_, fun c => absurd (nI_lt (by omega) (by omega)) c⟩
      rw [show x = l + 1 by omega]
      exact h0 (fun n a b => hb n a (by omega))
    | succ m ih =>
      intro x hx hx1 hb
      unfold fw_M_step_15
      rw [hN.2.1, nI_1]
      refine ⟨fun c => absurd c (nI_nlt (by omega) (by omega)), fun _ => f_waits hN.1 hP hC hG hi hx1 (by omega) hl ?_⟩
      cases hw : wt ic ml hm dn cm i x with
      | false =>
        refine ⟨fun c => absurd rfl c, fun _ => ih _ (by omega) (by omega) (fun j a b => ?_)⟩
        by_cases e : j = x
        · rw [e]; exact hw
        · exact hb j a (by omega)
      | true => exact ⟨fun _ => h1 x hx1 (by omega) hw (fun m a b => hb m a b), fun c => absurd c (by decide)⟩
  exact ⟨l + 1, key l 1 (by omega) (by omega) (fun j a b => by omega)⟩
/-- the number that sites stall at -/
theorem f_stalledAt {Q : Int32 → RA → RF → Prop} (hN : RN P l d c u F) (hP : 1 ≤ P ∧ P ≤ 4) (hz : ∀ n i, P ≤ i → cm n i = false) (hC : RC P l ic ml hm xo A F) (hG : RG l dn cm A) (hl : l ≤ 513) (h0 : (∀ n, 1 ≤ n → n ≤ l → ¬ (ic n = true ∧ ml n = true ∧ dn n = false ∧ ∃ i, i < P ∧ cm n i = true)) → Q 0 A F) (h1 : ∀ n, 1 ≤ n → n ≤ l → ic n = true ∧ ml n = true ∧ dn n = false ∧ (∃ i, i < P ∧ cm n i = true) → Q (nI n) A F) : fw_M_stalledAt Q A F := by
  have key : ∀ m x, x + m = l + 1 → 1 ≤ x → (∀ j, 1 ≤ j → j < x → ¬ (ic j = true ∧ ml j = true ∧ dn j = false ∧ ∃ i, i < P ∧ cm j i = true)) → fw_M_stalledAt_2 Q (m + 1) (nI x) A F := by
    intro m
    induction m with
    | zero =>
      intro x hx hx1 hb
      unfold fw_M_stalledAt_2
      rw [hN.2.1]
      exact ⟨fun _ => h0 (fun n a b => hb n a (by omega)), fun c => absurd (nI_lt (by omega) (by omega)) c⟩
    | succ m ih =>
      intro x hx hx1 hb
      have en : (nI x).toNatClampNeg = x := nI_clamp (by omega)
      have hin : vp_in (nI x) 514 := vp_in_nI (by omega) (by decide)
      obtain ⟨g1, g2⟩ := hG x hx1 (by omega)
      have nx : ¬ (ic x = true ∧ ml x = true ∧ dn x = false ∧ ∃ i, i < P ∧ cm x i = true) → fw_M_stalledAt_2 Q (m + 1) (nI (x + 1)) A F := fun g => ih _ (by omega) (by omega) (fun j a b => by
        by_cases e : j = x
        · rw [e]; exact g
        · exact hb j a (by omega))
      unfold fw_M_stalledAt_2 fw_M_stalledAt_53
      dsimp only [flI]
      rw [hN.2.1, nI_1, en]
      refine ⟨fun c => absurd c (nI_nlt (by omega) (by omega)), fun _ => ⟨hin, ?_⟩⟩
      cases hic : ic x with
      | false =>
        rw [(hC x hx1 (by omega)).1 hic]
        exact ⟨fun _ => nx (fun z => by rw [hic] at z; exact absurd z.1 (by decide)), fun c => absurd (by decide : (-1 : Int32) < 0) c⟩
      | true =>
        obtain ⟨p, sn, e1, e2, e3, -⟩ := (hC x hx1 (by omega)).2 hic
        have ep : (nI p).toNatClampNeg = p := nI_clamp (by have := e2.1.1; omega)
        rw [e1, ep, g1, g2]
        refine ⟨fun c => absurd c (nI_pos (by have := e2.1.1; omega)), fun _ => ⟨hin, vp_in_nI (show p < 7 by have := e2.1.1; omega) (by decide), fun c => nx (fun z => ?_), fun c => ⟨hin, fun c2 => nx (fun z => c2 (b2_0.mpr z.2.2.1)), fun c2 => ⟨hin, fun c3 => nx (fun z => ?_), fun c3 => h1 x hx1 (by omega) ⟨hic, ?_, b2_0.mp c2, ?_⟩⟩⟩⟩⟩
        · rw [e3.mp c] at z
          exact absurd z.2.1 (by decide)
        · obtain ⟨i, hi, z⟩ := z.2.2.2
          rw [(bit_nz _ hP.2 (hz x)).mp c3 i hi] at z
          exact absurd z (by decide)
        · cases h : ml x with
          | false => exact absurd (e3.mpr h) c
          | true => rfl
        · refine Decidable.byContradiction fun z => c3 ((bit_nz _ hP.2 (hz x)).mpr (fun i hi => ?_))
          cases h : cm x i with
          | false => rfl
          | true => exact absurd ⟨i, hi, h⟩ z
  exact ⟨l + 1, key l 1 (by omega) (by omega) (fun j a b => by omega)⟩
end REF
