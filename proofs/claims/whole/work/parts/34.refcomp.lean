section CMP
variable {P l d c u : Nat} {ic ml : Nat → Bool} {hm : Nat → Nat} {xo : Nat → DB → Oc} {dn : Nat → Bool} {cm : Nat → Nat → Bool} {A : RA} {F : RF} {lf : Nat → Nat} {cn : Nat → Nat} {live base : DB}
/-- what completeIfDone leaves, when it completes -/
def CR (P l d c u : Nat) (ic dn : Nat → Bool) (xo : Nat → DB → Oc) (cn : Nat → Nat) (base base' : DB) (A A' : RA) : Prop :=
  base' = fo (xd xo) ic c base (u - 1 - c) ∧ RT (fo (xd xo) (cpl dn ic) u base' (l - u)) base' A' ∧
  (∀ n, c < n → n < u → ic n = true → ocm xo n (fo (xd xo) ic c base (n - 1 - c)) (A' 20) (A' 21) (A' 22)) ∧
  (∀ n, u < n → n ≤ l → cpl dn ic n = true → ocm xo n (fo (xd xo) (cpl dn ic) u base' (n - 1 - u)) (A' 20) (A' 21) (A' 22)) ∧
  (∃ A3 : RA, A3 27 = A 27 ∧ A3 29 = A 29 ∧ A3 30 = A 30 ∧ A3 31 = A 31 ∧ A3 20 = A' 20 ∧ A3 21 = A' 21 ∧ A3 22 = A' 22 ∧ ∀ c, c < 4 → TC (max d u) dn cn A3 A' c) ∧
  ∀ k, (7 ≤ k ∧ k ≤ 19) ∨ k = 26 ∨ k = 28 → A' k = A k
theorem f_comp {Q : RA → RF → Prop} (hN : RN P l d c u F) (hJ : JN P l d c u) (hT : RT live base A) (hC : RC P l ic ml hm xo A F) (hG : RG l dn cm A) (hS : RS lf A) (hl : l ≤ 513) (hz : ∀ n i, P ≤ i → cm n i = false) (hdu : u ≠ 0 → ic u = false) (hk : ∀ c, c < 4 → A 28 c = nI (cn c) ∧ cn c ≤ 513) (hdn : ∀ c, c < 4 → A 27 c = 1 → 1 ≤ cn c ∧ cn c ≤ l)
    (h0 : ¬ (u ≠ 0 ∧ ∀ i, i < P → cm u i = true ∧ lf i = 0) → Q A F)
    (h1 : (u ≠ 0 ∧ ∀ i, i < P → cm u i = true ∧ lf i = 0) → ∀ base' A' F', CR P l d c u ic dn xo cn base base' A A' → RN P l (max d u) u 0 F' → F' 14 = F 14 → Q A' F') : fw_M_completeIfDone Q A F := by
  obtain ⟨n0, n1, n2, n3, n4⟩ := hN
  obtain ⟨j1, j2, j3, j4, j5, j6⟩ := hJ
  obtain ⟨t1, t2, t3, t4, t5, t6, t7, t8⟩ := hT
  unfold fw_M_completeIfDone fw_M_completeIfDone_27
  dsimp only [flI]
  refine ⟨fun z => h0 (fun y => y.1 ?_), fun z => ?_⟩
  · rw [n4] at z
    exact (nI_eq (b := 0) (by omega) (by omega)).mp z
  have hu : u ≠ 0 := fun y => z (by rw [n4, y]; rfl)
  have hcu : c < u := j6.resolve_left hu
  have eu : (nI u).toNatClampNeg = u := nI_clamp (by omega)
  obtain ⟨g1, g2⟩ := hG u (by omega) j5
  rw [n4, eu, n0, g2]
  refine ⟨vp_in_nI (show u < 514 by omega) (by decide), fun y => ?_, fun y => h0 (fun x => y ((bit_full _ j1 j2 (hz u)).mpr (fun i hi => (x.2 i hi).1)))⟩
  have hfull := (bit_full _ j1 j2 (hz u)).mp y
  -- the rest, once all rows are copied
  have fin : (∀ i, i < P → lf i = 0) → fw_M_replay (fun A61 F61 => ∃ n, fw_M_completeIfDone_66 Q n 0 A61 F61) (F 25 - 1) A F := by
    intro hlf
    have h1 := h1 ⟨hu, fun i hi => ⟨hfull i hi, hlf i hi⟩⟩
    rw [n4, show nI u - 1 = nI (u - 1) from pk_sub (b := 1) (by omega)]
    refine f_replay n0 n3 ⟨j1, j2⟩ hC (by omega) (by omega) hl t3 t4 t6 t7 t8 (fun A1 hL => ?_)
    rw [show u - 1 + 1 = u by omega] at hL
    obtain ⟨a1, a2, a3, a4, a5, a6, a7, a8⟩ := hL
    refine f_take (fun j _ => a3 j) ?_
    have e3 : cpf (A1 3) (A1 1) 40 = A1 1 := cpf_eq (fun _ _ => rfl) (fun j hj => by rw [a8 3 (by decide) (by decide) (by decide) (by decide) (by decide) (by decide) (by decide) (by decide), t3]; exact (a4 j hj).1.symm)
    have e4 : cpf (A1 4) (A1 2) 40 = A1 2 := cpf_eq (fun _ _ => rfl) (fun j hj => by rw [a8 4 (by decide) (by decide) (by decide) (by decide) (by decide) (by decide) (by decide) (by decide), t4]; exact (a4 j hj).2.symm)
    rw [e3, e4]
    generalize hA2 : upA (upA A1 3 (A1 1)) 4 (A1 2) = A2
    have m3 : A2 3 = A1 1 := by rw [← hA2, upA_n (by decide), upA_s]
    have m4 : A2 4 = A1 2 := by rw [← hA2, upA_s]
    have mk : ∀ k, k ≠ 3 → k ≠ 4 → A2 k = A1 k := fun k x1 x2 => by rw [← hA2, upA_n x2, upA_n x1]
    have mA : ∀ k, (7 ≤ k ∧ k ≤ 19) ∨ (26 ≤ k ∧ k ≤ 31) → A2 k = A k := fun k hk => by rw [mk k (by omega) (by omega), a8 k (by omega) (by omega) (by omega) (by omega) (by omega) (by omega) (by omega) (by omega)]
    generalize hbase : fo (xd xo) ic c base (u - 1 - c) = base' at a1 a2
    have loop : ∀ F2 : RF, RN P l (max d u) u 0 F2 → F2 14 = F 14 → fw_M_completeIfDone_134 Q 40 A2 F2 := by
      intro F2 r0 r14
      obtain ⟨s0, s1, s2, s3, s4⟩ := r0
      have hC2 : RC P l ic ml hm xo A2 F2 := RC_ext hC (fun k x1 x2 => mA k (by omega)) (by rw [s0, n0])
      have key : ∀ t x A3, x + t = l + 1 → u < x → LI xo (cpl dn ic) u base' A2 A3 x → fw_M_completeIfDone_141 Q (t + 1) (nI x) A3 F2 := by
        intro t
        induction t with
        | zero =>
          intro x A3 hx hux hL
          obtain ⟨b1, b2, b3, b4, b5, b6, b7, b8⟩ := hL
          have kA : ∀ k, (7 ≤ k ∧ k ≤ 19) ∨ (26 ≤ k ∧ k ≤ 31) → A3 k = A k := fun k hk => by rw [b8 k (by omega) (by omega) (by omega) (by omega) (by omega) (by omega) (by omega) (by omega), mA k hk]
          unfold fw_M_completeIfDone_141
          rw [s1]
          refine ⟨fun _ => f_tell (d := max d u) (dn := dn) (cn := cn) s2 (by omega) (fun q hq => by rw [kA 28 (by omega)]; exact hk q hq) (fun q hq hp => ?_) (fun A4 w1 w2 => h1 base' A4 F2 ⟨hbase.symm, ⟨?_, ?_, ?_, ?_, ?_, ?_, fun j hj => ?_, ?_⟩, fun n x1 x2 x3 => ?_, fun n x1 x2 x3 => ?_, ⟨A3, kA 27 (by omega), kA 29 (by omega), kA 30 (by omega), kA 31 (by omega), (w1 20 (by decide) (by decide) (by decide) (by decide)).symm, (w1 21 (by decide) (by decide) (by decide) (by decide)).symm, (w1 22 (by decide) (by decide) (by decide) (by decide)).symm, w2⟩, fun k hk => by rw [w1 k (by omega) (by omega) (by omega) (by omega), kA k (by omega)]⟩ ⟨s0, s1, s2, s3, s4⟩ r14), fun z => absurd (nI_lt (by omega) (by omega)) z⟩
          · rw [kA 27 (by omega)] at hp
            obtain ⟨y1, y2⟩ := hdn q hq hp
            rw [kA 18 (by omega)]
            exact (hG _ y1 y2).1
          · rw [w1 1 (by decide) (by decide) (by decide) (by decide), b1, show x - 1 - u = l - u by omega]
          · rw [w1 2 (by decide) (by decide) (by decide) (by decide), b2, show x - 1 - u = l - u by omega]
          · rw [w1 3 (by decide) (by decide) (by decide) (by decide), b8 3 (by decide) (by decide) (by decide) (by decide) (by decide) (by decide) (by decide) (by decide), m3, a1]
          · rw [w1 4 (by decide) (by decide) (by decide) (by decide), b8 4 (by decide) (by decide) (by decide) (by decide) (by decide) (by decide) (by decide) (by decide), m4, a2]
          · rw [w1 1 (by decide) (by decide) (by decide) (by decide)]
            exact b3
          · rw [w1 3 (by decide) (by decide) (by decide) (by decide), b8 3 (by decide) (by decide) (by decide) (by decide) (by decide) (by decide) (by decide) (by decide), m3]
            exact a3
          · rw [w1 1 (by decide) (by decide) (by decide) (by decide), w1 2 (by decide) (by decide) (by decide) (by decide), w1 3 (by decide) (by decide) (by decide) (by decide), w1 4 (by decide) (by decide) (by decide) (by decide), b8 3 (by decide) (by decide) (by decide) (by decide) (by decide) (by decide) (by decide) (by decide), b8 4 (by decide) (by decide) (by decide) (by decide) (by decide) (by decide) (by decide) (by decide), m3, m4, a1, a2]
            exact b4 j hj
          · rw [w1 32 (by decide) (by decide) (by decide) (by decide)]
            exact b5
          · rw [w1 20 (by decide) (by decide) (by decide) (by decide), w1 21 (by decide) (by decide) (by decide) (by decide), w1 22 (by decide) (by decide) (by decide) (by decide)]
            obtain ⟨o1, o2, o3⟩ := a6 n x1 x2 x3
            obtain ⟨v1, v2, v3⟩ := b7 n (fun z => by omega)
            rw [mk 20 (by decide) (by decide)] at v1
            rw [mk 21 (by decide) (by decide)] at v2
            rw [mk 22 (by decide) (by decide)] at v3
            refine ⟨v1.trans o1, v2.trans o2, fun k hk => ?_⟩
            rw [v2] at hk
            have h4 : k < 4 := by
              obtain ⟨j, hj, ej⟩ := RC_o hC n (by omega) (by omega) x3 (fo (xd xo) ic c base (n - 1 - c))
              rw [o2, ej, ix_nI (by omega)] at hk
              omega
            rw [v3 k h4]
            exact o3 k hk
          · rw [w1 20 (by decide) (by decide) (by decide) (by decide), w1 21 (by decide) (by decide) (by decide) (by decide), w1 22 (by decide) (by decide) (by decide) (by decide)]
            exact b6 n x1 (by omega) x3
        | succ t ih =>
          intro x A3 hx hux hL
          have en : (nI x).toNatClampNeg = x := nI_clamp (by omega)
          have kA : ∀ k, (7 ≤ k ∧ k ≤ 19) → A3 k = A2 k := fun k hk => hL.2.2.2.2.2.2.2 k (by omega) (by omega) (by omega) (by omega) (by omega) (by omega) (by omega) (by omega)
          have hC3 : RC P l ic ml hm xo A3 F2 := RC_ext hC2 (fun k x1 x2 => kA k (by omega)) rfl
          have e18 : A3 18 x = b2 (dn x) := by rw [kA 18 (by omega), mA 18 (by omega)]; exact (hG x (by omega) (by omega)).1
          unfold fw_M_completeIfDone_141 fw_M_completeIfDone_172
          dsimp only [flI]
          rw [s1, en, nI_1, e18]
          refine ⟨fun z => absurd z (nI_nlt (by omega) (by omega)), fun _ => ⟨vp_in_nI (show x < 514 by omega) (by decide), ?_⟩⟩
          have skip : cpl dn ic x = false → fw_M_completeIfDone_141 Q (t + 1) (nI (x + 1)) A3 F2 := fun z => ih (x + 1) A3 (by omega) (by omega) (LI_skip hL hux z)
          cases hic : ic x with
          | false =>
            rw [(hC3 x (by omega) (by omega)).1 hic]
            exact ⟨fun _ => skip (by unfold cpl; rw [hic]; simp), fun z => absurd (by decide : (-1 : Int32) < 0) z⟩
          | true =>
            obtain ⟨p, sn, e1, e2, -⟩ := (hC3 x (by omega) (by omega)).2 hic
            rw [e1]
            refine ⟨fun z => absurd z (nI_pos (by have := e2.1.1; omega)), fun _ => ⟨vp_in_nI (show x < 514 by omega) (by decide), fun z => skip (by unfold cpl; rw [b2_0.mp z]; rfl), fun z => ?_⟩⟩
            have hcp : cpl dn ic x = true := by
              unfold cpl
              rw [hic]
              cases h : dn x with
              | false => exact absurd (b2_0.mpr h) z
              | true => rfl
            exact f_run s0 ⟨j1, j2⟩ hC3 (by omega) (by omega) hl hic hL.2.2.1 hL.2.2.2.2.1 (fun A4 hX => ih (x + 1) A4 (by omega) (by omega) (LI_run (fun n g1 g2 g3 s => RC_o hC n (by omega) (by omega) (by unfold cpl at g3; simp at g3; exact g3.2) s) hL hux hcp hX))
      unfold fw_M_completeIfDone_134
      rw [s3, nI_1]
      refine ⟨l - u + 1, key (l - u) (u + 1) A2 (by omega) (by omega) ⟨?_, ?_, ?_, fun j hj => ?_, ?_, fun n x1 x2 x3 => by omega, fun n x => ⟨rfl, rfl, fun _ _ => rfl⟩, fun k _ _ _ _ _ _ _ _ => rfl⟩⟩
      · rw [show u + 1 - 1 - u = 0 by omega, mk 1 (by decide) (by decide)]
        exact a1
      · rw [show u + 1 - 1 - u = 0 by omega, mk 2 (by decide) (by decide)]
        exact a2
      · rw [mk 1 (by decide) (by decide)]
        exact a3
      · rw [mk 1 (by decide) (by decide), mk 2 (by decide) (by decide), a1, a2]
        exact ⟨rfl, rfl⟩
      · rw [mk 32 (by decide) (by decide)]
        exact a5
    dsimp only [fpF]
    have k24 : upd (upd F 24 (F 25)) 25 0 24 = nI u := by rw [upd_n (by decide), upd_s, n4]
    have k23 : upd (upd F 24 (F 25)) 25 0 23 = nI d := by rw [upd_n (by decide), upd_n (by decide), n2]
    rw [k24, k23]
    refine ⟨fun w => loop _ ⟨?_, ?_, ?_, ?_, ?_⟩ ?_, fun w => loop _ ⟨?_, ?_, ?_, ?_, ?_⟩ ?_⟩
    · rw [upd_n (by decide), upd_n (by decide), n0]
    · rw [upd_n (by decide), upd_n (by decide), n1]
    · rw [k23, Nat.max_eq_left ((nI_leI (by omega) (by omega)).mp w)]
    · rw [k24]
    · rw [upd_s]; rfl
    · rw [upd_n (by decide), upd_n (by decide)]
    · rw [upd_n (by decide), upd_n (by decide), upd_n (by decide), n0]
    · rw [upd_n (by decide), upd_n (by decide), upd_n (by decide), n1]
    · rw [upd_s, Nat.max_eq_right (by
        rcases Nat.lt_or_ge d u with g | g
        · omega
        · exact absurd (nI_le g (by omega)) w)]
    · rw [upd_n (by decide), k24]
    · rw [upd_n (by decide), upd_s]; rfl
    · rw [upd_n (by decide), upd_n (by decide), upd_n (by decide)]
  have key : ∀ m i, i + m = P → (∀ j, j < i → lf j = 0) → fw_M_completeIfDone_30 Q (m + 1) (nI i) A F := by
    intro m
    induction m with
    | zero =>
      intro i hi hb
      unfold fw_M_completeIfDone_30
      rw [n0]
      exact ⟨fun _ => fin (fun j hj => hb j (by omega)), fun z => absurd (nI_le (by omega) (by omega)) z⟩
    | succ m ih =>
      intro i hi hb
      unfold fw_M_completeIfDone_30
      dsimp only [flI]
      obtain ⟨q1, q2⟩ := hS i (by omega)
      rw [n0, nI_clamp (n := i) (by omega), q1, nI_1]
      refine ⟨fun z => absurd ((nI_leI (by omega) (by omega)).mp z) (by omega), fun _ => ⟨vp_in_nI (show i < 4 by omega) (by decide), fun z => ih (i + 1) (by omega) (fun j hj => ?_), fun z => h0 (fun x => ?_)⟩⟩
      · by_cases e : j = i
        · subst e
          have := (nI_leI (b := 0) (by omega) (by omega)).mp z
          omega
        · exact hb j (by omega)
      · rw [(x.2 i (by omega)).2] at z
        exact z (by decide)
  exact ⟨P + 1, key P 0 (by omega) (fun j hj => by omega)⟩
end CMP
