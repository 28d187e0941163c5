/-! the start holds -/
theorem INV_0 {P : Nat} {M M2 : wM} (hP1 : 1 ≤ P) (hP4 : P ≤ 4) (hI : IS P 6 4 1 P M) (hR : RM M (fun _ _ => 0) (F00 P) M2) : INV 0 M2 := by
  obtain ⟨h0, h30, h31, h32, hp, hc, hs, hL, hRu, hE, hz⟩ := hI
  have f0 : F00 P 0 = nI P := rfl
  refine ⟨P, 0, 0, 0, 0, none, fun _ => false, fun _ => 0, fun _ => 0, fun _ => z0, fun _ => z0, fun _ => z0, fun _ => z0, fun _ => false, fun _ => false, fun _ => 0, fun _ _ => (0, z0, z0, 0, z0), fun _ => 0, fun _ => false, fun _ _ => false, fun _ => [], fun _ => false, fun _ => false, fun _ => 0, [], s00, s00, s00, z0, fun _ => 0, fun _ => false, fun _ => false, z0, fun _ => 0, fun _ => z0, fun _ => 0, fun _ _ => 0, F00 P, Nat.le_refl 0, ⟨⟨hP1, hP4, Nat.le_refl 0, Nat.le_refl 0, Nat.le_refl 0, Or.inl rfl⟩, fun n a b => by omega, ⟨fun i hi => rfl, fun n a b => by omega, fun g => absurd rfl g, fun i hi m n a b g => by omega, fun i hi => ⟨fun z => Bool.noConfusion z, fun ⟨n, a, b, _⟩ => by omega⟩, fun _ _ _ => rfl⟩, rfl, ⟨rfl, fun n a b => by omega, fun n a b => by omega⟩, fun g => absurd rfl g, ⟨fun i hi g => absurd (show (0 : Int32) = 1 from g) (by decide), fun n a b => by omega⟩, ⟨fun p hp g => Bool.noConfusion g, fun p g => (nomatch g)⟩⟩, ⟨⟨f0, rfl, rfl, rfl, rfl⟩, ⟨rfl, rfl, rfl, rfl, fun _ => Or.inl rfl, fun _ => Or.inl rfl, fun _ _ => ⟨rfl, rfl⟩, fun _ _ => rfl⟩, fun n a b => by omega, fun n a b => by omega, fun i hi => ⟨rfl, Nat.zero_le _⟩, fun i hi => ⟨rfl, rfl, Nat.zero_le _, fun g => absurd (show (0 : Int32) = 2 from g) (by decide), fun g => absurd (show (0 : Int32) = 3 from g) (by decide)⟩, ⟨fun p hp => rfl, fun p hp g => Bool.noConfusion g, fun _ => rfl, fun p g => (nomatch g)⟩⟩, CB_off hP4 ⟨⟨?_, h30, h31 (by decide), h32, hE⟩, ⟨fun p hp' => ⟨(hp p hp').1, [], (hp p hp').2, rfl, fun x hx => absurd hx List.not_mem_nil, fun k hk => absurd hk (Nat.not_lt_zero k)⟩, 0, fun j _ => hz _ (by unfold fz; dsimp only; omega)⟩, ⟨fun n a b => by omega, 0, fun t _ => hz _ (by unfold fz; dsimp only; omega)⟩, fun i hi => hs i hi, hL, fun i hi => ⟨(hc i hi).1, _, (hc i hi).2, fun _ _ => rfl⟩, hRu⟩ hR.2.2, RM_self hR⟩
  rw [h0]
  rfl
/-! the law's loop -/
theorem k_xL {zE : ZT} {x : Int32} {j : Nat} {K : Int32 → Prop} (hx : x = nI j) (hj : j < zE.2.2.2.1) (hL : zE.2.2.2.1 ≤ 3073) (k : K (zE.2.2.2.2 j)) : xL zE (some (92, 0)) x K := by
  subst hx
  refine ⟨rfl, vp_in_nI hj (by omega), ?_⟩
  rw [nI_clamp (by omega)]
  exact k
theorem lt_6 {L i : Nat} (hL : L ≤ 3073) (hi : i ≤ 10000) : nI L - 6 < nI i ↔ L < i + 6 := by
  rw [Int32.lt_iff_toInt_lt, Int32.toInt_sub, nI_toInt (by omega), nI_toInt (by omega), show (6 : Int32).toInt = 6 by decide, Int.bmod_eq_of_le (by omega) (by omega)]
  omega
theorem b01i {v : Int32} : (v = 0 ∨ ¬ v = 0) := Decidable.em _
set_option maxHeartbeats 4000000 in
theorem law_28 {zE : ZT} (hL : zE.2.2.2.1 ≤ 3073) : ∀ (n K i : Nat) (M : wM), K + n = 513 → i = 1 + 6 * K → INV K M → 0 < n → wp_law_28 zE n (some (92, 0)) (some (0, 0)) (some (40, 0)) (nI i) M := by
  intro n
  induction n with
  | zero => intro K i M _ _ _ h; omega
  | succ n ih =>
    intro K i M hK hi hI _
    unfold wp_law_28
    refine ⟨rfl, fun _ => trivial, fun z => ?_⟩
    rw [lt_6 hL (by omega)] at z
    have hK1 : K ≤ 511 := by omega
    have r1 : nI i + 1 = nI (i + 1) := nI_1 i
    have r2 : nI i + 2 = nI (i + 2) := nI_add i 2
    have r3 : nI i + 3 = nI (i + 3) := nI_add i 3
    have r4 : nI i + 4 = nI (i + 4) := nI_add i 4
    have r5 : nI i + 5 = nI (i + 5) := nI_add i 5
    have r6 : nI i + 6 = nI (i + 6) := nI_add i 6
    rw [r1, r2, r3, r4, r5, r6]
    have next : ∀ M2, INV (K + 1) M2 → wp_law_28 zE n (some (92, 0)) (some (0, 0)) (some (40, 0)) (nI (i + 6)) M2 := fun M2 h2 => ih (K + 1) (i + 6) M2 (by omega) (by omega) h2 (by omega)
    have c0 : ∃ fs, M (0, 0) = some (ob 0 fs) := by
      obtain ⟨P, l, d, c, u, dr, dep, mul, sn, so, sx, sy, sz, ic, ml, hm, xo, cl, dn, cm, q, sd, mk, lf, lg, live, base, mid, cs, cn, cd, cc, cf, co, cw, tk, A, F, hl, hJ, hR, hC, hRM⟩ := hI
      exact ⟨_, hC.1.1⟩
    obtain ⟨fs0, c0⟩ := c0
    have g : ∀ k, k ≤ 5 → i + k < zE.2.2.2.1 := fun k hk => by omega
    have fi : ∀ {r : Int32} {M1 : wM} {wpM : (Int32 → wM → Prop) → wM → Prop}, NX (K + 1) r wpM M1 → (∃ fs, M1 (40, 0) = some (ob 9 fs)) ∧ wpM (fun b M2 => (r = b → wp_law_28 zE n (some (92, 0)) (some (0, 0)) (some (40, 0)) (nI (i + 6)) M2) ∧ (¬ r = b → False)) M1 := fun h => ⟨h.1, h.2 _ (fun M2 h2 => ⟨fun _ => next M2 h2, fun z => z rfl⟩)⟩
    have fl : ∀ {r : Int64} {M1 : wM} {wpM : (Int64 → wM → Prop) → wM → Prop}, NX (K + 1) r wpM M1 → (∃ fs, M1 (40, 0) = some (ob 9 fs)) ∧ wpM (fun b M2 => (lg_cmp r b = 0 → wp_law_28 zE n (some (92, 0)) (some (0, 0)) (some (40, 0)) (nI (i + 6)) M2) ∧ (¬ lg_cmp r b = 0 → False)) M1 := fun h => ⟨h.1, h.2 _ (fun M2 h2 => ⟨fun _ => next M2 h2, fun z => z (lg0.mpr rfl)⟩)⟩
    refine k_xL (j := i) rfl (by omega) hL ?_
    refine ⟨fun e => ?_, fun n0 => ⟨fun e => ?_, fun n1 => ⟨fun e => ?_, fun n2 => ⟨fun e => ?_, fun n3 => ⟨fun e => ?_, fun n4 => ⟨fun e => ?_, fun n5 => ⟨fun e => ?_, fun n6 => ⟨fun e => ?_, fun n7 => ⟨fun e => ?_, fun n8 => ⟨fun e => ?_, fun n9 => ⟨fun e => ?_, fun n10 => ⟨fun e => ?_, fun n11 => ⟨fun e => ?_, fun n12 => ⟨fun e => ?_, fun n13 => ⟨fun e => ?_, fun n14 => ⟨fun e => ?_, fun n15 => next M (INV_le hI (by omega))⟩⟩⟩⟩⟩⟩⟩⟩⟩⟩⟩⟩⟩⟩⟩⟩
    · exact k_xL (j := i + 1) rfl (g 1 (by omega)) hL (k_xL (j := i + 2) rfl (g 2 (by omega)) hL (⟨fun e1 => k_cV c0 (j_open hK1 (Or.inl rfl) hI (fun r M1 hN => k_xL (j := i + 1) rfl (g 1 (by omega)) hL (k_xL (j := i + 2) rfl (g 2 (by omega)) hL (⟨fun e2 => by obtain ⟨⟨fs1, w1⟩, w2⟩ := fi hN; exact k_cV w1 w2, fun e2 => absurd e1 e2⟩)))), fun e1 => k_cV c0 (j_open hK1 (Or.inr rfl) hI (fun r M1 hN => k_xL (j := i + 1) rfl (g 1 (by omega)) hL (k_xL (j := i + 2) rfl (g 2 (by omega)) hL (⟨fun e2 => absurd e2 e1, fun e2 => by obtain ⟨⟨fs1, w1⟩, w2⟩ := fi hN; exact k_cV w1 w2⟩))))⟩))
    · exact k_xL (j := i + 1) rfl (g 1 (by omega)) hL (k_xL (j := i + 2) rfl (g 2 (by omega)) hL (k_xL (j := i + 3) rfl (g 3 (by omega)) hL (k_xL (j := i + 4) rfl (g 4 (by omega)) hL (k_cV c0 (j_add hK1 hI (fun r M1 hN => k_xL (j := i + 1) rfl (g 1 (by omega)) hL (k_xL (j := i + 2) rfl (g 2 (by omega)) hL (k_xL (j := i + 3) rfl (g 3 (by omega)) hL (k_xL (j := i + 4) rfl (g 4 (by omega)) hL (by obtain ⟨⟨fs1, w1⟩, w2⟩ := fi hN; exact k_cV w1 w2))))))))))
    · exact k_cV c0 (j_deploy hK1 hI (fun r M1 hN => by obtain ⟨⟨fs1, w1⟩, w2⟩ := fi hN; exact k_cV w1 w2))
    · exact k_xL (j := i + 1) rfl (g 1 (by omega)) hL (k_xL (j := i + 2) rfl (g 2 (by omega)) hL (k_xL (j := i + 3) rfl (g 3 (by omega)) hL (k_xL (j := i + 4) rfl (g 4 (by omega)) hL (k_xL (j := i + 5) rfl (g 5 (by omega)) hL (k_cV c0 (j_invoke hK1 hI (fun r M1 hN => k_xL (j := i + 1) rfl (g 1 (by omega)) hL (k_xL (j := i + 2) rfl (g 2 (by omega)) hL (k_xL (j := i + 3) rfl (g 3 (by omega)) hL (k_xL (j := i + 4) rfl (g 4 (by omega)) hL (k_xL (j := i + 5) rfl (g 5 (by omega)) hL (by obtain ⟨⟨fs1, w1⟩, w2⟩ := fi hN; exact k_cV w1 w2))))))))))))
    · exact k_xL (j := i + 1) rfl (g 1 (by omega)) hL (k_cV c0 (j_step hK1 hI (fun r M1 hN => k_xL (j := i + 1) rfl (g 1 (by omega)) hL (by obtain ⟨⟨fs1, w1⟩, w2⟩ := fi hN; exact k_cV w1 w2))))
    · exact k_cV c0 (j_flush hK1 hI (fun r M1 hN => by obtain ⟨⟨fs1, w1⟩, w2⟩ := fi hN; exact k_cV w1 w2))
    · exact k_cV c0 (j_snapshot hK1 hI (fun r M1 hN => by obtain ⟨⟨fs1, w1⟩, w2⟩ := fi hN; exact k_cV w1 w2))
    · exact k_xL (j := i + 1) rfl (g 1 (by omega)) hL (k_xL (j := i + 2) rfl (g 2 (by omega)) hL (k_cV c0 (j_scan hK1 hI (fun r M1 hN => k_xL (j := i + 1) rfl (g 1 (by omega)) hL (k_xL (j := i + 2) rfl (g 2 (by omega)) hL (by obtain ⟨⟨fs1, w1⟩, w2⟩ := fi hN; exact k_cV w1 w2))))))
    · exact k_cV c0 (j_crash hK1 hI (fun r M1 hN => by obtain ⟨⟨fs1, w1⟩, w2⟩ := fi hN; exact k_cV w1 w2))
    · exact k_xL (j := i + 1) rfl (g 1 (by omega)) hL (k_cV c0 (j_answer hI (fun r M1 hN => k_xL (j := i + 1) rfl (g 1 (by omega)) hL (by obtain ⟨⟨fs1, w1⟩, w2⟩ := fi hN; exact k_cV w1 w2))))
    · exact k_xL (j := i + 1) rfl (g 1 (by omega)) hL (k_xL (j := i + 2) rfl (g 2 (by omega)) hL (k_cV c0 (j_output (by omega) hI (fun r M1 hN => k_xL (j := i + 1) rfl (g 1 (by omega)) hL (k_xL (j := i + 2) rfl (g 2 (by omega)) hL (by obtain ⟨⟨fs1, w1⟩, w2⟩ := fl hN; exact k_cV w1 w2))))))
    · exact k_xL (j := i + 1) rfl (g 1 (by omega)) hL (k_cV c0 (j_row (by omega) hI (fun r M1 hN => k_xL (j := i + 1) rfl (g 1 (by omega)) hL (by obtain ⟨⟨fs1, w1⟩, w2⟩ := fl hN; exact k_cV w1 w2))))
    · exact k_xL (j := i + 1) rfl (g 1 (by omega)) hL (k_cV c0 (j_replicated (by omega) hI (fun r M1 hN => k_xL (j := i + 1) rfl (g 1 (by omega)) hL (by obtain ⟨⟨fs1, w1⟩, w2⟩ := fl hN; exact k_cV w1 w2))))
    · exact k_xL (j := i + 1) rfl (g 1 (by omega)) hL (k_cV c0 (j_waiting (by omega) hI (fun r M1 hN => k_xL (j := i + 1) rfl (g 1 (by omega)) hL (by obtain ⟨⟨fs1, w1⟩, w2⟩ := fi hN; exact k_cV w1 w2))))
    · exact k_xL (j := i + 1) rfl (g 1 (by omega)) hL (k_cV c0 (j_rows (by omega) hI (fun r M1 hN => k_xL (j := i + 1) rfl (g 1 (by omega)) hL (by obtain ⟨⟨fs1, w1⟩, w2⟩ := fi hN; exact k_cV w1 w2))))
    · exact k_xL (j := i + 1) rfl (g 1 (by omega)) hL (k_cV c0 (j_count (by omega) hI (fun r M1 hN => k_xL (j := i + 1) rfl (g 1 (by omega)) hL (by obtain ⟨⟨fs1, w1⟩, w2⟩ := fi hN; exact k_cV w1 w2))))
theorem law_all {z1 z2 b L : Nat} {xs : Nat → Int32} (hL : L ≤ 3073) : wp_law (z1, z2, b, L, xs) (some (92, 0)) M00 := by
  unfold wp_law
  have cell : ∀ (post : Int32 → wM → Prop) (M : wM), post (if L = 0 then 0 else xs 0) M → wp_L_cell post (z1, z2, b, L, xs) (some (92, 0)) 0 M := fun post M k => by
    unfold wp_L_cell wp_L_cell_13
    refine ⟨rfl, fun z => ?_, fun z => k_xL (j := 0) rfl ?_ hL ?_⟩
    · have : L = 0 := by
        have : L ≤ 0 := (nI_leI (b := 0) (by show L < 2 ^ 31; omega) (by decide)).mp z
        omega
      rw [if_pos this] at k
      exact k
    · rcases Nat.eq_zero_or_pos L with g | g
      · exact absurd (by show nI L ≤ 0; rw [g]; decide) z
      · exact g
    · rw [if_neg (fun g => z (by show nI L ≤ 0; rw [g]; decide))] at k
      exact k
  generalize (if L = 0 then 0 else xs 0) = v at cell
  obtain ⟨P, hP⟩ := pcl v
  refine k_nO (0, 0) (by decide) (M00_none (by decide)) (cell _ _ (k_cV up_s (i_S hP up_s ((up_n (rne (by decide))).trans rfl) (fun r h1 h2 => (up_n h2).trans ?_) (fun M1 hI => ?_))))
  · obtain ⟨a, c⟩ := r
    exact M00_none h1
  have hz := hI.2.2.2.2.2.2.2.2.2.2
  refine k_nO (40, 0) (by decide) (hz _ (by unfold fz; dsimp only; omega)) (cell _ _ (k_cV up_s (i_M hP up_s (fun k => (up_n (rne (by decide))).trans (hz _ (by unfold fz; dsimp only; omega))) (fun M2 rm => ⟨513, Nat.le_refl _, law_28 (zE := (z1, z2, b, L, xs)) hL 513 0 1 M2 (by omega) (by omega) ?_ (by omega)⟩))))
  refine INV_0 hP.1 hP.2.1 hI ⟨rm.1, rm.2.1, fun r h1 h2 => ?_⟩
  rw [rm.2.2 r h1 h2, up_n (fun e => h1 (by rw [e]))]
theorem whole_start {p : Program} {e : Env} {s : State} {m : MethodId} {below : List Frame} {meth : Method} {c : Code} (l : Launch) {b L : Nat} {xs : Nat → Int32} (hL : L ≤ 3073) (C0 : lw_At p s m meth c b L xs) : W p l e room_1 s m #[Value.ref b] below meth c s.heap [] 0 0 (lw_Z below #[Value.ref b] s) (entryFrame m ([Value.ref b] : List Value).toArray 4) := start_W l (fun _ _ _ => law_all hL) C0
