set_option maxHeartbeats 1000000 in
theorem j_invoke {K : Nat} {M : wM} {x : Int32} {y : Int32} {a : Int32} {b : Int32} {e : Int32} {post : Int32 → wM → Prop} (hK : K ≤ 511) (hI : INV K M) (h : ∀ r M1, NX (K + 1) r (fun p2 M1 => wp_M_invoke p2 (some (40, 0)) x y a b e M1) M1 → post r M1) : wp_S_invoke post (some (0, 0)) x y a b e M := by
  obtain ⟨P, l, d, c, u, dr, dep, mul, sn, so, sx, sy, sz, ic, ml, hm, xo, cl, dn, cm, q, sd, mk, lf, lg, live, base, mid, cs, cn, cd, cc, cf, co, cw, tk, A, F, hl, hJ, hR, hC, hRM⟩ := id hI
  obtain ⟨rN, rT, rC, rG, rS, rK, rQ⟩ := id hR
  obtain ⟨sS, sP, sT, sI, sL, sC, sR⟩ := id hC
  obtain ⟨jN, jX, jQ, jG, jF, jM, jK, jP⟩ := id hJ
  have inv : ∀ M2, RM M A F M2 → INV K M2 := fun M2 rm => ⟨P, l, d, c, u, dr, dep, mul, sn, so, sx, sy, sz, ic, ml, hm, xo, cl, dn, cm, q, sd, mk, lf, lg, live, base, mid, cs, cn, cd, cc, cf, co, cw, tk, A, F, hl, hJ, hR, CB_off hJ.1.2.1 hC rm.2.2, RM_self rm⟩
  have hP4 : 1 ≤ P ∧ P ≤ 4 := ⟨jN.1, jN.2.1⟩
  have hql : ∀ i, i < P → (q i).length ≤ l := fun i hi => JQ_len jQ hi
  have hqm : ∀ i, i < P → ∀ n, n ∈ q i → 1 ≤ n ∧ n ≤ l := fun i hi n hn => JQ_mem jQ hi hn
  obtain ⟨jP1, jP2, jcd, jdl, jul, jcu⟩ := id jN
  have hlg : ∀ n, n ∈ lg → 1 ≤ n ∧ n ≤ l ∧ ic n = true := fun n hn => by
    rw [show lg = _ from jG] at hn
    obtain ⟨x1, x2⟩ := List.mem_filter.mp hn
    have := mem_nu.mp x1
    exact ⟨by omega, by omega, x2⟩
  have hgl : lg.length ≤ 512 := by
    rw [show lg = _ from jG]
    refine Nat.le_trans (List.length_filter_le _ _) ?_
    unfold nu
    rw [List.length_range']
    omega
  have hcn : ∀ c, c < 4 → cn c ≤ 1000 := fun c hc => by
    have := (rK c hc).2.2.1
    omega
  refine c_invoke hP4 (by omega) sS sP sT sI sL sC hqm (fun n hn => ⟨(hlg n hn).1, (hlg n hn).2.1⟩) (fun i hi => by have := hql i hi; omega) hgl (fun g => h _ _ (NX_same hI hRM (fun p2 k => fs_M_invoke (Q := fun r A' F' => r = -1 ∧ A' = A ∧ F' = F) hRM (f_invoke rN (by omega) rC rQ rK (by omega) (fun _ => ⟨rfl, rfl, rfl⟩) (fun i p hi hp ex ey hcs hdp _ => absurd ⟨i, p, hi, hp, ex, ey, hcs, hdp⟩ g) (fun i p hi hp ex ey hcs hdp _ => absurd ⟨i, p, hi, hp, ex, ey, hcs, hdp⟩ g)) (fun r A' F' M2 rm e => by obtain ⟨rfl, rfl, rfl⟩ := e; exact k M2 rm)) inv)) (fun i p hi hp exx ey hcs hdp g48 => h _ _ (NX_same hI hRM (fun p2 k => fs_M_invoke (Q := fun r A' F' => r = -2 ∧ A' = A ∧ F' = F) hRM (f_invoke rN (by omega) rC rQ rK (by omega) (fun g => absurd ⟨i, p, hi, hp, exx, ey, hcs, hdp⟩ g) (fun _ _ _ _ _ _ _ _ _ => ⟨rfl, rfl, rfl⟩) (fun _ _ _ _ _ _ _ _ g => by rw [← show lg = _ from jG] at g; omega)) (fun r A' F' M2 rm e => by obtain ⟨rfl, rfl, rfl⟩ := e; exact k M2 rm)) inv)) (fun i p h0 t0 hi hp exx ey hcs hdp g48 hh hhP M1 s1 s3 s4 s5 s6 o1 => ?_)
  have rm1 : RM M1 A F M1 := RM_mv hRM (fun r hr => o1 r (by omega) (by omega) (fun z => by unfold dG at z; omega) (fun z => by unfold dC at z; omega) (fun z => by unfold dS at z; omega))
  refine h _ M1 ⟨⟨_, rm1.1⟩, fun p2 k => fs_M_invoke (Q := fun r A' F' => r = nI (l + 1) ∧ (nxt A A' (l + 1) (nI p) ∧ A' 17 = upd (upd (upd (A 17) (3 * (l + 1)) a) (3 * (l + 1) + 1) b) (3 * (l + 1) + 2) e ∧ A' 27 = upd (A 27) i 1 ∧ A' 28 = upd (A 28) i (nI (l + 1)) ∧ (∀ k, k ≠ 16 → k ≠ 17 → k ≠ 18 → k ≠ 19 → k ≠ 27 → k ≠ 28 → A' k = A k)) ∧ F' = upd F 15 (nI (l + 1))) rm1 (f_invoke rN (by omega) rC rQ rK (by omega) (fun g => absurd ⟨i, p, hi, hp, exx, ey, hcs, hdp⟩ g) (fun _ _ _ _ _ _ _ _ g => by rw [← show lg = _ from jG] at g; omega) (fun i' p' hi' hp' ex' ey' _ _ _ A' w1 w2 w3 w4 w5 => by
    have z1 : i' = i := (nI_eq (by omega) (by omega)).mp (ex'.symm.trans exx)
    have z2 : p' = p := (nI_eq (by omega) (by omega)).mp (ey'.symm.trans ey)
    subst z1
    subst z2
    exact ⟨rfl, ⟨w1, w2, w3, w4, w5⟩, rfl⟩)) (fun r A' F' M2 rm e2 => ?_)⟩
  obtain ⟨rfl, ⟨w1, w2, w3, w4, w5⟩, hF⟩ := e2
  have kA : ∀ k, k ≠ 16 → k ≠ 17 → k ≠ 18 → k ≠ 19 → k ≠ 27 → k ≠ 28 → A' k = A k := w5
  have kF : ∀ k, k ≠ 15 → F' k = F k := fun k z => by rw [hF, upd_n z]
  have e20 : A' 20 = A 20 := kA 20 (by decide) (by decide) (by decide) (by decide) (by decide) (by decide)
  have e21 : A' 21 = A 21 := kA 21 (by decide) (by decide) (by decide) (by decide) (by decide) (by decide)
  have e22 : A' 22 = A 22 := kA 22 (by decide) (by decide) (by decide) (by decide) (by decide) (by decide)
  obtain ⟨n0, n1, n2, n3, n4⟩ := id rN
  have hxo : ∀ n, n ≤ l → ux xo (l + 1) (fun s => ex (mul p) (nI P) (pt a (nI P)) (sn p) (so p) (sx p) (sy p) (sz p) a b e s.1 s.2 z0) n = xo n := fun n hn => ux_n (by omega)
  refine k M2 ⟨P, l + 1, d, c, u, dr, dep, mul, sn, so, sx, sy, sz, _, _, _, _, _, ub dn (l + 1) false, cmR cm (l + 1), _, sd, mk, lf, lg ++ [l + 1], live, base, mid, _, _, _, cc, cf, co, cw, _, A', F', by omega, ⟨⟨jP1, jP2, jcd, by omega, by omega, jcu⟩, JX_new jX hh hhP (jP.1 p hp hdp).2, JQ_inv (p0 := decide (¬ mul p = 0)) (h0 := h0) jQ jul, ?_, ?_, ?_, ?_, jP⟩, ⟨⟨?_, ?_, ?_, ?_, ?_⟩, RT_ext rT (fun k hk => kA k (by omega) (by omega) (by omega) (by omega) (by omega) (by omega)), RC_new (i := i) rC (by omega) n0 (kF 0 (by decide)) rQ jP hp hdp hh hhP w1.1 w2 (fun k _ _ => kA k (by omega) (by omega) (by omega) (by omega) (by omega) (by omega)), RG_new rG w1, RS_ext rS (kA 26 (by decide) (by decide) (by decide) (by decide) (by decide) (by decide)), ?_, RQ_ext rQ (fun k _ _ => kA k (by omega) (by omega) (by omega) (by omega) (by omega) (by omega)) (kF 14 (by decide))⟩, CB_off hP4.2 ⟨s1, ?_, s3, ?_, s5, s6, ?_⟩ rm.2.2, RM_self rm⟩
  · show lg ++ [l + 1] = _
    rw [nu_succ (by omega), List.filter_append, fi_ext (p2 := ic) (fun n _ g => ub_n (by omega)), ← show lg = _ from jG, List.filter_cons, ub_s, List.filter_nil]
    rfl
  · rw [e20, e21, e22]
    exact JF_new jF (by omega) hxo
  · intro hu j hj hc
    rw [cmR_n (by omega)] at hc
    rw [fo_e2 (X2 := xd xo) (p2 := ic) _ (fun n g1 g2 => ⟨ub_n (by omega), fun _ => by funext s; unfold xd; rw [hxo n (by omega)]⟩)]
    exact jM hu j hj hc
  · rw [e20, e21, e22]
    exact JK_new hi jK jdl hcs
  · rw [kF 0 (by decide)]; exact n0
  · rw [hF, upd_s]
  · rw [kF 23 (by decide)]; exact n2
  · rw [kF 24 (by decide)]; exact n3
  · rw [kF 25 (by decide)]; exact n4
  · intro j hj
    obtain ⟨r1, r2, r3, r4, r5⟩ := rK j hj
    rw [w3, w4, kA 29 (by decide) (by decide) (by decide) (by decide) (by decide) (by decide), kA 30 (by decide) (by decide) (by decide) (by decide) (by decide) (by decide), kA 31 (by decide) (by decide) (by decide) (by decide) (by decide) (by decide)]
    by_cases ej : j = i
    · subst ej
      rw [upd_s, upd_s, upd_s, un_s]
      exact ⟨rfl, rfl, by omega, fun z => absurd z (by decide), fun z => absurd z (by decide)⟩
    · rw [upd_n ej, upd_n ej, upd_n ej, un_n ej]
      exact ⟨r1, r2, r3, r4, r5⟩
  · exact Pr_off sP (fun r hr => o1 r (by unfold dP at hr; omega) (by unfold dP at hr; omega) (fun z => by unfold dP at hr; unfold dG at z; omega) (fun z => by unfold dP at hr; unfold dC at z; omega) (fun z => by unfold dP at hr; unfold dS at z; omega))
  · intro j hj
    have := s4 j hj
    dsimp only at this ⊢
    simp only [decide_eq_true_eq]
    exact this
  · exact Ru_off sR (fun r hr => o1 r (by unfold dR at hr; omega) (by unfold dR at hr; omega) (fun z => by unfold dR at hr; unfold dG at z; omega) (fun z => by unfold dR at hr; unfold dC at z; omega) (fun z => by unfold dR at hr; unfold dS at z; omega))
set_option maxHeartbeats 1000000 in
theorem j_flush {K : Nat} {M : wM} {post : Int32 → wM → Prop} (hK : K ≤ 511) (hI : INV K M) (h : ∀ r M1, NX (K + 1) r (fun p2 M1 => wp_M_flush p2 (some (40, 0)) M1) M1 → post r M1) : wp_S_flush post (some (0, 0)) M := by
  obtain ⟨P, l, d, c, u, dr, dep, mul, sn, so, sx, sy, sz, ic, ml, hm, xo, cl, dn, cm, q, sd, mk, lf, lg, live, base, mid, cs, cn, cd, cc, cf, co, cw, tk, A, F, hl, hJ, hR, hC, hRM⟩ := id hI
  obtain ⟨rN, rT, rC, rG, rS, rK, rQ⟩ := id hR
  obtain ⟨sS, sP, sT, sI, sL, sC, sR⟩ := id hC
  obtain ⟨jN, jX, jQ, jG, jF, jM, jK, jP⟩ := id hJ
  have inv : ∀ M2, RM M A F M2 → INV K M2 := fun M2 rm => ⟨P, l, d, c, u, dr, dep, mul, sn, so, sx, sy, sz, ic, ml, hm, xo, cl, dn, cm, q, sd, mk, lf, lg, live, base, mid, cs, cn, cd, cc, cf, co, cw, tk, A, F, hl, hJ, hR, CB_off hJ.1.2.1 hC rm.2.2, RM_self rm⟩
  have hP4 : 1 ≤ P ∧ P ≤ 4 := ⟨jN.1, jN.2.1⟩
  have hql : ∀ i, i < P → (q i).length ≤ l := fun i hi => JQ_len jQ hi
  have hqm : ∀ i, i < P → ∀ n, n ∈ q i → 1 ≤ n ∧ n ≤ l := fun i hi n hn => JQ_mem jQ hi hn
  obtain ⟨jP1, jP2, jcd, jdl, jul, jcu⟩ := id jN
  have hlg : ∀ n, n ∈ lg → 1 ≤ n ∧ n ≤ l ∧ ic n = true := fun n hn => by
    rw [show lg = _ from jG] at hn
    obtain ⟨x1, x2⟩ := List.mem_filter.mp hn
    have := mem_nu.mp x1
    exact ⟨by omega, by omega, x2⟩
  have hgl : lg.length ≤ 512 := by
    rw [show lg = _ from jG]
    refine Nat.le_trans (List.length_filter_le _ _) ?_
    unfold nu
    rw [List.length_range']
    omega
  have hcn : ∀ c, c < 4 → cn c ≤ 1000 := fun c hc => by
    have := (rK c hc).2.2.1
    omega
  refine c_flush (by omega) jdl hcn sS sC (fun M1 s1 s6 o1 => ?_)
  have rm1 : RM M1 A F M1 := RM_mv hRM (fun r hr => o1 r (by omega) (by omega))
  refine h _ M1 ⟨⟨_, rm1.1⟩, fun p2 k => fs_M_flush (Q := fun r A' F' => r = nI l ∧ ((∀ k, k ≠ 27 → k ≠ 29 → k ≠ 30 → k ≠ 31 → A' k = A k) ∧ ∀ c, c < 4 → TC l dn cn A A' c) ∧ F' = upd F 23 (nI l)) rm1 (f_flush (dn := dn) (cm := cm) (cn := cn) rN rG (by omega) (fun c hc => ⟨(rK c hc).2.1, (rK c hc).2.2.1⟩) (fun c hc hp => by rw [(rK c hc).1] at hp; have := jK.1 c hc hp; exact ⟨this.1, this.2.1⟩) (fun A' w1 w2 => ⟨rfl, ⟨w1, w2⟩, rfl⟩)) (fun r A' F' M2 rm e2 => ?_)⟩
  obtain ⟨rfl, ⟨w1, w2⟩, hF⟩ := e2
  have kF : ∀ k, k ≠ 23 → F' k = F k := fun k z => by rw [hF, upd_n z]
  have kA : ∀ k, k ≤ 26 ∨ k = 28 ∨ k = 32 → A' k = A k := fun k hk => w1 k (by omega) (by omega) (by omega) (by omega)
  obtain ⟨n0, n1, n2, n3, n4⟩ := id rN
  refine k M2 ⟨P, l, l, c, u, dr, dep, mul, sn, so, sx, sy, sz, ic, ml, hm, xo, cl, dn, cm, q, sd, mk, lf, lg, live, base, mid, _, cn, cd, cc, cf, co, cw, tk, A', F', by omega, ⟨⟨jP1, jP2, by omega, by omega, jul, jcu⟩, jX, jQ, jG, ?_, jM, JK_stl jK (fun c hc _ _ => ?_), jP⟩, ⟨⟨?_, ?_, ?_, ?_, ?_⟩, RT_ext rT (fun k hk => kA k (by omega)), RC_ext rC (fun k _ _ => kA k (by omega)) (kF 0 (by decide)), RG_ext rG ⟨kA 18 (by omega), kA 19 (by omega)⟩, RS_ext rS (kA 26 (by omega)), RK_tell (dn := dn) rK (fun c hc hp => ?_) w2 (kA 28 (by omega)), RQ_ext rQ (fun k _ _ => kA k (by omega)) (kF 14 (by decide))⟩, CB_off hP4.2 ⟨s1, ?_, ?_, ?_, ?_, s6, ?_⟩ rm.2.2, RM_self rm⟩
  · rw [kA 20 (by omega), kA 21 (by omega), kA 22 (by omega)]; exact jF
  · rw [kA 20 (by omega), kA 21 (by omega), kA 22 (by omega)]; exact ⟨rfl, rfl, fun _ _ => rfl⟩
  · rw [kF 0 (by decide)]; exact n0
  · rw [kF 15 (by decide)]; exact n1
  · rw [hF, upd_s]
  · rw [kF 24 (by decide)]; exact n3
  · rw [kF 25 (by decide)]; exact n4
  · obtain ⟨b1, b2, b3, b4, b5, b6, b7⟩ := jK.1 c hc hp
    exact ⟨b5, b7⟩
  · exact Pr_off sP (fun r hr => o1 r (by unfold dP at hr; omega) (by unfold dP at hr; omega))
  · exact Tk_off sT (fun r hr => o1 r (by omega) (by omega))
  · exact Si_off sI hP4.2 (fun r hr => o1 r (by unfold dS at hr; omega) (by unfold dS at hr; omega))
  · exact Lg_off sL (fun r hr => o1 r (by unfold dG at hr; omega) (by unfold dG at hr; omega))
  · exact Ru_off sR (fun r hr => o1 r (by unfold dR at hr; omega) (by unfold dR at hr; omega))
set_option maxHeartbeats 1000000 in
theorem j_snapshot {K : Nat} {M : wM} {post : Int32 → wM → Prop} (hK : K ≤ 511) (hI : INV K M) (h : ∀ r M1, NX (K + 1) r (fun p2 M1 => wp_M_snapshot p2 (some (40, 0)) M1) M1 → post r M1) : wp_S_snapshot post (some (0, 0)) M := by
  obtain ⟨P, l, d, c, u, dr, dep, mul, sn, so, sx, sy, sz, ic, ml, hm, xo, cl, dn, cm, q, sd, mk, lf, lg, live, base, mid, cs, cn, cd, cc, cf, co, cw, tk, A, F, hl, hJ, hR, hC, hRM⟩ := id hI
  obtain ⟨rN, rT, rC, rG, rS, rK, rQ⟩ := id hR
  obtain ⟨sS, sP, sT, sI, sL, sC, sR⟩ := id hC
  obtain ⟨jN, jX, jQ, jG, jF, jM, jK, jP⟩ := id hJ
  have inv : ∀ M2, RM M A F M2 → INV K M2 := fun M2 rm => ⟨P, l, d, c, u, dr, dep, mul, sn, so, sx, sy, sz, ic, ml, hm, xo, cl, dn, cm, q, sd, mk, lf, lg, live, base, mid, cs, cn, cd, cc, cf, co, cw, tk, A, F, hl, hJ, hR, CB_off hJ.1.2.1 hC rm.2.2, RM_self rm⟩
  have hP4 : 1 ≤ P ∧ P ≤ 4 := ⟨jN.1, jN.2.1⟩
  have hql : ∀ i, i < P → (q i).length ≤ l := fun i hi => JQ_len jQ hi
  have hqm : ∀ i, i < P → ∀ n, n ∈ q i → 1 ≤ n ∧ n ≤ l := fun i hi n hn => JQ_mem jQ hi hn
  obtain ⟨jP1, jP2, jcd, jdl, jul, jcu⟩ := id jN
  have hlg : ∀ n, n ∈ lg → 1 ≤ n ∧ n ≤ l ∧ ic n = true := fun n hn => by
    rw [show lg = _ from jG] at hn
    obtain ⟨x1, x2⟩ := List.mem_filter.mp hn
    have := mem_nu.mp x1
    exact ⟨by omega, by omega, x2⟩
  have hgl : lg.length ≤ 512 := by
    rw [show lg = _ from jG]
    refine Nat.le_trans (List.length_filter_le _ _) ?_
    unfold nu
    rw [List.length_range']
    omega
  have hcn : ∀ c, c < 4 → cn c ≤ 1000 := fun c hc => by
    have := (rK c hc).2.2.1
    omega
  refine c_snap hP4 (by omega) jul sS sT sI sL hqm (fun n hn => ⟨(hlg n hn).1, (hlg n hn).2.1⟩) (fun i hi => by have := hql i hi; omega) (fun g => h _ _ (NX_same hI hRM (fun p2 k => fs_M_snapshot (Q := fun r A' F' => r = -1 ∧ A' = A ∧ F' = F) hRM (f_snap rN jul (by omega) (fun _ => ⟨rfl, rfl, rfl⟩) (fun z => absurd z g)) (fun r A' F' M2 rm e => by obtain ⟨rfl, rfl, rfl⟩ := e; exact k M2 rm)) inv)) (fun hu t0 M1 s1 s3 s4 s5 o1 => ?_)
  subst hu
  have rm1 : RM M1 A F M1 := RM_mv hRM (fun r hr => o1 r (by omega) (by omega) (fun z => by unfold dS at z; omega))
  refine h _ M1 ⟨⟨_, rm1.1⟩, fun p2 k => fs_M_snapshot (Q := fun r A' F' => r = nI (l + 1) ∧ (nxt A A' (l + 1) (-1) ∧ (∀ k, k ≠ 16 → k ≠ 18 → k ≠ 19 → A' k = A k)) ∧ F' = upd (upd F 15 (nI (l + 1))) 25 (nI (l + 1))) rm1 (f_snap rN jul (by omega) (fun z => absurd rfl z) (fun _ A' w1 w2 => ⟨rfl, ⟨w1, w2⟩, rfl⟩)) (fun r A' F' M2 rm e2 => ?_)⟩
  obtain ⟨rfl, ⟨w1, w2⟩, hF⟩ := e2
  have kF : ∀ k, k ≠ 15 → k ≠ 25 → F' k = F k := fun k z1 z2 => by rw [hF, upd_n z2, upd_n z1]
  have kA : ∀ k, k ≠ 16 → k ≠ 18 → k ≠ 19 → A' k = A k := w2
  obtain ⟨n0, n1, n2, n3, n4⟩ := id rN
  have hold : RC P l ic ml hm xo A' F' := RC_pt rC (fun n g1 g2 => by rw [w1.1, upd_n (by omega), kA 17 (by decide) (by decide) (by decide)]; exact ⟨rfl, rfl, rfl, rfl⟩) (fun p hp h7 => by
    rw [kA 7 (by decide) (by decide) (by decide), kA 8 (by decide) (by decide) (by decide), kA 9 (by decide) (by decide) (by decide), kA 10 (by decide) (by decide) (by decide), kA 11 (by decide) (by decide) (by decide), kA 12 (by decide) (by decide) (by decide), kA 13 (by decide) (by decide) (by decide)]
    exact ⟨h7, rfl, rfl, fun _ _ => ⟨rfl, rfl, rfl, rfl⟩⟩) (kF 0 (by decide) (by decide))
  refine k M2 ⟨P, l + 1, d, c, l + 1, dr, dep, mul, sn, so, sx, sy, sz, _, ml, hm, xo, cl, ub dn (l + 1) false, cmR cm (l + 1), _, sd, _, lf, lg, live, base, mid, cs, cn, cd, cc, cf, co, cw, _, A', F', by omega, ⟨⟨jP1, jP2, jcd, by omega, by omega, Or.inr (by omega)⟩, JX_snap jX, JQ_snap jQ, ?_, ?_, ?_, ?_, jP⟩, ⟨⟨?_, ?_, ?_, ?_, ?_⟩, RT_ext rT (fun k hk => kA k (by omega) (by omega) (by omega)), fun n g1 g2 => ?_, RG_new rG w1, RS_ext rS (kA 26 (by decide) (by decide) (by decide)), RK_ext rK (fun k _ _ => kA k (by omega) (by omega) (by omega)), RQ_ext rQ (fun k _ _ => kA k (by omega) (by omega) (by omega)) (kF 14 (by decide) (by decide))⟩, CB_off hP4.2 ⟨s1, ?_, s3, s4, s5, ?_, ?_⟩ rm.2.2, RM_self rm⟩
  · show lg = _
    rw [nu_succ (by omega), List.filter_append, fi_ext (p2 := ic) (fun n _ g => ub_n (by omega)), ← show lg = _ from jG, List.filter_cons, ub_s, List.filter_nil]
    simp
  · rw [kA 20 (by decide) (by decide) (by decide), kA 21 (by decide) (by decide) (by decide), kA 22 (by decide) (by decide) (by decide)]
    exact JF_new jF (by omega) (fun _ _ => rfl)
  · intro _ i hi hc
    rw [cmR_s] at hc
    exact Bool.noConfusion hc
  · rw [kA 20 (by decide) (by decide) (by decide), kA 21 (by decide) (by decide) (by decide), kA 22 (by decide) (by decide) (by decide)]
    exact JK_snap jK
  · rw [kF 0 (by decide) (by decide)]; exact n0
  · rw [hF, upd_n (by decide), upd_s]
  · rw [kF 23 (by decide) (by decide)]; exact n2
  · rw [kF 24 (by decide) (by decide)]; exact n3
  · rw [hF, upd_s]
  · by_cases en : n = l + 1
    · subst en
      rw [ub_s]
      exact ⟨fun _ => by rw [w1.1, upd_s], fun z => absurd z (by decide)⟩
    · rw [ub_n en]
      exact hold n g1 (by omega)
  · exact Pr_off sP (fun r hr => o1 r (by unfold dP at hr; omega) (by unfold dP at hr; omega) (fun z => by unfold dP at hr; unfold dS at z; omega))
  · exact Cl_off sC (fun r hr => o1 r (by unfold dC at hr; omega) (by unfold dC at hr; omega) (fun z => by unfold dC at hr; unfold dS at z; omega))
  · exact Ru_off sR (fun r hr => o1 r (by unfold dR at hr; omega) (by unfold dR at hr; omega) (fun z => by unfold dR at hr; unfold dS at z; omega))
