set_option maxHeartbeats 1000000 in
theorem j_open {K : Nat} {M : wM} {x : Int32} {m : Int32} {post : Int32 → wM → Prop} (hK : K ≤ 511) (hm01 : m = 0 ∨ m = 1) (hI : INV K M) (h : ∀ r M1, NX (K + 1) r (fun p2 M1 => wp_M_open p2 (some (40, 0)) x m M1) M1 → post r M1) : wp_S_open post (some (0, 0)) x m M := by
  obtain ⟨P, l, d, c, u, dr, dep, mul, sn, so, sx, sy, sz, ic, ml, hm, xo, cl, dn, cm, q, sd, mk, lf, lg, live, base, mid, cs, cn, cd, cc, cf, co, cw, tk, A, F, hl, hJ, hR, hC, hRM⟩ := id hI
  obtain ⟨rN, rT, rC, rG, rS, rK, rQ⟩ := id hR
  obtain ⟨sS, sP, sT, sI, sL, sC, sR⟩ := id hC
  obtain ⟨jN, jX, jQ, jG, jF, jM, jK, jP⟩ := id hJ
  have inv : ∀ M2, RM M A F M2 → INV K M2 := fun M2 rm => ⟨P, l, d, c, u, dr, dep, mul, sn, so, sx, sy, sz, ic, ml, hm, xo, cl, dn, cm, q, sd, mk, lf, lg, live, base, mid, cs, cn, cd, cc, cf, co, cw, tk, A, F, hl, hJ, hR, CB_off hJ.1.2.1 hC rm.2.2, RM_self rm⟩
  have hP4 : 1 ≤ P ∧ P ≤ 4 := ⟨jN.1, jN.2.1⟩
  refine c_open hm01 sS sP (fun g => h _ _ (NX_same hI hRM (fun p2 k => fs_M_open (Q := fun r A' F' => r = -1 ∧ A' = A ∧ F' = F) hRM (f_open hm01 rQ (fun _ => ⟨rfl, rfl, rfl⟩) (fun p hp e hd => by rw [g p hp e] at hd; exact absurd hd (by decide))) (fun r A' F' M2 rm e => by obtain ⟨rfl, rfl, rfl⟩ := e; exact k M2 rm)) inv)) (fun p hp e hd M1 s1 s2 o1 => ?_)
  have hdp : ∀ p', dep p' = true → p' ≠ p := fun p' g z => by rw [z, hd] at g; exact absurd g (by decide)
  have rm1 : RM M1 A F M1 := RM_mv hRM (fun r hr => o1 r (by omega) (fun z => by unfold dP at z; omega))
  refine h _ M1 ⟨⟨_, rm1.1⟩, fun p2 k => fs_M_open (Q := fun r A' F' => r = 0 ∧ A' = upA (upA A 8 (upd (A 8) 6 m)) 9 (upd (A 9) 6 0) ∧ F' = upd F 14 (nI p)) rm1 (f_open hm01 rQ (fun g => by rw [g p hp e] at hd; exact absurd hd (by decide)) (fun p' hp' e' _ => by rw [(nI_eq (by omega) (by omega)).mp (e'.symm.trans e)]; exact ⟨rfl, rfl, rfl⟩)) (fun r A' F' M2 rm e => ?_)⟩
  obtain ⟨rfl, hA, hF⟩ := e
  have kA : ∀ k, k ≠ 8 → k ≠ 9 → A' k = A k := fun k z1 z2 => by rw [hA, upA_n z2, upA_n z1]
  have k8 : A' 8 = upd (A 8) 6 m := by rw [hA, upA_n (by decide), upA_s]
  have k9 : A' 9 = upd (A 9) 6 0 := by rw [hA, upA_s]
  have kF : ∀ k, k ≠ 14 → F' k = F k := fun k z => by rw [hF, upd_n z]
  obtain ⟨n0, n1, n2, n3, n4⟩ := rN
  refine k M2 ⟨P, l, d, c, u, some p, dep, upd mul p m, un sn p 0, so, sx, sy, sz, ic, ml, hm, xo, cl, dn, cm, q, sd, mk, lf, lg, live, base, mid, cs, cn, cd, cc, cf, co, cw, tk, A', F', by omega, ⟨jN, jX, jQ, jG, ?_, jM, ?_, ⟨fun p' hp' hd' => ?_, fun p' e' => ?_⟩⟩, ⟨⟨?_, ?_, ?_, ?_, ?_⟩, RT_ext rT (fun k hk => kA k (by omega) (by omega)), ?_, RG_ext rG ⟨kA _ (by decide) (by decide), kA _ (by decide) (by decide)⟩, RS_ext rS (kA _ (by decide) (by decide)), RK_ext rK (fun k _ _ => kA k (by omega) (by omega)), ⟨?_, fun p' hp' hd' => ?_, fun z => (nomatch z), fun p' e' => ?_⟩⟩, CB_off hP4.2 ⟨s1, s2, ?_, ?_, ?_, ?_, ?_⟩ rm.2.2, RM_self rm⟩
  · rw [kA 20 (by decide) (by decide), kA 21 (by decide) (by decide), kA 22 (by decide) (by decide)]; exact jF
  · rw [kA 20 (by decide) (by decide), kA 21 (by decide) (by decide), kA 22 (by decide) (by decide)]; exact jK
  · have := hdp p' hd'
    unfold pok
    rw [upd_n this, un_n this]
    exact jP.1 p' hp' hd'
  · cases e'
    refine ⟨hp, hd, ?_, ?_, fun k hk => ?_⟩
    · rw [upd_s]; exact hm01
    · rw [un_s]; omega
    · rw [un_s] at hk; omega
  · rw [kF 0 (by decide)]; exact n0
  · rw [kF 15 (by decide)]; exact n1
  · rw [kF 23 (by decide)]; exact n2
  · rw [kF 24 (by decide)]; exact n3
  · rw [kF 25 (by decide)]; exact n4
  · refine RC_pt rC (fun n _ _ => ?_) (fun p' hp' h7 => ?_) (kF 0 (by decide))
    · rw [kA 16 (by decide) (by decide), kA 17 (by decide) (by decide)]; exact ⟨rfl, rfl, rfl, rfl⟩
    · rw [kA 7 (by decide) (by decide), k8, k9, upd_n (by omega), upd_n (by omega), kA 10 (by decide) (by decide), kA 11 (by decide) (by decide), kA 12 (by decide) (by decide), kA 13 (by decide) (by decide)]
      exact ⟨h7, rfl, rfl, fun _ _ => ⟨rfl, rfl, rfl, rfl⟩⟩
  · rw [kA 7 (by decide) (by decide)]; exact rQ.1
  · have := hdp p' hd'
    rw [k8, k9, upd_n (show p' ≠ 6 by omega), upd_n (show p' ≠ 6 by omega), upd_n this, un_n this, kA 10 (by decide) (by decide), kA 11 (by decide) (by decide), kA 12 (by decide) (by decide), kA 13 (by decide) (by decide)]
    exact rQ.2.1 p' hp' hd'
  · cases e'
    refine ⟨by rw [hF, upd_s], by rw [k8, upd_s, upd_s], by rw [k9, upd_s, un_s]; rfl, fun k hk => ?_⟩
    rw [un_s] at hk
    omega
  · exact Tk_ext (Tk_off sT (fun r hr => o1 r (by omega) (fun z => by unfold dP at z; omega))) (fun p' hp' hd' => by
      have := hdp p' hd'
      exact ⟨hd', upd_n this, un_n this, rfl, rfl, rfl, rfl⟩)
  · exact Si_off sI hP4.2 (fun r hr => o1 r (by unfold dS at hr; omega) (fun z => by unfold dS at hr; unfold dP at z; omega))
  · exact Lg_off sL (fun r hr => o1 r (by unfold dG at hr; omega) (fun z => by unfold dG at hr; unfold dP at z; omega))
  · exact Cl_off sC (fun r hr => o1 r (by unfold dC at hr; omega) (fun z => by unfold dC at hr; unfold dP at z; omega))
  · exact Ru_off sR (fun r hr => o1 r (by unfold dR at hr; omega) (fun z => by unfold dR at hr; unfold dP at z; omega))
set_option maxHeartbeats 1000000 in
theorem j_add {K : Nat} {M : wM} {op : Int32} {x : Int32} {y : Int32} {z : Int32} {post : Int32 → wM → Prop} (hK : K ≤ 511) (hI : INV K M) (h : ∀ r M1, NX (K + 1) r (fun p2 M1 => wp_M_add p2 (some (40, 0)) op x y z M1) M1 → post r M1) : wp_S_add post (some (0, 0)) op x y z M := by
  obtain ⟨P, l, d, c, u, dr, dep, mul, sn, so, sx, sy, sz, ic, ml, hm, xo, cl, dn, cm, q, sd, mk, lf, lg, live, base, mid, cs, cn, cd, cc, cf, co, cw, tk, A, F, hl, hJ, hR, hC, hRM⟩ := id hI
  obtain ⟨rN, rT, rC, rG, rS, rK, rQ⟩ := id hR
  obtain ⟨sS, sP, sT, sI, sL, sC, sR⟩ := id hC
  obtain ⟨jN, jX, jQ, jG, jF, jM, jK, jP⟩ := id hJ
  have inv : ∀ M2, RM M A F M2 → INV K M2 := fun M2 rm => ⟨P, l, d, c, u, dr, dep, mul, sn, so, sx, sy, sz, ic, ml, hm, xo, cl, dn, cm, q, sd, mk, lf, lg, live, base, mid, cs, cn, cd, cc, cf, co, cw, tk, A, F, hl, hJ, hR, CB_off hJ.1.2.1 hC rm.2.2, RM_self rm⟩
  have hP4 : 1 ≤ P ∧ P ≤ 4 := ⟨jN.1, jN.2.1⟩
  refine c_add jP sS sP (fun g => h _ _ (NX_same hI hRM (fun p2 k => fs_M_add (Q := fun r A' F' => r = -1 ∧ A' = A ∧ F' = F) hRM (f_add jP rQ (fun _ => ⟨rfl, rfl, rfl⟩) (fun p e ok _ => g.elim (fun g => by rw [g] at e; exact nomatch e) (fun g => absurd ok g)) (fun p e ok _ => g.elim (fun g => by rw [g] at e; exact nomatch e) (fun g => absurd ok g))) (fun r A' F' M2 rm e => by obtain ⟨rfl, rfl, rfl⟩ := e; exact k M2 rm)) inv)) (fun p e ok e8 => h _ _ (NX_same hI hRM (fun p2 k => fs_M_add (Q := fun r A' F' => r = -2 ∧ A' = A ∧ F' = F) hRM (f_add jP rQ (fun g => g.elim (fun g => by rw [g] at e; exact nomatch e) (fun g => absurd ok g)) (fun _ _ _ _ => ⟨rfl, rfl, rfl⟩) (fun p' e' _ hlt => by rw [e] at e'; cases e'; omega)) (fun r A' F' M2 rm e => by obtain ⟨rfl, rfl, rfl⟩ := e; exact k M2 rm)) inv)) (fun p e ok hlt M1 s2 o1 => ?_)
  obtain ⟨d1, d2, d3, d4, d5⟩ := jP.2 p e
  have hdp : ∀ p', dep p' = true → p' ≠ p := fun p' g z => by rw [z, d2] at g; exact absurd g (by decide)
  have us_n : ∀ (f : Nat → Fn) (v : Int32) p', p' ≠ p → us f p (sn p) v p' = f p' := fun f v p' g => by unfold us; rw [if_neg g]
  have us_s : ∀ (f : Nat → Fn) (v : Int32), us f p (sn p) v p = upd (f p) (sn p) v := fun f v => by unfold us; rw [if_pos rfl]
  have rm1 : RM M1 A F M1 := RM_mv hRM (fun r hr => o1 r (fun z => by unfold dP at z; omega))
  refine h _ M1 ⟨⟨_, rm1.1⟩, fun p2 k => fs_M_add (Q := fun r A' F' => r = nI (sn p) ∧ A' = upA (upA (upA (upA (upA A 10 (upd (A 10) (48 + sn p) op)) 11 (upd (A 11) (48 + sn p) x)) 12 (upd (A 12) (48 + sn p) y)) 13 (upd (A 13) (48 + sn p) z)) 9 (upd (A 9) 6 (nI (sn p + 1))) ∧ F' = F) rm1 (f_add jP rQ (fun g => g.elim (fun g => by rw [g] at e; exact nomatch e) (fun g => absurd ok g)) (fun p' e' _ e8 => by rw [e] at e'; cases e'; omega) (fun p' e' _ _ => by rw [e] at e'; cases e'; exact ⟨rfl, rfl, rfl⟩)) (fun r A' F' M2 rm e2 => ?_)⟩
  obtain ⟨rfl, hA, rfl⟩ := e2
  have kA : ∀ k, (k < 9 ∨ 13 < k) → A' k = A k := fun k z => by rw [hA, upA_n (by omega), upA_n (by omega), upA_n (by omega), upA_n (by omega), upA_n (by omega)]
  have k9 : A' 9 = upd (A 9) 6 (nI (sn p + 1)) := by rw [hA, upA_s]
  have k10 : A' 10 = upd (A 10) (48 + sn p) op := by rw [hA, upA_n (by decide), upA_n (by decide), upA_n (by decide), upA_n (by decide), upA_s]
  have k11 : A' 11 = upd (A 11) (48 + sn p) x := by rw [hA, upA_n (by decide), upA_n (by decide), upA_n (by decide), upA_s]
  have k12 : A' 12 = upd (A 12) (48 + sn p) y := by rw [hA, upA_n (by decide), upA_n (by decide), upA_s]
  have k13 : A' 13 = upd (A 13) (48 + sn p) z := by rw [hA, upA_n (by decide), upA_s]
  have fr : ∀ p' k, p' < 6 → k < 8 → A' 10 (8 * p' + k) = A 10 (8 * p' + k) ∧ A' 11 (8 * p' + k) = A 11 (8 * p' + k) ∧ A' 12 (8 * p' + k) = A 12 (8 * p' + k) ∧ A' 13 (8 * p' + k) = A 13 (8 * p' + k) := fun p' k g1 g2 => by
    rw [k10, k11, k12, k13]
    exact ⟨upd_n (by omega), upd_n (by omega), upd_n (by omega), upd_n (by omega)⟩
  refine k M2 ⟨P, l, d, c, u, dr, dep, mul, un sn p (sn p + 1), us so p (sn p) op, us sx p (sn p) x, us sy p (sn p) y, us sz p (sn p) z, ic, ml, hm, xo, cl, dn, cm, q, sd, mk, lf, lg, live, base, mid, cs, cn, cd, cc, cf, co, cw, tk, A', F', by omega, ⟨jN, jX, jQ, jG, ?_, jM, ?_, ⟨fun p' hp' hd' => ?_, fun p' e' => ?_⟩⟩, ⟨rN, RT_ext rT (fun k hk => kA k (by omega)), ?_, RG_ext rG ⟨kA _ (by omega), kA _ (by omega)⟩, RS_ext rS (kA _ (by omega)), RK_ext rK (fun k _ _ => kA k (by omega)), ⟨?_, fun p' hp' hd' => ?_, rQ.2.2.1, fun p' e' => ?_⟩⟩, CB_off hP4.2 ⟨?_, s2, ?_, ?_, ?_, ?_, ?_⟩ rm.2.2, RM_self rm⟩
  · rw [kA 20 (by omega), kA 21 (by omega), kA 22 (by omega)]; exact jF
  · rw [kA 20 (by omega), kA 21 (by omega), kA 22 (by omega)]; exact jK
  · have := hdp p' hd'
    unfold pok
    rw [un_n this, us_n _ _ _ this, us_n _ _ _ this, us_n _ _ _ this, us_n _ _ _ this]
    exact jP.1 p' hp' hd'
  · rw [e] at e'
    cases e'
    unfold pok
    rw [un_s, us_s, us_s, us_s, us_s]
    refine ⟨d1, d2, d3, by omega, fun k hk => ?_⟩
    by_cases ek : k = sn p
    · subst ek
      rw [upd_s, upd_s, upd_s, upd_s]
      exact ok
    · rw [upd_n ek, upd_n ek, upd_n ek, upd_n ek]
      exact d5 k (by omega)
  · refine RC_pt rC (fun n _ _ => ?_) (fun p' hp' h7 => ?_) rfl
    · rw [kA 16 (by omega), kA 17 (by omega)]; exact ⟨rfl, rfl, rfl, rfl⟩
    · rw [kA 7 (by omega), kA 8 (by omega), k9, upd_n (by omega)]
      exact ⟨h7, rfl, rfl, fun k hk => fr p' k hp' hk⟩
  · rw [kA 7 (by omega)]; exact rQ.1
  · have := hdp p' hd'
    obtain ⟨w1, w2, w3⟩ := rQ.2.1 p' hp' hd'
    have w8 := (jP.1 p' hp' hd').1.2.1
    rw [kA 8 (by omega), k9, upd_n (by omega), un_n this, us_n _ _ _ this, us_n _ _ _ this, us_n _ _ _ this, us_n _ _ _ this]
    refine ⟨w1, w2, fun k hk => ?_⟩
    obtain ⟨f1, f2, f3, f4⟩ := fr p' k hp' (by omega)
    rw [f1, f2, f3, f4]
    exact w3 k hk
  · rw [e] at e'
    cases e'
    obtain ⟨w1, w2, w3, w4⟩ := rQ.2.2.2 p e
    rw [kA 8 (by omega), k9, upd_s, un_s, us_s, us_s, us_s, us_s, k10, k11, k12, k13]
    refine ⟨w1, w2, rfl, fun k hk => ?_⟩
    by_cases ek : k = sn p
    · subst ek
      rw [upd_s, upd_s, upd_s, upd_s, upd_s, upd_s, upd_s, upd_s]
      exact ⟨rfl, rfl, rfl, rfl⟩
    · rw [upd_n (show 48 + k ≠ 48 + sn p by omega), upd_n (show 48 + k ≠ 48 + sn p by omega), upd_n (show 48 + k ≠ 48 + sn p by omega), upd_n (show 48 + k ≠ 48 + sn p by omega), upd_n ek, upd_n ek, upd_n ek, upd_n ek]
      exact w4 k (by omega)
  · exact St_off sS (fun r hr => o1 r (fun z => by unfold dO at hr; unfold dP at z; omega))
  · exact Tk_ext (Tk_off sT (fun r hr => o1 r (fun z => by unfold dP at z; omega))) (fun p' hp' hd' => by
      have := hdp p' hd'
      exact ⟨hd', rfl, un_n this, us_n _ _ _ this, us_n _ _ _ this, us_n _ _ _ this, us_n _ _ _ this⟩)
  · exact Si_off sI hP4.2 (fun r hr => o1 r (fun z => by unfold dS at hr; unfold dP at z; omega))
  · exact Lg_off sL (fun r hr => o1 r (fun z => by unfold dG at hr; unfold dP at z; omega))
  · exact Cl_off sC (fun r hr => o1 r (fun z => by unfold dC at hr; unfold dP at z; omega))
  · exact Ru_off sR (fun r hr => o1 r (fun z => by unfold dR at hr; unfold dP at z; omega))
set_option maxHeartbeats 1000000 in
theorem j_deploy {K : Nat} {M : wM} {post : Int32 → wM → Prop} (hK : K ≤ 511) (hI : INV K M) (h : ∀ r M1, NX (K + 1) r (fun p2 M1 => wp_M_deploy p2 (some (40, 0)) M1) M1 → post r M1) : wp_S_deploy post (some (0, 0)) M := by
  obtain ⟨P, l, d, c, u, dr, dep, mul, sn, so, sx, sy, sz, ic, ml, hm, xo, cl, dn, cm, q, sd, mk, lf, lg, live, base, mid, cs, cn, cd, cc, cf, co, cw, tk, A, F, hl, hJ, hR, hC, hRM⟩ := id hI
  obtain ⟨rN, rT, rC, rG, rS, rK, rQ⟩ := id hR
  obtain ⟨sS, sP, sT, sI, sL, sC, sR⟩ := id hC
  obtain ⟨jN, jX, jQ, jG, jF, jM, jK, jP⟩ := id hJ
  have inv : ∀ M2, RM M A F M2 → INV K M2 := fun M2 rm => ⟨P, l, d, c, u, dr, dep, mul, sn, so, sx, sy, sz, ic, ml, hm, xo, cl, dn, cm, q, sd, mk, lf, lg, live, base, mid, cs, cn, cd, cc, cf, co, cw, tk, A, F, hl, hJ, hR, CB_off hJ.1.2.1 hC rm.2.2, RM_self rm⟩
  have hP4 : 1 ≤ P ∧ P ≤ 4 := ⟨jN.1, jN.2.1⟩
  refine c_deploy jP sS sP (fun g => h _ _ (NX_same hI hRM (fun p2 k => fs_M_deploy (Q := fun r A' F' => r = -1 ∧ A' = A ∧ F' = F) hRM (f_deploy jP rQ (fun _ => ⟨rfl, rfl, rfl⟩) (fun p e _ => by rw [g] at e; exact nomatch e) (fun p e _ => by rw [g] at e; exact nomatch e)) (fun r A' F' M2 rm e => by obtain ⟨rfl, rfl, rfl⟩ := e; exact k M2 rm)) inv)) (fun p e ns M1 s1 o1 => ?_) (fun p e ys M1 s1 s2 o1 => ?_)
  · have rm1 : RM M1 A F M1 := RM_mv hRM (fun r hr => o1 r (by omega))
    refine h _ M1 ⟨⟨_, rm1.1⟩, fun p2 k => fs_M_deploy (Q := fun r A' F' => r = -3 ∧ A' = A ∧ F' = upd F 14 (-1)) rm1 (f_deploy jP rQ (fun g => by rw [g] at e; exact nomatch e) (fun _ _ _ => ⟨rfl, rfl, rfl⟩) (fun p' e' g => by rw [e] at e'; cases e'; exact absurd g ns)) (fun r A' F' M2 rm e2 => ?_)⟩
    obtain ⟨rfl, rfl, hF⟩ := e2
    have kF : ∀ k, k ≠ 14 → F' k = F k := fun k z => by rw [hF, upd_n z]
    obtain ⟨n0, n1, n2, n3, n4⟩ := rN
    refine k M2 ⟨P, l, d, c, u, none, dep, mul, sn, so, sx, sy, sz, ic, ml, hm, xo, cl, dn, cm, q, sd, mk, lf, lg, live, base, mid, cs, cn, cd, cc, cf, co, cw, tk, A', F', by omega, ⟨jN, jX, jQ, jG, jF, jM, jK, ⟨jP.1, fun _ z => (nomatch z)⟩⟩, ⟨⟨?_, ?_, ?_, ?_, ?_⟩, rT, RC_ext rC (fun _ _ _ => rfl) (kF 0 (by decide)), rG, rS, rK, ⟨rQ.1, rQ.2.1, fun _ => by rw [hF, upd_s], fun _ z => (nomatch z)⟩⟩, CB_off hP4.2 ⟨s1, ?_, ?_, ?_, ?_, ?_, ?_⟩ rm.2.2, RM_self rm⟩
    · rw [kF 0 (by decide)]; exact n0
    · rw [kF 15 (by decide)]; exact n1
    · rw [kF 23 (by decide)]; exact n2
    · rw [kF 24 (by decide)]; exact n3
    · rw [kF 25 (by decide)]; exact n4
    · exact Pr_off sP (fun r hr => o1 r (by unfold dP at hr; omega))
    · exact Tk_off sT (fun r hr => o1 r (by omega))
    · exact Si_off sI hP4.2 (fun r hr => o1 r (by unfold dS at hr; omega))
    · exact Lg_off sL (fun r hr => o1 r (by unfold dG at hr; omega))
    · exact Cl_off sC (fun r hr => o1 r (by unfold dC at hr; omega))
    · exact Ru_off sR (fun r hr => o1 r (by unfold dR at hr; omega))
  · obtain ⟨d1, d2, d3, d4, d5⟩ := jP.2 p e
    have hdp : ∀ p', dep p' = true → p' ≠ p := fun p' g z => by rw [z, d2] at g; exact absurd g (by decide)
    have rm1 : RM M1 A F M1 := RM_mv hRM (fun r hr => o1 r (by omega) (fun z => by unfold dP at z; omega))
    refine h _ M1 ⟨⟨_, rm1.1⟩, fun p2 k => fs_M_deploy (Q := fun r A' F' => r = 0 ∧ A' = upA (upA (upA (dpR A p (sn p)) 9 (upd (A 9) p (nI (sn p)))) 8 (upd (A 8) p (mul p))) 7 (upd (A 7) p 1) ∧ F' = upd F 14 (-1)) rm1 (f_deploy jP rQ (fun g => by rw [g] at e; exact nomatch e) (fun p' e' g => by rw [e] at e'; cases e'; exact absurd ys g) (fun p' e' _ => by rw [e] at e'; cases e'; exact ⟨rfl, rfl, rfl⟩)) (fun r A' F' M2 rm e2 => ?_)⟩
    obtain ⟨rfl, hA, hF⟩ := e2
    have kF : ∀ k, k ≠ 14 → F' k = F k := fun k z => by rw [hF, upd_n z]
    have dn1 : ∀ k, ¬ (10 ≤ k ∧ k ≤ 13) → dpR A p (sn p) k = A k := fun k z => if_neg z
    have kA : ∀ k, (k < 7 ∨ 13 < k) → A' k = A k := fun k z => by rw [hA, upA_n (by omega), upA_n (by omega), upA_n (by omega), dn1 k (by omega)]
    have k7 : A' 7 = upd (A 7) p 1 := by rw [hA, upA_s]
    have k8 : A' 8 = upd (A 8) p (mul p) := by rw [hA, upA_n (by decide), upA_s]
    have k9 : A' 9 = upd (A 9) p (nI (sn p)) := by rw [hA, upA_n (by decide), upA_n (by decide), upA_s]
    have kd : ∀ k, 10 ≤ k → k ≤ 13 → A' k = dpA p 0 (A k) (sn p) := fun k z1 z2 => by
      rw [hA, upA_n (by omega), upA_n (by omega), upA_n (by omega)]
      exact if_pos ⟨z1, z2⟩
    have ot : ∀ t, 10 ≤ t → t ≤ 13 → ∀ p' k, p' ≠ p → k < 8 → A' t (8 * p' + k) = A t (8 * p' + k) := fun t z1 z2 p' k g1 g2 => by
      rw [kd t z1 z2]
      exact if_neg (by omega)
    have it : ∀ t, 10 ≤ t → t ≤ 13 → ∀ k, k < sn p → A' t (8 * p + k) = A t (48 + k) := fun t z1 z2 k g => by
      rw [kd t z1 z2]
      unfold dpA
      rw [if_pos (by omega), show 8 * p + k - 8 * p = k by omega]
    obtain ⟨n0, n1, n2, n3, n4⟩ := rN
    obtain ⟨w1, w2, w3, w4⟩ := rQ.2.2.2 p e
    refine k M2 ⟨P, l, d, c, u, none, ub dep p true, mul, sn, so, sx, sy, sz, ic, ml, hm, xo, cl, dn, cm, q, sd, mk, lf, lg, live, base, mid, cs, cn, cd, cc, cf, co, cw, tk, A', F', by omega, ⟨jN, jX, jQ, jG, ?_, jM, ?_, ⟨fun p' hp' hd' => ?_, fun _ z => (nomatch z)⟩⟩, ⟨⟨?_, ?_, ?_, ?_, ?_⟩, RT_ext rT (fun k hk => kA k (by omega)), ?_, RG_ext rG ⟨kA _ (by omega), kA _ (by omega)⟩, RS_ext rS (kA _ (by omega)), RK_ext rK (fun k _ _ => kA k (by omega)), ⟨fun p' hp' => ?_, fun p' hp' hd' => ?_, fun _ => by rw [hF, upd_s], fun _ z => (nomatch z)⟩⟩, CB_off hP4.2 ⟨s1, s2, ?_, ?_, ?_, ?_, ?_⟩ rm.2.2, RM_self rm⟩
    · rw [kA 20 (by omega), kA 21 (by omega), kA 22 (by omega)]; exact jF
    · rw [kA 20 (by omega), kA 21 (by omega), kA 22 (by omega)]; exact jK
    · by_cases ep : p' = p
      · subst ep
        exact ⟨⟨d3, d4, d5⟩, fun z k hk g => (ys.2 k hk).2 g z⟩
      · rw [ub_n ep] at hd'
        exact jP.1 p' hp' hd'
    · rw [kF 0 (by decide)]; exact n0
    · rw [kF 15 (by decide)]; exact n1
    · rw [kF 23 (by decide)]; exact n2
    · rw [kF 24 (by decide)]; exact n3
    · rw [kF 25 (by decide)]; exact n4
    · refine RC_pt rC (fun n _ _ => ?_) (fun p' hp' h7 => ?_) (kF 0 (by decide))
      · rw [kA 16 (by omega), kA 17 (by omega)]; exact ⟨rfl, rfl, rfl, rfl⟩
      · have ep : p' ≠ p := fun z => by rw [z, rQ.1 p d1, d2] at h7; exact absurd h7 (by decide)
        rw [k7, k8, k9, upd_n ep, upd_n ep, upd_n ep]
        exact ⟨h7, rfl, rfl, fun k hk => ⟨ot 10 (by decide) (by decide) p' k ep hk, ot 11 (by decide) (by decide) p' k ep hk, ot 12 (by decide) (by decide) p' k ep hk, ot 13 (by decide) (by decide) p' k ep hk⟩⟩
    · rw [k7]
      by_cases ep : p' = p
      · subst ep
        rw [upd_s, ub_s]
        rfl
      · rw [upd_n ep, ub_n ep]
        exact rQ.1 p' hp'
    · by_cases ep : p' = p
      · subst ep
        rw [k8, k9, upd_s, upd_s]
        refine ⟨rfl, rfl, fun k hk => ?_⟩
        rw [it 10 (by decide) (by decide) k hk, it 11 (by decide) (by decide) k hk, it 12 (by decide) (by decide) k hk, it 13 (by decide) (by decide) k hk]
        exact w4 k hk
      · rw [ub_n ep] at hd'
        obtain ⟨x1, x2, x3⟩ := rQ.2.1 p' hp' hd'
        have w8 := (jP.1 p' hp' hd').1.2.1
        rw [k8, k9, upd_n ep, upd_n ep]
        refine ⟨x1, x2, fun k hk => ?_⟩
        rw [ot 10 (by decide) (by decide) p' k ep (by omega), ot 11 (by decide) (by decide) p' k ep (by omega), ot 12 (by decide) (by decide) p' k ep (by omega), ot 13 (by decide) (by decide) p' k ep (by omega)]
        exact x3 k hk
    · exact Tk_ext (Tk_off sT (fun r hr => o1 r (by omega) (fun z => by unfold dP at z; omega))) (fun p' hp' hd' => ⟨by rw [ub_n (hdp p' hd')]; exact hd', rfl, rfl, rfl, rfl, rfl, rfl⟩)
    · exact Si_off sI hP4.2 (fun r hr => o1 r (by unfold dS at hr; omega) (fun z => by unfold dS at hr; unfold dP at z; omega))
    · exact Lg_off sL (fun r hr => o1 r (by unfold dG at hr; omega) (fun z => by unfold dG at hr; unfold dP at z; omega))
    · exact Cl_off sC (fun r hr => o1 r (by unfold dC at hr; omega) (fun z => by unfold dC at hr; unfold dP at z; omega))
    · exact Ru_off sR (fun r hr => o1 r (by unfold dR at hr; omega) (fun z => by unfold dR at hr; unfold dP at z; omega))
