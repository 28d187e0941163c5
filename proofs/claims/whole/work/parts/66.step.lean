set_option maxHeartbeats 4000000 in
theorem j_step {K : Nat} {M : wM} {x : Int32} {post : Int32 → wM → Prop} (hK : K ≤ 511) (hI : INV K M) (h : ∀ r M1, NX (K + 1) r (fun p2 M1 => wp_M_step p2 (some (40, 0)) x M1) M1 → post r M1) : wp_S_step post (some (0, 0)) x M := by
  obtain ⟨P, l, d, c, u, dr, dep, mul, sn, so, sx, sy, sz, ic, ml, hm, xo, cl, dn, cm, q, sd, mk, lf, lg, live, base, mid, cs, cn, cd, cc, cf, co, cw, tk, A, F, hl, hJ, hR, hC, hRM⟩ := id hI
  obtain ⟨rN, rT, rC, rG, rS, rK, rQ⟩ := id hR
  obtain ⟨sS, sP, sT, sI, sL, sC, sR⟩ := id hC
  obtain ⟨jN, jX, jQ, jG, jF, jM, jK, jP⟩ := id hJ
  have inv : ∀ M2, RM M A F M2 → INV K M2 := fun M2 rm => ⟨P, l, d, c, u, dr, dep, mul, sn, so, sx, sy, sz, ic, ml, hm, xo, cl, dn, cm, q, sd, mk, lf, lg, live, base, mid, cs, cn, cd, cc, cf, co, cw, tk, A, F, hl, hJ, hR, CB_off hJ.1.2.1 hC rm.2.2, RM_self rm⟩
  have hP4 : 1 ≤ P ∧ P ≤ 4 := ⟨jN.1, jN.2.1⟩
  have hql : ∀ i, i < P → (q i).length ≤ l := fun i hi => JQ_len jQ hi
  have hqm : ∀ i, i < P → ∀ n, n ∈ q i → 1 ≤ n ∧ n ≤ l := fun i hi n hn => JQ_mem jQ hi hn
  obtain ⟨jP1, jP2, jcd, jdl, jul, jcu⟩ := id jN
  have hlg : ∀ n, n ∈ lg → 1 ≤ n ∧ n ≤ l ∧ ic n = true := fun n hn => by
    rw [show lg = _ from jG] at hn
    obtain ⟨x1, x2⟩ := List.mem_filter.mp hn
    have := mem_nu.mp x1
    exact ⟨by omega, by omega, x2⟩
  have hgl : lg.length ≤ 512 := by
    rw [show lg = _ from jG]
    refine Nat.le_trans (List.length_filter_le _ _) ?_
    unfold nu
    rw [List.length_range']
    omega
  have hcn : ∀ c, c < 4 → cn c ≤ 1000 := fun c hc => by
    have := (rK c hc).2.2.1
    omega
  have hk28 : ∀ c, c < 4 → A 28 c = nI (cn c) ∧ cn c ≤ 513 := fun c hc => ⟨(rK c hc).2.1, (rK c hc).2.2.1⟩
  have hpen : ∀ c, c < 4 → A 27 c = 1 → 1 ≤ cn c ∧ cn c ≤ l := fun c hc hp => by
    rw [(rK c hc).1] at hp
    have := jK.1 c hc hp
    exact ⟨this.1, this.2.1⟩
  have hz : ∀ n i, P ≤ i → cm n i = false := jQ.2.2.2.2.2
  have hdu : u ≠ 0 → ic u = false := fun hu => (jQ.2.2.1 hu).1
  have hmk : ∀ i n, i < P → 1 ≤ n → n ≤ l → ic n = false → wt ic ml hm dn cm i n = true → n = u := fun i n hi h1 hn hic hw => JQ_mk jQ hi h1 hn hic hw
  obtain ⟨n0, n1, n2, n3, n4⟩ := id rN
  -- the reference at the same site and the same first
  have ref : ∀ (Q : Int32 → RA → RF → Prop) (i n : Nat) (t : List Nat), i < P → x = nI i → q i = n :: t →
      ((ic n = true → ml n = true → ¬ (∀ j, j < P → cset (cm n) i j = true) → ∀ A', RG l dn (cmS cm n i) A' → (∀ k, k ≠ 19 → A' k = A k) → Q 2 A' F) ∧
      (ic n = true → (ml n = true → ∀ j, j < P → cset (cm n) i j = true) → ∀ A', RR d n dn cn (xo n live) base A A' → RG l (ub dn n true) (cmS cm n i) A' → Q 1 A' F) ∧
      (n = u → ic n = false → ¬ (u ≠ 0 ∧ ∀ j, j < P → cmS cm n i u j = true ∧ un lf i (cpn (A 1) P i 32) j = 0) → ∀ A', RG l dn (cmS cm n i) A' → RS (un lf i (cpn (A 1) P i 32)) A' → (∀ k, k ≠ 19 → k ≠ 26 → A' k = A k) → Q 3 A' F) ∧
      (n = u → ic n = false → (u ≠ 0 ∧ ∀ j, j < P → cmS cm n i u j = true ∧ un lf i (cpn (A 1) P i 32) j = 0) → ∀ A2 base' A' F', RG l dn (cmS cm n i) A2 → RS (un lf i (cpn (A 1) P i 32)) A2 → (∀ k, k ≠ 19 → k ≠ 26 → A2 k = A k) → CR P l d c u ic dn xo cn base base' A2 A' → RN P l (max d u) u 0 F' → F' 14 = F 14 → Q 3 A' F')) → fw_M_step Q x A F := fun Q i n t hi ex hq W => by
    obtain ⟨m1, ml1, mw, mf⟩ := fi_head ((jQ.1 i hi).symm.trans hq)
    refine f_step (cn := cn) rN jN rT rC rG rS (by omega) hz hdu hk28 hpen hmk (fun g => absurd ex (g i hi)) (fun i' hi' ex' g => ?_) (fun i' n' hi' ex' h1' hn' hw' hb' => ?_)
    · have z : i' = i := (nI_eq (by omega) (by omega)).mp (ex'.symm.trans ex)
      subst z
      rw [g n m1 ml1] at mw
      exact absurd mw (by decide)
    · have z : i' = i := (nI_eq (by omega) (by omega)).mp (ex'.symm.trans ex)
      subst z
      have z : n' = n := by
        rcases Nat.lt_trichotomy n' n with g | g | g
        · rw [mf n' h1' g] at hw'
          exact absurd hw' (by decide)
        · exact g
        · rw [hb' n m1 g] at mw
          exact absurd mw (by decide)
      subst z
      exact W
  have hun : ∀ i n t, i < P → q i = n :: t → ic n = true → u ≠ 0 → u ≠ n := fun i n t _ _ hic hu z => by
    have := hdu hu
    rw [z, hic] at this
    exact absurd this (by decide)
  -- a command has run
  have runleaf : ∀ (i n : Nat) (t : List Nat), i < P → x = nI i → q i = n :: t → ic n = true → (ml n = true → ∀ j, j < P → cset (cm n) i j = true) → ∀ q' sd', JQ P l u ic ml hm (ub dn n true) (cmS cm n i) q' sd' mk → ∀ M1, Si P tk q' sd' mk lf M1 → FIN P d n xo cl cs cn cd cc cf co cw live base mid M1 → (∀ r, ¬ dS r → ¬ dC r → ¬ dR r → M1 r = M r) → post 1 M1 := fun i n t hi ex hq hic hml q' sd' jQ' M1 s4 fin o1 => by
    obtain ⟨m1, ml1, mw, mf⟩ := fi_head ((jQ.1 i hi).symm.trans hq)
    have hd := wt_dn mw
    obtain ⟨w', fl', j, hj, ho, hw, hfl, s6, s7⟩ := fin
    have rm1 : RM M1 A F M1 := RM_mv hRM (fun r hr => o1 r (fun z => by unfold dS at z; omega) (fun z => by unfold dC at z; omega) (fun z => by unfold dR at z; omega))
    refine h _ M1 ⟨⟨_, rm1.1⟩, fun p2 k => fs_M_step (Q := fun r A' F' => r = 1 ∧ (RR d n dn cn (xo n live) base A A' ∧ RG l (ub dn n true) (cmS cm n i) A') ∧ F' = F) rm1 (ref _ i n t hi ex hq ⟨fun _ z g => absurd (hml z) g, fun _ _ A' w1 w2 => ⟨rfl, ⟨w1, w2⟩, rfl⟩, fun _ z => by rw [hic] at z; exact absurd z (by decide), fun _ z => by rw [hic] at z; exact absurd z (by decide)⟩) (fun r A' F' M2 rm e2 => ?_)⟩
    obtain ⟨rfl, ⟨⟨w1, w20, w21, w22, w22', ⟨A3, hA3⟩, kA⟩, rG'⟩, rfl⟩ := e2
    have hcn' : c < n := by
      rcases Nat.lt_or_ge c n with g | g
      · exact g
      · rw [jF.2.1 n m1 g hic] at hd
        exact absurd hd (by decide)
    refine k M2 ⟨P, l, d, c, u, dr, dep, mul, sn, so, sx, sy, sz, ic, ml, hm, xo, cl, ub dn n true, cmS cm n i, q', sd', mk, lf, lg, xd xo n live, base, mid, _, cn, _, _, _, _, _, tk, A', F', by omega, ⟨jN, jX, jQ', jG, JF_run jX (RC_o rC) jF (by omega) hP4.2 hcn' ml1 hic hd (hH_S jX jQ hi m1 mw hic) w20 w21 w22 w22', fun hu j hj hc => ?_, JK_run jK m1 ml1 hic hd hj ho hw hfl w20 w21 w22 w22', jP⟩, ⟨⟨n0, n1, n2, n3, n4⟩, w1, RC_ext rC (fun k g1 g2 => kA k (by omega)) rfl, rG', RS_ext rS (kA 26 (by omega)), RK_run (A := A) jK rK m1 ml1 hic hd hj ho hw hfl w20 w21 w22 hA3 (kA 28 (by omega)), RQ_ext rQ (fun k g1 g2 => kA k (by omega)) rfl⟩, CB_off hP4.2 ⟨?_, ?_, ?_, s4, ?_, s6, s7⟩ rm.2.2, RM_self rm⟩
    · rw [cmS_n (hun i n t hi hq hic hu)] at hc
      exact jM hu j hj hc
    · exact St_off sS (fun r hr => o1 r (fun z => by unfold dO at hr; unfold dS at z; omega) (fun z => by unfold dO at hr; unfold dC at z; omega) (fun z => by unfold dO at hr; unfold dR at z; omega))
    · exact Pr_off sP (fun r hr => o1 r (fun z => by unfold dP at hr; unfold dS at z; omega) (fun z => by unfold dP at hr; unfold dC at z; omega) (fun z => by unfold dP at hr; unfold dR at z; omega))
    · exact Tk_off sT (fun r hr => o1 r (fun z => by unfold dS at z; omega) (fun z => by unfold dC at z; omega) (fun z => by unfold dR at z; omega))
    · exact Lg_off sL (fun r hr => o1 r (fun z => by unfold dG at hr; unfold dS at z; omega) (fun z => by unfold dG at hr; unfold dC at z; omega) (fun z => by unfold dG at hr; unfold dR at z; omega))
  refine c_step hP4 jP (by omega) (by omega) hcn sS sP sT sI sL hqm (fun n hn => ⟨(hlg n hn).1, (hlg n hn).2.1⟩) (by omega) (fun i hi => by have := hql i hi; omega) hgl (fun i hi => by have := (rS i (by omega)).2; omega) sC sR (fun g => h _ _ (NX_same hI hRM (fun p2 k => fs_M_step (Q := fun r A' F' => r = -1 ∧ A' = A ∧ F' = F) hRM (f_step (cn := cn) rN jN rT rC rG rS (by omega) hz hdu hk28 hpen hmk (fun _ => ⟨rfl, rfl, rfl⟩) (fun i hi ex _ => absurd ex (g i hi)) (fun i n hi ex _ _ _ _ => absurd ex (g i hi))) (fun r A' F' M2 rm e => by obtain ⟨rfl, rfl, rfl⟩ := e; exact k M2 rm)) inv)) (fun i hi ex hq => h _ _ (NX_same hI hRM (fun p2 k => fs_M_step (Q := fun r A' F' => r = 0 ∧ A' = A ∧ F' = F) hRM (f_step (cn := cn) rN jN rT rC rG rS (by omega) hz hdu hk28 hpen hmk (fun g => absurd ex (g i hi)) (fun _ _ _ _ => ⟨rfl, rfl, rfl⟩) (fun i' n' hi' ex' h1' hn' hw' _ => by have z : i' = i := (nI_eq (by omega) (by omega)).mp (ex'.symm.trans ex); subst z; have := fi_nil ((jQ.1 i' hi).symm.trans hq) n' h1' hn'; rw [hw'] at this; exact absurd this (by decide))) (fun r A' F' M2 rm e => by obtain ⟨rfl, rfl, rfl⟩ := e; exact k M2 rm)) inv)) (fun i n t hi ex hq => ?_)
  refine ⟨fun hic hml hna M1 s4 o1 => ?_, fun hic hml hal M1 s4 fin o1 => ?_, fun hic hml M1 s4 fin o1 => ?_, fun hic hno M1 s4 s7 o1 => ?_, fun hic hal M1 s1 s4 s5 s6 s7 o1 => ?_⟩
  · have hna' : ¬ ∀ j, j < P → cset (cm n) i j = true := fun g => hna ((JQ_all jQ hi hq hic hml).mpr g)
    have rm1 : RM M1 A F M1 := RM_mv hRM (fun r hr => o1 r (fun z => by unfold dS at z; omega))
    refine h _ M1 ⟨⟨_, rm1.1⟩, fun p2 k => fs_M_step (Q := fun r A' F' => r = 2 ∧ (RG l dn (cmS cm n i) A' ∧ (∀ k, k ≠ 19 → A' k = A k)) ∧ F' = F) rm1 (ref _ i n t hi ex hq ⟨fun _ _ _ A' w1 w2 => ⟨rfl, ⟨w1, w2⟩, rfl⟩, fun _ z => absurd (z hml) hna', fun _ z => by rw [hic] at z; exact absurd z (by decide), fun _ z => by rw [hic] at z; exact absurd z (by decide)⟩) (fun r A' F' M2 rm e2 => ?_)⟩
    obtain ⟨rfl, ⟨rG', kA⟩, rfl⟩ := e2
    refine k M2 ⟨P, l, d, c, u, dr, dep, mul, sn, so, sx, sy, sz, ic, ml, hm, xo, cl, dn, cmS cm n i, q, ub sd i true, mk, lf, lg, live, base, mid, cs, cn, cd, cc, cf, co, cw, tk, A', F', by omega, ⟨jN, jX, JQ_stall jQ hi hq hic hml, jG, ?_, fun hu j hj hc => ?_, ?_, jP⟩, ⟨rN, RT_ext rT (fun k hk => kA k (by omega)), RC_ext rC (fun k g1 g2 => kA k (by omega)) rfl, rG', RS_ext rS (kA 26 (by decide)), RK_ext rK (fun k g1 g2 => kA k (by omega)), RQ_ext rQ (fun k g1 g2 => kA k (by omega)) rfl⟩, CB_off hP4.2 ⟨?_, ?_, ?_, s4, ?_, ?_, ?_⟩ rm.2.2, RM_self rm⟩
    · rw [kA 20 (by decide), kA 21 (by decide), kA 22 (by decide)]; exact jF
    · rw [cmS_n (hun i n t hi hq hic hu)] at hc
      exact jM hu j hj hc
    · rw [kA 20 (by decide), kA 21 (by decide), kA 22 (by decide)]; exact jK
    · exact St_off sS (fun r hr => o1 r (fun z => by unfold dO at hr; unfold dS at z; omega))
    · exact Pr_off sP (fun r hr => o1 r (fun z => by unfold dP at hr; unfold dS at z; omega))
    · exact Tk_off sT (fun r hr => o1 r (fun z => by unfold dS at z; omega))
    · exact Lg_off sL (fun r hr => o1 r (fun z => by unfold dG at hr; unfold dS at z; omega))
    · exact Cl_off sC (fun r hr => o1 r (fun z => by unfold dC at hr; unfold dS at z; omega))
    · exact Ru_off sR (fun r hr => o1 r (fun z => by unfold dR at hr; unfold dS at z; omega))
  · have hal' := (JQ_all jQ hi hq hic hml).mp hal
    exact runleaf i n t hi ex hq hic (fun _ => hal') _ _ (JQ_runM jQ hi hq hic hml hal').1 M1 s4 fin o1
  · exact runleaf i n t hi ex hq hic (fun z => by rw [hml] at z; exact absurd z (by decide)) _ _ (JQ_runS jQ hi hq hic hml) M1 s4 fin o1
  · obtain ⟨m1, ml1, mw, mf⟩ := fi_head ((jQ.1 i hi).symm.trans hq)
    have hnu := hmk i n hi m1 ml1 hic mw
    subst hnu
    have hu0 : n ≠ 0 := by omega
    have jQ' := JQ_mark jQ hi hq hic
    have hcu : c < n := jcu.resolve_left hu0
    have jM' := JM_mark hP4 jX jQ jF jM (by omega) hcu jul hi hq hic
    have hno' : ¬ (n ≠ 0 ∧ ∀ j, j < P → cmS cm n i n j = true ∧ un lf i (cpn (A 1) P i 32) j = 0) := fun g => hno (fun j hj => by
      rw [rT.1] at g
      exact ⟨((jQ'.2.2.1 hu0).2.2 j hj).trans (g.2 j hj).1, (g.2 j hj).2⟩)
    have rm1 : RM M1 A F M1 := RM_mv hRM (fun r hr => o1 r (fun z => by unfold dS at z; omega) (fun z => by unfold dR at z; omega))
    refine h _ M1 ⟨⟨_, rm1.1⟩, fun p2 k => fs_M_step (Q := fun r A' F' => r = 3 ∧ (RG l dn (cmS cm n i) A' ∧ RS (un lf i (cpn (A 1) P i 32)) A' ∧ (∀ k, k ≠ 19 → k ≠ 26 → A' k = A k)) ∧ F' = F) rm1 (ref _ i n t hi ex hq ⟨fun z => by rw [hic] at z; exact absurd z (by decide), fun z => by rw [hic] at z; exact absurd z (by decide), fun _ _ _ A' w1 w2 w3 => ⟨rfl, ⟨w1, w2, w3⟩, rfl⟩, fun _ _ g => absurd g hno'⟩) (fun r A' F' M2 rm e2 => ?_)⟩
    obtain ⟨rfl, ⟨rG', rS', kA⟩, rfl⟩ := e2
    rw [rT.1] at rS'
    refine k M2 ⟨P, l, d, c, n, dr, dep, mul, sn, so, sx, sy, sz, ic, ml, hm, xo, cl, dn, cmS cm n i, _, _, _, _, lg, live, base, _, cs, cn, cd, cc, cf, co, cw, tk, A', F', by omega, ⟨jN, jX, jQ', jG, ?_, jM', ?_, jP⟩, ⟨rN, RT_ext rT (fun k hk => kA k (by omega) (by omega)), RC_ext rC (fun k g1 g2 => kA k (by omega) (by omega)) rfl, rG', rS', RK_ext rK (fun k g1 g2 => kA k (by omega) (by omega)), RQ_ext rQ (fun k g1 g2 => kA k (by omega) (by omega)) rfl⟩, CB_off hP4.2 ⟨?_, ?_, ?_, s4, ?_, ?_, s7⟩ rm.2.2, RM_self rm⟩
    · rw [kA 20 (by decide) (by decide), kA 21 (by decide) (by decide), kA 22 (by decide) (by decide)]; exact jF
    · rw [kA 20 (by decide) (by decide), kA 21 (by decide) (by decide), kA 22 (by decide) (by decide)]; exact jK
    · exact St_off sS (fun r hr => o1 r (fun z => by unfold dO at hr; unfold dS at z; omega) (fun z => by unfold dO at hr; unfold dR at z; omega))
    · exact Pr_off sP (fun r hr => o1 r (fun z => by unfold dP at hr; unfold dS at z; omega) (fun z => by unfold dP at hr; unfold dR at z; omega))
    · exact Tk_off sT (fun r hr => o1 r (fun z => by unfold dS at z; omega) (fun z => by unfold dR at z; omega))
    · exact Lg_off sL (fun r hr => o1 r (fun z => by unfold dG at hr; unfold dS at z; omega) (fun z => by unfold dG at hr; unfold dR at z; omega))
    · exact Cl_off sC (fun r hr => o1 r (fun z => by unfold dC at hr; unfold dS at z; omega) (fun z => by unfold dC at hr; unfold dR at z; omega))
  · obtain ⟨m1, ml1, mw, mf⟩ := fi_head ((jQ.1 i hi).symm.trans hq)
    have hnu := hmk i n hi m1 ml1 hic mw
    subst hnu
    have hu0 : n ≠ 0 := by omega
    have jQ' := JQ_mark jQ hi hq hic
    have hcu : c < n := jcu.resolve_left hu0
    have jM' := JM_mark hP4 jX jQ jF jM (by omega) hcu jul hi hq hic
    have hf : ∀ j, j < P → cmS cm n i n j = true := fun j hj => ((jQ'.2.2.1 hu0).2.2 j hj).symm.trans (hal j hj).1
    have hal' : n ≠ 0 ∧ ∀ j, j < P → cmS cm n i n j = true ∧ un lf i (cpn (A 1) P i 32) j = 0 := ⟨hu0, fun j hj => by
      rw [rT.1]
      exact ⟨hf j hj, (hal j hj).2⟩⟩
    have rm1 : RM M1 A F M1 := RM_mv hRM (fun r hr => o1 r (by omega) (fun z => by unfold dS at z; omega) (fun z => by unfold dG at z; omega) (fun z => by unfold dC at z; omega) (fun z => by unfold dR at z; omega))
    refine h _ M1 ⟨⟨_, rm1.1⟩, fun p2 k => fs_M_step (Q := fun r A' F' => r = 3 ∧ ∃ A2 base', RG l dn (cmS cm n i) A2 ∧ RS (un lf i (cpn (A 1) P i 32)) A2 ∧ (∀ k, k ≠ 19 → k ≠ 26 → A2 k = A k) ∧ CR P l d c n ic dn xo cn base base' A2 A' ∧ RN P l (max d n) n 0 F' ∧ F' 14 = F 14) rm1 (ref _ i n t hi ex hq ⟨fun z => by rw [hic] at z; exact absurd z (by decide), fun z => by rw [hic] at z; exact absurd z (by decide), fun _ _ g => absurd hal' g, fun _ _ _ A2 base' A' F' w1 w2 w3 w4 w5 w6 => ⟨rfl, A2, base', w1, w2, w3, w4, w5, w6⟩⟩) (fun r A' F' M2 rm e2 => ?_)⟩
    obtain ⟨rfl, A2, base', rG', rS', kA, cr, rN', h14⟩ := e2
    rw [rT.1] at rS'
    refine k M2 (INV_comp (A := A2) (cl := cl) (by omega) (by omega) ⟨jN, jX, jQ', jG, ?_, jM', ?_, jP⟩ hu0 hf (RC_ext rC (fun k g1 g2 => kA k (by omega) (by omega)) rfl) n0 rG' rS' (RK_ext rK (fun k g1 g2 => kA k (by omega) (by omega))) (RQ_ext rQ (fun k g1 g2 => kA k (by omega) (by omega)) rfl) cr rN' h14 ⟨s1, ?_, ?_, s4, s5, s6, s7⟩ rm)
    · rw [kA 20 (by decide) (by decide), kA 21 (by decide) (by decide), kA 22 (by decide) (by decide)]; exact jF
    · rw [kA 20 (by decide) (by decide), kA 21 (by decide) (by decide), kA 22 (by decide) (by decide)]; exact jK
    · exact Pr_off sP (fun r hr => o1 r (by unfold dP at hr; omega) (fun z => by unfold dP at hr; unfold dS at z; omega) (fun z => by unfold dP at hr; unfold dG at z; omega) (fun z => by unfold dP at hr; unfold dC at z; omega) (fun z => by unfold dP at hr; unfold dR at z; omega))
    · exact Tk_off sT (fun r hr => o1 r (by omega) (fun z => by unfold dS at z; omega) (fun z => by unfold dG at z; omega) (fun z => by unfold dC at z; omega) (fun z => by unfold dR at z; omega))
set_option maxHeartbeats 4000000 in
theorem j_scan {K : Nat} {M : wM} {x : Int32} {y : Int32} {post : Int32 → wM → Prop} (hK : K ≤ 511) (hI : INV K M) (h : ∀ r M1, NX (K + 1) r (fun p2 M1 => wp_M_scan p2 (some (40, 0)) x y M1) M1 → post r M1) : wp_S_scan post (some (0, 0)) x y M := by
  obtain ⟨P, l, d, c, u, dr, dep, mul, sn, so, sx, sy, sz, ic, ml, hm, xo, cl, dn, cm, q, sd, mk, lf, lg, live, base, mid, cs, cn, cd, cc, cf, co, cw, tk, A, F, hl, hJ, hR, hC, hRM⟩ := id hI
  obtain ⟨rN, rT, rC, rG, rS, rK, rQ⟩ := id hR
  obtain ⟨sS, sP, sT, sI, sL, sC, sR⟩ := id hC
  obtain ⟨jN, jX, jQ, jG, jF, jM, jK, jP⟩ := id hJ
  have inv : ∀ M2, RM M A F M2 → INV K M2 := fun M2 rm => ⟨P, l, d, c, u, dr, dep, mul, sn, so, sx, sy, sz, ic, ml, hm, xo, cl, dn, cm, q, sd, mk, lf, lg, live, base, mid, cs, cn, cd, cc, cf, co, cw, tk, A, F, hl, hJ, hR, CB_off hJ.1.2.1 hC rm.2.2, RM_self rm⟩
  have hP4 : 1 ≤ P ∧ P ≤ 4 := ⟨jN.1, jN.2.1⟩
  have hql : ∀ i, i < P → (q i).length ≤ l := fun i hi => JQ_len jQ hi
  have hqm : ∀ i, i < P → ∀ n, n ∈ q i → 1 ≤ n ∧ n ≤ l := fun i hi n hn => JQ_mem jQ hi hn
  obtain ⟨jP1, jP2, jcd, jdl, jul, jcu⟩ := id jN
  have hlg : ∀ n, n ∈ lg → 1 ≤ n ∧ n ≤ l ∧ ic n = true := fun n hn => by
    rw [show lg = _ from jG] at hn
    obtain ⟨x1, x2⟩ := List.mem_filter.mp hn
    have := mem_nu.mp x1
    exact ⟨by omega, by omega, x2⟩
  have hgl : lg.length ≤ 512 := by
    rw [show lg = _ from jG]
    refine Nat.le_trans (List.length_filter_le _ _) ?_
    unfold nu
    rw [List.length_range']
    omega
  have hcn : ∀ c, c < 4 → cn c ≤ 1000 := fun c hc => by
    have := (rK c hc).2.2.1
    omega
  have hk28 : ∀ c, c < 4 → A 28 c = nI (cn c) ∧ cn c ≤ 513 := fun c hc => ⟨(rK c hc).2.1, (rK c hc).2.2.1⟩
  have hpen : ∀ c, c < 4 → A 27 c = 1 → 1 ≤ cn c ∧ cn c ≤ l := fun c hc hp => by
    rw [(rK c hc).1] at hp
    have := jK.1 c hc hp
    exact ⟨this.1, this.2.1⟩
  have hz : ∀ n i, P ≤ i → cm n i = false := jQ.2.2.2.2.2
  have hdu : u ≠ 0 → ic u = false := fun hu => (jQ.2.2.1 hu).1
  obtain ⟨n0, n1, n2, n3, n4⟩ := id rN
  refine c_scan hP4 (by omega) (by omega) hcn sS sT sI sL (fun n hn => ⟨(hlg n hn).1, (hlg n hn).2.1⟩) (by omega) hgl (fun i hi => by have := (rS i (by omega)).2; omega) sC sR (fun g => h _ _ (NX_same hI hRM (fun p2 k => fs_M_scan (Q := fun r A' F' => r = -1 ∧ A' = A ∧ F' = F) hRM (f_scan (cn := cn) rN jN rT rC rG rS (by omega) hz hdu hk28 hpen (fun _ => ⟨rfl, rfl, rfl⟩) (fun i hi ex hu hc _ => absurd ⟨i, hi, ex, hu, ((jQ.2.2.1 hu).2.2 i hi).trans hc⟩ g) (fun i hi ex hu hc _ => absurd ⟨i, hi, ex, hu, ((jQ.2.2.1 hu).2.2 i hi).trans hc⟩ g)) (fun r A' F' M2 rm e => by obtain ⟨rfl, rfl, rfl⟩ := e; exact k M2 rm)) inv)) (fun i hi ex hu hm1 hno M1 s4 o1 => ?_) (fun i hi ex hu hm1 hal M1 s1 s4 s5 s6 s7 o1 => ?_)
  · have mkc := (jQ.2.2.1 hu).2.2
    have hci : cm u i = true := (mkc i hi).symm.trans hm1
    have hno' : ¬ (u ≠ 0 ∧ ∀ j, j < P → cm u j = true ∧ un lf i (lf i - ix y) j = 0) := fun g => hno (fun j hj => ⟨(mkc j hj).trans (g.2 j hj).1, (g.2 j hj).2⟩)
    have rm1 : RM M1 A F M1 := RM_mv hRM (fun r hr => o1 r (fun z => by unfold dS at z; omega))
    refine h _ M1 ⟨⟨_, rm1.1⟩, fun p2 k => fs_M_scan (Q := fun r A' F' => r = nI (lf i - ix y) ∧ (RS (un lf i (lf i - ix y)) A' ∧ (∀ k, k ≠ 26 → A' k = A k)) ∧ F' = F) rm1 (f_scan (cn := cn) rN jN rT rC rG rS (by omega) hz hdu hk28 hpen (fun g => absurd ⟨i, hi, ex, hu, hci⟩ g) (fun i' hi' ex' _ _ _ A' w1 w2 => by
      have z : i' = i := (nI_eq (by omega) (by omega)).mp (ex'.symm.trans ex)
      subst z
      exact ⟨rfl, ⟨w1, w2⟩, rfl⟩) (fun i' hi' ex' _ _ g => by
      have z : i' = i := (nI_eq (by omega) (by omega)).mp (ex'.symm.trans ex)
      subst z
      exact absurd g hno')) (fun r A' F' M2 rm e2 => ?_)⟩
    obtain ⟨rfl, ⟨rS', kA⟩, rfl⟩ := e2
    refine k M2 ⟨P, l, d, c, u, dr, dep, mul, sn, so, sx, sy, sz, ic, ml, hm, xo, cl, dn, cm, q, sd, mk, _, lg, live, base, mid, cs, cn, cd, cc, cf, co, cw, tk, A', F', by omega, ⟨jN, jX, jQ, jG, ?_, jM, ?_, jP⟩, ⟨rN, RT_ext rT (fun k hk => kA k (by omega)), RC_ext rC (fun k g1 g2 => kA k (by omega)) rfl, RG_ext rG ⟨kA 18 (by decide), kA 19 (by decide)⟩, rS', RK_ext rK (fun k g1 g2 => kA k (by omega)), RQ_ext rQ (fun k g1 g2 => kA k (by omega)) rfl⟩, CB_off hP4.2 ⟨?_, ?_, ?_, s4, ?_, ?_, ?_⟩ rm.2.2, RM_self rm⟩
    · rw [kA 20 (by decide), kA 21 (by decide), kA 22 (by decide)]; exact jF
    · rw [kA 20 (by decide), kA 21 (by decide), kA 22 (by decide)]; exact jK
    · exact St_off sS (fun r hr => o1 r (fun z => by unfold dO at hr; unfold dS at z; omega))
    · exact Pr_off sP (fun r hr => o1 r (fun z => by unfold dP at hr; unfold dS at z; omega))
    · exact Tk_off sT (fun r hr => o1 r (fun z => by unfold dS at z; omega))
    · exact Lg_off sL (fun r hr => o1 r (fun z => by unfold dG at hr; unfold dS at z; omega))
    · exact Cl_off sC (fun r hr => o1 r (fun z => by unfold dC at hr; unfold dS at z; omega))
    · exact Ru_off sR (fun r hr => o1 r (fun z => by unfold dR at hr; unfold dS at z; omega))
  · have mkc := (jQ.2.2.1 hu).2.2
    have hci : cm u i = true := (mkc i hi).symm.trans hm1
    have hf : ∀ j, j < P → cm u j = true := fun j hj => (mkc j hj).symm.trans (hal j hj).1
    have hal' : u ≠ 0 ∧ ∀ j, j < P → cm u j = true ∧ un lf i (lf i - ix y) j = 0 := ⟨hu, fun j hj => ⟨hf j hj, (hal j hj).2⟩⟩
    have rm1 : RM M1 A F M1 := RM_mv hRM (fun r hr => o1 r (by omega) (fun z => by unfold dS at z; omega) (fun z => by unfold dG at z; omega) (fun z => by unfold dC at z; omega) (fun z => by unfold dR at z; omega))
    refine h _ M1 ⟨⟨_, rm1.1⟩, fun p2 k => fs_M_scan (Q := fun r A' F' => r = nI (lf i - ix y) ∧ ∃ A2 base', RS (un lf i (lf i - ix y)) A2 ∧ (∀ k, k ≠ 26 → A2 k = A k) ∧ CR P l d c u ic dn xo cn base base' A2 A' ∧ RN P l (max d u) u 0 F' ∧ F' 14 = F 14) rm1 (f_scan (cn := cn) rN jN rT rC rG rS (by omega) hz hdu hk28 hpen (fun g => absurd ⟨i, hi, ex, hu, hci⟩ g) (fun i' hi' ex' _ _ g => by
      have z : i' = i := (nI_eq (by omega) (by omega)).mp (ex'.symm.trans ex)
      subst z
      exact absurd hal' g) (fun i' hi' ex' _ _ _ A2 base' A' F' w2 w3 w4 w5 w6 => by
      have z : i' = i := (nI_eq (by omega) (by omega)).mp (ex'.symm.trans ex)
      subst z
      exact ⟨rfl, A2, base', w2, w3, w4, w5, w6⟩)) (fun r A' F' M2 rm e2 => ?_)⟩
    obtain ⟨rfl, A2, base', rS', kA, cr, rN', h14⟩ := e2
    refine k M2 (INV_comp (A := A2) (cl := cl) (by omega) (by omega) ⟨jN, jX, jQ, jG, ?_, jM, ?_, jP⟩ hu hf (RC_ext rC (fun k g1 g2 => kA k (by omega)) rfl) n0 (RG_ext rG ⟨kA 18 (by decide), kA 19 (by decide)⟩) rS' (RK_ext rK (fun k g1 g2 => kA k (by omega))) (RQ_ext rQ (fun k g1 g2 => kA k (by omega)) rfl) cr rN' h14 ⟨s1, ?_, ?_, s4, s5, s6, s7⟩ rm)
    · rw [kA 20 (by decide), kA 21 (by decide), kA 22 (by decide)]; exact jF
    · rw [kA 20 (by decide), kA 21 (by decide), kA 22 (by decide)]; exact jK
    · exact Pr_off sP (fun r hr => o1 r (by unfold dP at hr; omega) (fun z => by unfold dP at hr; unfold dS at z; omega) (fun z => by unfold dP at hr; unfold dG at z; omega) (fun z => by unfold dP at hr; unfold dC at z; omega) (fun z => by unfold dP at hr; unfold dR at z; omega))
    · exact Tk_off sT (fun r hr => o1 r (by omega) (fun z => by unfold dS at z; omega) (fun z => by unfold dG at z; omega) (fun z => by unfold dC at z; omega) (fun z => by unfold dR at z; omega))
set_option maxHeartbeats 1000000 in
theorem j_crash {K : Nat} {M : wM} {post : Int32 → wM → Prop} (hK : K ≤ 511) (hI : INV K M) (h : ∀ r M1, NX (K + 1) r (fun p2 M1 => wp_M_crash p2 (some (40, 0)) M1) M1 → post r M1) : wp_S_crash post (some (0, 0)) M := by
  obtain ⟨P, l, d, c, u, dr, dep, mul, sn, so, sx, sy, sz, ic, ml, hm, xo, cl, dn, cm, q, sd, mk, lf, lg, live, base, mid, cs, cn, cd, cc, cf, co, cw, tk, A, F, hl, hJ, hR, hC, hRM⟩ := id hI
  obtain ⟨rN, rT, rC, rG, rS, rK, rQ⟩ := id hR
  obtain ⟨sS, sP, sT, sI, sL, sC, sR⟩ := id hC
  obtain ⟨jN, jX, jQ, jG, jF, jM, jK, jP⟩ := id hJ
  have inv : ∀ M2, RM M A F M2 → INV K M2 := fun M2 rm => ⟨P, l, d, c, u, dr, dep, mul, sn, so, sx, sy, sz, ic, ml, hm, xo, cl, dn, cm, q, sd, mk, lf, lg, live, base, mid, cs, cn, cd, cc, cf, co, cw, tk, A, F, hl, hJ, hR, CB_off hJ.1.2.1 hC rm.2.2, RM_self rm⟩
  have hP4 : 1 ≤ P ∧ P ≤ 4 := ⟨jN.1, jN.2.1⟩
  have hql : ∀ i, i < P → (q i).length ≤ l := fun i hi => JQ_len jQ hi
  have hqm : ∀ i, i < P → ∀ n, n ∈ q i → 1 ≤ n ∧ n ≤ l := fun i hi n hn => JQ_mem jQ hi hn
  obtain ⟨jP1, jP2, jcd, jdl, jul, jcu⟩ := id jN
  have hlg : ∀ n, n ∈ lg → 1 ≤ n ∧ n ≤ l ∧ ic n = true := fun n hn => by
    rw [show lg = _ from jG] at hn
    obtain ⟨x1, x2⟩ := List.mem_filter.mp hn
    have := mem_nu.mp x1
    exact ⟨by omega, by omega, x2⟩
  have hgl : lg.length ≤ 512 := by
    rw [show lg = _ from jG]
    refine Nat.le_trans (List.length_filter_le _ _) ?_
    unfold nu
    rw [List.length_range']
    omega
  have hcn : ∀ c, c < 4 → cn c ≤ 1000 := fun c hc => by
    have := (rK c hc).2.2.1
    omega
  have hso : lg.Pairwise (· < ·) := by
    rw [show lg = _ from jG]
    exact nu_so.filter ic
  have hfl : lg.filter (fun m => decide (m ≤ d)) = (nu c d).filter ic := by
    rw [show lg = _ from jG]
    exact fi_le jcd jdl
  obtain ⟨n0, n1, n2, n3, n4⟩ := id rN
  refine c_crash hP4 jP (by omega) (by omega) sS sP sT sI sL hlg hso (fun i hi => by have := hql i hi; omega) hgl sC sR (fun M1 s1 s4 s5 s6 s7 o1 => ?_)
  rw [hfl] at s5 s7
  rw [fl_fo jcd] at s7
  have rm1 : RM M1 A F M1 := RM_mv hRM (fun r hr => o1 r (by omega) (fun z => by unfold dS at z; omega) (fun z => by unfold dG at z; omega) (fun z => by unfold dC at z; omega) (fun z => by unfold dR at z; omega))
  refine h _ M1 ⟨⟨_, rm1.1⟩, fun p2 k => fs_M_crash (Q := fun r A' F' => r = nI d ∧ (RT (fo (xd xo) ic c base (d - c)) base A' ∧ (∀ n, c < n → n ≤ d → ic n = true → ocm xo n (fo (xd xo) ic c base (n - 1 - c)) (A' 20) (A' 21) (A' 22)) ∧ (∀ n, 1 ≤ n → n ≤ d → A' 18 n = 1) ∧ (∀ i, i < 4 → A' 27 i = if A 27 i = 1 then 4 else A 27 i) ∧ (∀ k, (7 ≤ k ∧ k ≤ 17) ∨ k = 19 ∨ k = 26 ∨ (28 ≤ k ∧ k ≤ 31) → A' k = A k)) ∧ F' = upd (upd F 15 (nI d)) 25 0) rm1 (f_crash rN jN rT rC (by omega) (fun A' w1 w2 w3 w4 w5 => ⟨rfl, ⟨w1, w2, w3, w4, w5⟩, rfl⟩)) (fun r A' F' M2 rm e2 => ?_)⟩
  obtain ⟨rfl, ⟨rT', w2, w3, w4, kA⟩, hF⟩ := e2
  have kF : ∀ k, k ≠ 15 → k ≠ 25 → F' k = F k := fun k z1 z2 => by rw [hF, upd_n z2, upd_n z1]
  have ecp : cpl (fun _ => true) ic = ic := by
    funext n
    unfold cpl
    simp
  refine k M2 ⟨P, d, d, c, 0, dr, dep, mul, sn, so, sx, sy, sz, ic, ml, hm, xo, cl, fun _ => true, cm, _, _, mk, lf, (nu c d).filter ic, _, base, mid, _, cn, cd, cc, cf, co, cw, tk, A', F', by omega, ⟨⟨jP1, jP2, jcd, Nat.le_refl d, by omega, Or.inl rfl⟩, JX_le jX jdl, JQ_crash jQ, rfl, ⟨by rw [ecp], fun _ _ _ _ => rfl, fun n g1 g2 _ g4 => by rw [ecp]; exact w2 n g1 g2 g4⟩, fun z => absurd rfl z, JK_crash jK, jP⟩, ⟨⟨?_, ?_, ?_, ?_, ?_⟩, rT', RC_ext (RC_le rC jdl) (fun k g1 g2 => kA k (by omega)) (kF 0 (by decide) (by decide)), fun n g1 g2 => ⟨w3 n g1 g2, by rw [kA 19 (by omega)]; exact (rG n g1 (by omega)).2⟩, RS_ext rS (kA 26 (by omega)), RK_crash rK w4 (fun k g1 g2 => kA k (by omega)), RQ_ext rQ (fun k g1 g2 => kA k (by omega)) (kF 14 (by decide) (by decide))⟩, CB_off hP4.2 ⟨s1, ?_, ?_, s4, s5, s6, s7⟩ rm.2.2, RM_self rm⟩
  · rw [kF 0 (by decide) (by decide)]; exact n0
  · rw [hF, upd_n (by decide), upd_s]
  · rw [kF 23 (by decide) (by decide)]; exact n2
  · rw [kF 24 (by decide) (by decide)]; exact n3
  · rw [hF, upd_s]; rfl
  · exact Pr_off sP (fun r hr => o1 r (by unfold dP at hr; omega) (fun z => by unfold dP at hr; unfold dS at z; omega) (fun z => by unfold dP at hr; unfold dG at z; omega) (fun z => by unfold dP at hr; unfold dC at z; omega) (fun z => by unfold dP at hr; unfold dR at z; omega))
  · exact Tk_le (Tk_off sT (fun r hr => o1 r (by omega) (fun z => by unfold dS at z; omega) (fun z => by unfold dG at z; omega) (fun z => by unfold dC at z; omega) (fun z => by unfold dR at z; omega))) jdl
