theorem j_output {K : Nat} {M : wM} {x : Int32} {y : Int32} {post : Int64 → wM → Prop} (hK : K ≤ 513) (hI : INV K M) (h : ∀ r M1, NX (K + 1) r (fun p2 M1 => wp_M_output p2 (some (40, 0)) x y M1) M1 → post r M1) : wp_S_output post (some (0, 0)) x y M := by
  obtain ⟨P, l, d, c, u, dr, dep, mul, sn, so, sx, sy, sz, ic, ml, hm, xo, cl, dn, cm, q, sd, mk, lf, lg, live, base, mid, cs, cn, cd, cc, cf, co, cw, tk, A, F, hl, hJ, hR, hC, hRM⟩ := id hI
  obtain ⟨rN, rT, rC, rG, rS, rK, rQ⟩ := id hR
  obtain ⟨sS, sP, sT, sI, sL, sC, sR⟩ := id hC
  obtain ⟨jN, jX, jQ, jG, jF, jM, jK, jP⟩ := id hJ
  have inv : ∀ M2, RM M A F M2 → INV K M2 := fun M2 rm => ⟨P, l, d, c, u, dr, dep, mul, sn, so, sx, sy, sz, ic, ml, hm, xo, cl, dn, cm, q, sd, mk, lf, lg, live, base, mid, cs, cn, cd, cc, cf, co, cw, tk, A, F, hl, hJ, hR, CB_off hJ.1.2.1 hC rm.2.2, RM_self rm⟩
  refine c_output sS sC (fun i hi e => ((rK i hi).2.2.2.1 e).2.1) (fun g => h _ M (NX_same hI hRM (fun p2 k => fs_M_output (Q := fun r A' F' => r = 1000000000000 ∧ A' = A ∧ F' = F) hRM (f_output rK (fun _ => ⟨rfl, rfl, rfl⟩) (fun i hi e => absurd e (g i hi))) (fun r A' F' M2 rm e => ?_)) inv)) (fun i hi e => h _ M (NX_same hI hRM (fun p2 k => fs_M_output (Q := fun r A' F' => r = ovl (cs i) (cf i) (co i) (cw i) y ∧ A' = A ∧ F' = F) hRM (f_output rK (fun g => absurd e (g i hi)) (fun j hj e2 => ⟨?_, rfl, rfl⟩)) (fun r A' F' M2 rm e => ?_)) inv))
  · obtain ⟨rfl, rfl, rfl⟩ := e
    exact k M2 rm
  · have z : j = i := (nI_eq (by omega) (by omega)).mp (e2.symm.trans e)
    subst z
    rfl
  · obtain ⟨rfl, rfl, rfl⟩ := e
    exact k M2 rm
theorem j_row {K : Nat} {M : wM} {x : Int32} {post : Int64 → wM → Prop} (hK : K ≤ 513) (hI : INV K M) (h : ∀ r M1, NX (K + 1) r (fun p2 M1 => wp_M_row p2 (some (40, 0)) x M1) M1 → post r M1) : wp_S_row post (some (0, 0)) x M := by
  obtain ⟨P, l, d, c, u, dr, dep, mul, sn, so, sx, sy, sz, ic, ml, hm, xo, cl, dn, cm, q, sd, mk, lf, lg, live, base, mid, cs, cn, cd, cc, cf, co, cw, tk, A, F, hl, hJ, hR, hC, hRM⟩ := id hI
  obtain ⟨rN, rT, rC, rG, rS, rK, rQ⟩ := id hR
  obtain ⟨sS, sP, sT, sI, sL, sC, sR⟩ := id hC
  obtain ⟨jN, jX, jQ, jG, jF, jM, jK, jP⟩ := id hJ
  have inv : ∀ M2, RM M A F M2 → INV K M2 := fun M2 rm => ⟨P, l, d, c, u, dr, dep, mul, sn, so, sx, sy, sz, ic, ml, hm, xo, cl, dn, cm, q, sd, mk, lf, lg, live, base, mid, cs, cn, cd, cc, cf, co, cw, tk, A, F, hl, hJ, hR, CB_off hJ.1.2.1 hC rm.2.2, RM_self rm⟩
  refine c_row sS sR (fun g => h _ M (NX_same hI hRM (fun p2 k => fs_M_row (Q := fun r A' F' => r = 1000000000000 ∧ A' = A ∧ F' = F) hRM (f_row rT (fun _ => ⟨rfl, rfl, rfl⟩) (fun i hi e => absurd e (g i hi))) (fun r A' F' M2 rm e => ?_)) inv)) (fun i hi e => h _ M (NX_same hI hRM (fun p2 k => fs_M_row (Q := fun r A' F' => r = vv live i ∧ A' = A ∧ F' = F) hRM (f_row rT (fun g => absurd e (g i hi)) (fun j hj e2 => ⟨?_, rfl, rfl⟩)) (fun r A' F' M2 rm e => ?_)) inv))
  · obtain ⟨rfl, rfl, rfl⟩ := e
    exact k M2 rm
  · have z : j = i := (nI_eq (by omega) (by omega)).mp (e2.symm.trans e)
    subst z
    rfl
  · obtain ⟨rfl, rfl, rfl⟩ := e
    exact k M2 rm
theorem j_replicated {K : Nat} {M : wM} {x : Int32} {post : Int64 → wM → Prop} (hK : K ≤ 513) (hI : INV K M) (h : ∀ r M1, NX (K + 1) r (fun p2 M1 => wp_M_replicated p2 (some (40, 0)) x M1) M1 → post r M1) : wp_S_replicated post (some (0, 0)) x M := by
  obtain ⟨P, l, d, c, u, dr, dep, mul, sn, so, sx, sy, sz, ic, ml, hm, xo, cl, dn, cm, q, sd, mk, lf, lg, live, base, mid, cs, cn, cd, cc, cf, co, cw, tk, A, F, hl, hJ, hR, hC, hRM⟩ := id hI
  obtain ⟨rN, rT, rC, rG, rS, rK, rQ⟩ := id hR
  obtain ⟨sS, sP, sT, sI, sL, sC, sR⟩ := id hC
  obtain ⟨jN, jX, jQ, jG, jF, jM, jK, jP⟩ := id hJ
  have inv : ∀ M2, RM M A F M2 → INV K M2 := fun M2 rm => ⟨P, l, d, c, u, dr, dep, mul, sn, so, sx, sy, sz, ic, ml, hm, xo, cl, dn, cm, q, sd, mk, lf, lg, live, base, mid, cs, cn, cd, cc, cf, co, cw, tk, A, F, hl, hJ, hR, CB_off hJ.1.2.1 hC rm.2.2, RM_self rm⟩
  refine c_repl sS sR (fun g => h _ M (NX_same hI hRM (fun p2 k => fs_M_replicated (Q := fun r A' F' => r = 1000000000000 ∧ A' = A ∧ F' = F) hRM (f_repl rT (fun _ => ⟨rfl, rfl, rfl⟩) (fun i hi e => absurd e (g i hi))) (fun r A' F' M2 rm e => ?_)) inv)) (fun i hi e => h _ M (NX_same hI hRM (fun p2 k => fs_M_replicated (Q := fun r A' F' => r = (live.2 (32 + i)).toInt64 ∧ A' = A ∧ F' = F) hRM (f_repl rT (fun g => absurd e (g i hi)) (fun j hj e2 => ⟨?_, rfl, rfl⟩)) (fun r A' F' M2 rm e => ?_)) inv))
  · obtain ⟨rfl, rfl, rfl⟩ := e
    exact k M2 rm
  · have z : j = i := (nI_eq (by omega) (by omega)).mp (e2.symm.trans e)
    subst z
    rfl
  · obtain ⟨rfl, rfl, rfl⟩ := e
    exact k M2 rm
theorem j_waiting {K : Nat} {M : wM} {x : Int32} {post : Int32 → wM → Prop} (hK : K ≤ 513) (hI : INV K M) (h : ∀ r M1, NX (K + 1) r (fun p2 M1 => wp_M_waiting p2 (some (40, 0)) x M1) M1 → post r M1) : wp_S_waiting post (some (0, 0)) x M := by
  obtain ⟨P, l, d, c, u, dr, dep, mul, sn, so, sx, sy, sz, ic, ml, hm, xo, cl, dn, cm, q, sd, mk, lf, lg, live, base, mid, cs, cn, cd, cc, cf, co, cw, tk, A, F, hl, hJ, hR, hC, hRM⟩ := id hI
  obtain ⟨rN, rT, rC, rG, rS, rK, rQ⟩ := id hR
  obtain ⟨sS, sP, sT, sI, sL, sC, sR⟩ := id hC
  obtain ⟨jN, jX, jQ, jG, jF, jM, jK, jP⟩ := id hJ
  have inv : ∀ M2, RM M A F M2 → INV K M2 := fun M2 rm => ⟨P, l, d, c, u, dr, dep, mul, sn, so, sx, sy, sz, ic, ml, hm, xo, cl, dn, cm, q, sd, mk, lf, lg, live, base, mid, cs, cn, cd, cc, cf, co, cw, tk, A, F, hl, hJ, hR, CB_off hJ.1.2.1 hC rm.2.2, RM_self rm⟩
  have hP4 : 1 ≤ P ∧ P ≤ 4 := ⟨jN.1, jN.2.1⟩
  refine c_waiting hP4 sS sI (fun g => h _ M (NX_same hI hRM (fun p2 k => fs_M_waiting (Q := fun r A' F' => r = -1 ∧ A' = A ∧ F' = F) hRM (f_wait rN hP4 rC rG (by omega) (fun _ => ⟨rfl, rfl, rfl⟩) (fun i hi e => absurd e (g i hi))) (fun r A' F' M2 rm e => ?_)) inv)) (fun i hi e => h _ M (NX_same hI hRM (fun p2 k => fs_M_waiting (Q := fun r A' F' => r = nI (q i).length ∧ A' = A ∧ F' = F) hRM (f_wait rN hP4 rC rG (by omega) (fun g => absurd e (g i hi)) (fun j hj e2 => ⟨?_, rfl, rfl⟩)) (fun r A' F' M2 rm e => ?_)) inv))
  · obtain ⟨rfl, rfl, rfl⟩ := e
    exact k M2 rm
  · have z : j = i := (nI_eq (by omega) (by omega)).mp (e2.symm.trans e)
    subst z
    rw [jQ.1 j hi]
  · obtain ⟨rfl, rfl, rfl⟩ := e
    exact k M2 rm
theorem j_rows {K : Nat} {M : wM} {x : Int32} {post : Int32 → wM → Prop} (hK : K ≤ 513) (hI : INV K M) (h : ∀ r M1, NX (K + 1) r (fun p2 M1 => wp_M_rows p2 (some (40, 0)) x M1) M1 → post r M1) : wp_S_rows post (some (0, 0)) x M := by
  obtain ⟨P, l, d, c, u, dr, dep, mul, sn, so, sx, sy, sz, ic, ml, hm, xo, cl, dn, cm, q, sd, mk, lf, lg, live, base, mid, cs, cn, cd, cc, cf, co, cw, tk, A, F, hl, hJ, hR, hC, hRM⟩ := id hI
  obtain ⟨rN, rT, rC, rG, rS, rK, rQ⟩ := id hR
  obtain ⟨sS, sP, sT, sI, sL, sC, sR⟩ := id hC
  obtain ⟨jN, jX, jQ, jG, jF, jM, jK, jP⟩ := id hJ
  have inv : ∀ M2, RM M A F M2 → INV K M2 := fun M2 rm => ⟨P, l, d, c, u, dr, dep, mul, sn, so, sx, sy, sz, ic, ml, hm, xo, cl, dn, cm, q, sd, mk, lf, lg, live, base, mid, cs, cn, cd, cc, cf, co, cw, tk, A, F, hl, hJ, hR, CB_off hJ.1.2.1 hC rm.2.2, RM_self rm⟩
  have hP4 : 1 ≤ P ∧ P ≤ 4 := ⟨jN.1, jN.2.1⟩
  refine c_rows hP4 sS sR (fun g => h _ M (NX_same hI hRM (fun p2 k => fs_M_rows (Q := fun r A' F' => r = -1 ∧ A' = A ∧ F' = F) hRM (f_rows rN.1 hP4 rT (fun _ => ⟨rfl, rfl, rfl⟩) (fun i hi e => absurd e (g i hi))) (fun r A' F' M2 rm e => ?_)) inv)) (fun i hi e => h _ M (NX_same hI hRM (fun p2 k => fs_M_rows (Q := fun r A' F' => r = nI (cpn live.1 P i 32) ∧ A' = A ∧ F' = F) hRM (f_rows rN.1 hP4 rT (fun g => absurd e (g i hi)) (fun j hj e2 => ⟨?_, rfl, rfl⟩)) (fun r A' F' M2 rm e => ?_)) inv))
  · obtain ⟨rfl, rfl, rfl⟩ := e
    exact k M2 rm
  · have z : j = i := (nI_eq (by omega) (by omega)).mp (e2.symm.trans e)
    subst z
    rfl
  · obtain ⟨rfl, rfl, rfl⟩ := e
    exact k M2 rm
theorem j_count {K : Nat} {M : wM} {x : Int32} {post : Int32 → wM → Prop} (hK : K ≤ 512) (hI : INV K M) (h : ∀ r M1, NX (K + 1) r (fun p2 M1 => wp_M_count p2 (some (40, 0)) x M1) M1 → post r M1) : wp_S_count post (some (0, 0)) x M := by
  obtain ⟨P, l, d, c, u, dr, dep, mul, sn, so, sx, sy, sz, ic, ml, hm, xo, cl, dn, cm, q, sd, mk, lf, lg, live, base, mid, cs, cn, cd, cc, cf, co, cw, tk, A, F, hl, hJ, hR, hC, hRM⟩ := id hI
  obtain ⟨rN, rT, rC, rG, rS, rK, rQ⟩ := id hR
  obtain ⟨sS, sP, sT, sI, sL, sC, sR⟩ := id hC
  obtain ⟨jN, jX, jQ, jG, jF, jM, jK, jP⟩ := id hJ
  have inv : ∀ M2, RM M A F M2 → INV K M2 := fun M2 rm => ⟨P, l, d, c, u, dr, dep, mul, sn, so, sx, sy, sz, ic, ml, hm, xo, cl, dn, cm, q, sd, mk, lf, lg, live, base, mid, cs, cn, cd, cc, cf, co, cw, tk, A, F, hl, hJ, hR, CB_off hJ.1.2.1 hC rm.2.2, RM_self rm⟩
  have hP4 : 1 ≤ P ∧ P ≤ 4 := ⟨jN.1, jN.2.1⟩
  have go : ∀ v, fw_M_count (fun r A' F' => r = v ∧ A' = A ∧ F' = F) x A F → post v M := fun v hv => h v M (NX_same hI hRM (fun p2 k => fs_M_count hRM hv (fun r A' F' M2 rm e => by
    obtain ⟨rfl, rfl, rfl⟩ := e
    exact k M2 rm)) inv)
  obtain ⟨n0, n1, n2, n3, n4⟩ := id rN
  obtain ⟨v, mc, ea, h8, -⟩ := id sL
  unfold wp_S_count
  refine ⟨fun e => k_gI sS.1 rfl (go _ ?_), fun e0 => ⟨fun e => k_gI sS.1 rfl (go _ ?_), fun e1 => ⟨fun e => k_gR sS.1 rfl (k_cV h8 (a_size sL (go _ ?_))), fun e2 => ⟨fun e => k_gI sS.1 rfl (go _ ?_), fun e3 => ⟨fun e => k_gI sS.1 rfl (go _ ?_), fun e4 => ⟨fun e => ?_, fun e5 => go _ ?_⟩⟩⟩⟩⟩⟩
  · unfold fw_M_count
    exact ⟨fun _ => ⟨n1, rfl, rfl⟩, fun z => absurd e z⟩
  · unfold fw_M_count
    exact ⟨fun z => absurd z e0, fun _ => ⟨fun _ => ⟨n2, rfl, rfl⟩, fun z => absurd e z⟩⟩
  · unfold fw_M_count
    refine ⟨fun z => absurd z e0, fun _ => ⟨fun z => absurd z e1, fun _ => ⟨fun _ => f_logged rN rC (by have := jN.2.2.1; have := jN.2.2.2.1; omega) (by omega) ⟨?_, rfl, rfl⟩, fun z => absurd e z⟩⟩⟩
    rw [List.length_map, ← show lg = _ from jG]
  · unfold fw_M_count
    exact ⟨fun z => absurd z e0, fun _ => ⟨fun z => absurd z e1, fun _ => ⟨fun z => absurd z e2, fun _ => ⟨fun _ => ⟨n3, rfl, rfl⟩, fun z => absurd e z⟩⟩⟩⟩
  · unfold fw_M_count
    exact ⟨fun z => absurd z e0, fun _ => ⟨fun z => absurd z e1, fun _ => ⟨fun z => absurd z e2, fun _ => ⟨fun z => absurd z e3, fun _ => ⟨fun _ => ⟨n4, rfl, rfl⟩, fun z => absurd e z⟩⟩⟩⟩⟩
  · have five : ∀ v, fw_M_stalledAt (fun a66 A66 F66 => a66 = v ∧ A66 = A ∧ F66 = F) A F → fw_M_count (fun r A' F' => r = v ∧ A' = A ∧ F' = F) x A F := fun v hv => by
      unfold fw_M_count
      exact ⟨fun z => absurd z e0, fun _ => ⟨fun z => absurd z e1, fun _ => ⟨fun z => absurd z e2, fun _ => ⟨fun z => absurd z e3, fun _ => ⟨fun z => absurd z e4, fun _ => ⟨fun _ => hv, fun z => absurd e z⟩⟩⟩⟩⟩⟩
    refine k_cV sS.1 (s_stalled sS sI hP4.2 (fun i hi n hn => Tk_el sT (JQ_mem jQ hi hn).1 (JQ_mem jQ hi hn).2) (fun i hi => by have := JQ_len jQ hi; omega) (fun g => go _ (five _ (f_stalledAt rN hP4 jQ.2.2.2.2.2 rC rG (by omega) (fun _ => ⟨rfl, rfl, rfl⟩) (fun n m1 m2 m3 => ?_)))) (fun i n t hi hs hq => go _ (five _ (f_stalledAt rN hP4 jQ.2.2.2.2.2 rC rG (by omega) (fun g => ?_) (fun m m1 m2 m3 => ?_)))))
    · obtain ⟨i, hi, hc⟩ := m3.2.2.2
      have hsd := (jQ.2.2.2.2.1 i hi).mpr ⟨n, m1, m2, m3.1, m3.2.1, m3.2.2.1, hc⟩
      have := fi_nil ((jQ.1 i hi).symm.trans (g i hi hsd)) n m1 m2
      rw [wt_ml m3.1 m3.2.1 m3.2.2.1] at this
      exact absurd this (by decide)
    · obtain ⟨m, b1, b2, b3, b4, b5, b6⟩ := (jQ.2.2.2.2.1 i hi).mp hs
      exact absurd ⟨b3, b4, b5, i, hi, b6⟩ (g m b1 b2)
    · obtain ⟨n1', nl, nw, nf⟩ := fi_head ((jQ.1 i hi).symm.trans hq)
      obtain ⟨m', b1, b2, b3, b4, b5, b6⟩ := (jQ.2.2.2.2.1 i hi).mp hs
      have e1' := JQ_un jQ hi hi n1' nl nw nf b1 b2 b3 b4 b5 b6
      subst e1'
      obtain ⟨i2, hi2, hc2⟩ := m3.2.2.2
      have := JQ_un jQ hi hi2 b1 b2 (wt_ml b3 b4 b5) nf m1 m2 m3.1 m3.2.1 m3.2.2.1 hc2
      exact ⟨by rw [this], rfl, rfl⟩
  · unfold fw_M_count
    exact ⟨fun z => absurd z e0, fun _ => ⟨fun z => absurd z e1, fun _ => ⟨fun z => absurd z e2, fun _ => ⟨fun z => absurd z e3, fun _ => ⟨fun z => absurd z e4, fun _ => ⟨fun z => absurd z e5, fun _ => ⟨rfl, rfl, rfl⟩⟩⟩⟩⟩⟩⟩
