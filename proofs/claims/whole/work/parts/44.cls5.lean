/-! the class: runs, snapshots -/
section CL5
variable {P l d c u : Nat} {dr : Option Nat} {dep : Nat → Bool} {mul : Fn} {sn : Nat → Nat} {so sx sy sz : Nat → Fn} {ic ml : Nat → Bool} {hm : Nat → Nat} {xo : Nat → DB → Oc} {cl tk : Nat → Nat} {q : Nat → List Nat} {sd mk : Nat → Bool} {lf : Nat → Nat} {lg : List Nat} {cs : Fn} {cn : Nat → Nat} {cd cc : Nat → Bool} {cf : Fn} {co : Nat → Nat} {cw : Nat → Fn} {live base mid : DB} {M M' : wM}
theorem Tk_el (h : Tk P l dep mul sn so sx sy sz ic ml hm xo cl tk M) {n : Nat} (h1 : 1 ≤ n) (hn : n ≤ l) : ∃ fs, M (7, tk n) = some (ob 7 (vI (nI n) :: fs)) := by
  cases hic : ic n with
  | false => exact ⟨_, (h.1 n h1 hn).1 hic⟩
  | true =>
    obtain ⟨p, a, b, e, hM, -⟩ := (h.1 n h1 hn).2 hic
    exact ⟨_, hM⟩
theorem tq_ext {tk' : Nat → Nat} {qs : List Nat} (h : ∀ n, n ∈ qs → tk' n = tk n) : tq tk' qs = tq tk qs := List.map_congr_left (fun n hn => by rw [h n hn])
/-- run(log.get(..)) or run(command): the rows after it -/
theorem c_run {post : Int32 → wM → Prop} {n : Nat} (hP4 : 1 ≤ P ∧ P ≤ 4) (hJ : JP dr dep mul sn so sx sy sz) (hP : Pr dep mul sn so sx sy sz M) (hT : Tk P l dep mul sn so sx sy sz ic ml hm xo cl tk M) (hR : Ru P live base mid M) (h1 : 1 ≤ n) (hn : n ≤ l) (hic : ic n = true)
    (k : ∀ M' hm' g' w' fl' (j : Nat), j ≤ 4 → (xo n live).2.2.2.1 = nI j → (∀ k, k < j → w' k = (xo n live).2.2.2.2 k) → (¬ (xo n live).1 < 0 → fl' = (xo n live).1) → Rn (nI P) hm' g' (nI j) w' fl' M' → Ru P (xd xo n live) base mid M' → (∀ r, ¬ dR r → M' r = M r) → post (if (xo n live).1 < 0 then 1 else 0) M') : wp_R_run post (some (3, 0)) (some (7, tk n)) M := by
  obtain ⟨p, a, b, e, hM, hp, hdp, hmul, hpt, hhm, hcl, hxo⟩ := (hT.1 n h1 hn).2 hic
  obtain ⟨a2, xs, b1, b2', b3, b4⟩ := hP.1 p hp
  obtain ⟨⟨hm0, g0', o0, w0, fl0, r1, r2⟩, t0, ⟨s1, t1⟩, t2, t3⟩ := hR
  obtain ⟨⟨-, hs8, hok⟩, -⟩ := hJ.1 p hp hdp
  obtain ⟨fa, T', H', o', w', w2', x1, x2, x3, j, hj, x4⟩ := ex_w (mu := mul p) (P := nI P) (q := pt a (nI P)) (sn := sn p) (so := so p) (sx := sx p) (sy := sy p) (sz := sz p) (a := a) (b := b) (c := e) (T := live.1) (H := live.2) w0 z0
  have hx : xo n live = (fa, T', H', o', w2') := by rw [← hxo]; exact x2
  subst x4
  rw [hx] at k
  refine q_run (so := so p) (sx := sx p) (sy := sy p) (sz := sz p) hP4.1 hP4.2 r1 r2 t0 t1 hM a2 hs8 (by omega) b1 b2' b4 hok (fun E hE M' hm' g' gz q1 q2 q3 q4 => ?_)
  rw [x1] at hE
  subst hE
  dsimp only at q1 q2 k ⊢
  have o2 : ∀ t, 2 ≤ t → ∀ s, Tb t s M → Tb t s M' := fun t ht s h => Tb_off h (q4 _ (fun z => by unfold rR at z; dsimp only at z; omega)) (q4 _ (fun z => by unfold rR at z; dsimp only at z; omega)) (q4 _ (fun z => by unfold rR at z; dsimp only at z; omega))
  refine k M' hm' g' w' _ j hj rfl (fun k hk => x3 k (by rw [ix_nI (by omega)]; exact hk)) (fun z => ?_) q1 ⟨⟨hm', g', _, _, _, q1, gz⟩, ?_, ⟨live, q3⟩, o2 2 (by omega) _ t2, o2 3 (by omega) _ t3⟩ (fun r hr => q4 r (fun z => hr (by unfold rR at z; unfold dR; omega)))
  · rw [if_neg z]
  · unfold xd
    rw [hx]
    exact q2
theorem c_finish {post : wM → Prop} {n : Nat} (hP4 : 1 ≤ P ∧ P ≤ 4) (hd : d ≤ 1000) (hcn : ∀ c, c < 4 → cn c ≤ 1000) (hJ : JP dr dep mul sn so sx sy sz) (hS : St P l d c u dr M) (hP : Pr dep mul sn so sx sy sz M) (hT : Tk P l dep mul sn so sx sy sz ic ml hm xo cl tk M) (hC : Cl cs cn cd cc cf co cw M) (hR : Ru P live base mid M) (h1 : 1 ≤ n) (hn : n ≤ l) (hic : ic n = true)
    (k : ∀ M' w' fl' (j : Nat), j ≤ 4 → (xo n live).2.2.2.1 = nI j → (∀ k, k < j → w' k = (xo n live).2.2.2.2 k) → (¬ (xo n live).1 < 0 → fl' = (xo n live).1) → Cl (upd cs (cl n) (if cs (cl n) = 1 ∧ cn (cl n) ≤ d then (if (xo n live).1 < 0 then 2 else 3) else cs (cl n))) cn (ub cd (cl n) true) (ub cc (cl n) (decide ((xo n live).1 < 0))) (upd cf (cl n) fl') (un co (cl n) j) (fun c => if c = cl n then w' else cw c) M' → Ru P (xd xo n live) base mid M' → (∀ r, ¬ dC r → ¬ dR r → M' r = M r) → post M') : wp_S_finish post (some (0, 0)) (some (7, tk n)) M := by
  obtain ⟨p, a, b, e, hM, hp, hdp, hmul, hpt, hhm, hcl, hxo⟩ := (hT.1 n h1 hn).2 hic
  obtain ⟨⟨hm0, g0', o0, w0, fl0, r1, r2⟩, -⟩ := id hR
  unfold wp_S_finish
  refine k_gR hS.1 rfl (k_gI hM rfl (g_C hS hcl (k_gR hS.1 rfl (k_cV r1.1 (c_run hP4 hJ hP hT hR h1 hn hic (fun M1 hm' g' w' fl' j hj e1 e2 e3 q1 q2 q3 => ?_))))))
  have hS1 : St P l d c u dr M1 := St_off hS (fun r hr => q3 r (fun z => by unfold dO at hr; unfold dR at z; omega))
  have hC1 : Cl cs cn cd cc cf co cw M1 := Cl_off hC (fun r hr => q3 r (fun z => by unfold dC at hr; unfold dR at z; omega))
  obtain ⟨c1, f, c2, c3⟩ := hC1 (cl n) hcl
  refine k_gR hS1.1 rfl (k_cV c1 ?_)
  unfold wp_C_finish
  have hb : (if (xo n live).1 < 0 then (1 : Int32) else 0) = b2 (decide ((xo n live).1 < 0)) := by
    by_cases h : (xo n live).1 < 0
    · rw [if_pos h, decide_eq_true h]; rfl
    · rw [if_neg h, decide_eq_false h]; rfl
  rw [hb]
  generalize hbb : decide ((xo n live).1 < 0) = bb at k
  have hif : (if (xo n live).1 < 0 then (2 : Int32) else 3) = if bb = true then 2 else 3 := by
    rw [← hbb]
    by_cases h : (xo n live).1 < 0
    · rw [if_pos h, decide_eq_true h]; rfl
    · rw [if_neg h, decide_eq_false h]; rfl
  refine k_pF (fs' := [vI (cs (cl n)), vI (nI (cn (cl n))), vI (b2 true), vI (b2 (cc (cl n))), vI (cf (cl n)), vI (nI (co (cl n))), vR (some (21, cl n))]) c1 (Nat.le_of_ble_eq_true rfl) rfl (k_pZ (fs' := [vI (cs (cl n)), vI (nI (cn (cl n))), vI (b2 true), vI (b2 bb), vI (cf (cl n)), vI (nI (co (cl n))), vR (some (21, cl n))]) b2_01 up_s (Nat.le_of_ble_eq_true rfl) rfl ?_)
  rw [up_up]
  refine k_gI ((up_n (rne (by decide))).trans q1.1) rfl (k_pF (fs' := [vI (cs (cl n)), vI (nI (cn (cl n))), vI (b2 true), vI (b2 bb), vI fl', vI (nI (co (cl n))), vR (some (21, cl n))]) up_s (Nat.le_of_ble_eq_true rfl) rfl ?_)
  rw [up_up]
  refine k_gI ((up_n (rne (by decide))).trans q1.1) rfl (k_pF (fs' := [vI (cs (cl n)), vI (nI (cn (cl n))), vI (b2 true), vI (b2 bb), vI fl', vI (nI j), vR (some (21, cl n))]) up_s (Nat.le_of_ble_eq_true rfl) rfl ?_)
  rw [up_up]
  refine k_gR ((up_n (rne (by decide))).trans q1.1) rfl (k_gR up_s rfl ?_)
  refine ⟨(25, 0), (21, cl n), 4, 4, w', f, rfl, rfl, (up_n (rne (by decide))).trans q1.2.2, (up_n (rne (by decide))).trans c2, by decide, by decide, by decide, by decide, by decide, by decide, by decide, ?_⟩
  rw [show (0 : Int32).toNatClampNeg = 0 by decide, show (4 : Int32).toNatClampNeg = 4 by decide]
  generalize hM2 : up (up M1 (1, cl n) (ob 1 [vI (cs (cl n)), vI (nI (cn (cl n))), vI (b2 true), vI (b2 bb), vI fl', vI (nI j), vR (some (21, cl n))])) (21, cl n) _ = M2
  have m1 : M2 (1, cl n) = some (ob 1 [vI (cs (cl n)), vI (nI (cn (cl n))), vI (b2 true), vI (b2 bb), vI fl', vI (nI j), vR (some (21, cl n))]) := by rw [← hM2, up_n (rne (by decide))]; exact up_s
  have m21 : M2 (21, cl n) = some (ai 0 4 (va_cpy w' f 0 0 4)) := by rw [← hM2]; exact up_s
  have o2 : ∀ r : Ro, ¬ (r.1 = 1 ∧ r.2 = cl n) → ¬ (r.1 = 21 ∧ r.2 = cl n) → M2 r = M1 r := fun r z1 z2 => by rw [← hM2, up_n (fun z => z2 (by rw [z]; exact ⟨rfl, rfl⟩)), up_n (fun z => z1 (by rw [z]; exact ⟨rfl, rfl⟩))]
  have hS2 : St P l d c u dr M2 := St_off hS1 (fun r hr => o2 r (fun z => by unfold dO at hr; omega) (fun z => by unfold dO at hr; omega))
  refine k_gI hS2.1 rfl (k_cV m1 (c_settle m1 (by have := hcn _ hcl; omega) (by omega) ?_))
  refine k _ w' fl' j hj e1 e2 e3 (fun i hi => ?_) (Ru_off q2 (fun r hr => ?_)) (fun r z1 z2 => ?_)
  · rw [hif]
    by_cases ei : i = cl n
    · subst ei
      rw [upd_s, ub_s, ub_s, upd_s, un_s]
      simp only [reduceIte]
      refine ⟨?_, va_cpy w' f 0 0 4, (up_n (rne (by decide))).trans m21, fun k hk => ?_⟩
      · rw [up_s]
        simp only [true_and]
      · rw [pk_cpy_in (by omega) (by omega), Nat.zero_add, Nat.sub_zero]
    · rw [upd_n ei, ub_n ei, ub_n ei, upd_n ei, un_n ei]
      simp only [ei, reduceIte]
      obtain ⟨y1, f', y2, y3⟩ := hC1 i hi
      exact ⟨(up_n (rne2 ei)).trans ((o2 _ (fun z => ei z.2) (fun z => ei z.2)).trans y1), f', (up_n (rne (by decide))).trans ((o2 _ (fun z => ei z.2) (fun z => ei z.2)).trans y2), y3⟩
  · rw [up_n (fun z => by rw [z] at hr; unfold dR at hr; dsimp only at hr; omega)]
    exact o2 r (fun z => by unfold dR at hr; omega) (fun z => by unfold dR at hr; omega)
  · rw [up_n (fun z => z1 (by rw [z]; unfold dC; omega)), o2 r (fun z => z1 (by unfold dC; omega)) (fun z => z1 (by unfold dC; omega))]
    exact q3 r z2
theorem c_comp {post : wM → Prop} (hP4 : 1 ≤ P ∧ P ≤ 4) (hd : d ≤ 1000) (hu : u ≤ 1000) (hcn : ∀ c, c < 4 → cn c ≤ 1000) (hS : St P l d c u dr M) (hSi : Si P tk q sd mk lf M) (hL : Lst 20 (tq tk lg) M) (hel : ∀ m, m ∈ lg → ∃ fs, M (7, tk m) = some (ob 7 (vI (nI m) :: fs))) (hb : ∀ m, m ∈ lg → m ≤ 1000) (hlen : lg.length ≤ 512) (hlf : ∀ i, i < P → lf i ≤ 1000) (hC : Cl cs cn cd cc cf co cw M) (hR : Ru P live base mid M)
    (h0 : ¬ (∀ i, i < P → mk i = true ∧ lf i = 0) → post M)
    (h1 : (∀ i, i < P → mk i = true ∧ lf i = 0) → ∀ M', St P l (max d u) u 0 dr M' → Lst 20 (tq tk (lg.dropWhile (fun m => decide (m ≤ u)))) M' → Cl (stl (max d u) cs cn cd cc) cn cd cc cf co cw M' → Ru P live mid mid M' → (∀ r : Ro, r.1 ≠ 0 → ¬ dG r → ¬ dC r → ¬ dR r → M' r = M r) → post M') : wp_S_completeSnapshotIfCopied post (some (0, 0)) M := by
  have fin : (∀ i, i < P → mk i = true ∧ lf i = 0) → gR M (some (0, 0)) 0 7 (fun a44 => gR M (some (0, 0)) 0 9 (fun a48 => cV M a44 6 (wp_B_copyFrom (fun M51 => gI M51 (some (0, 0)) 0 10 (fun a56 => pF M51 (some (0, 0)) 0 8 (vI a56) (fun M59 => pF M59 (some (0, 0)) 0 10 (vI 0) (fun M64 => gI M64 (some (0, 0)) 0 8 (fun a69 => cV M64 (some (0, 0)) 0 (wp_S_dropLogUpTo (fun M72 => gI M72 (some (0, 0)) 0 8 (fun a77 => cV M72 (some (0, 0)) 0 (wp_S_raiseDurable (fun M80 => post M80) (some (0, 0)) a77 M72))) (some (0, 0)) a69 M64)))))) a44 a48 M))) := by
    intro hall
    obtain ⟨⟨hm0, g0', o0, w0, fl0, r1, r2⟩, t0, ⟨s1, t1⟩, t2, t3⟩ := hR
    refine k_gR hS.1 rfl (k_gR hS.1 rfl (k_cV t2.1 (b_copy (by decide) t3 t2 (fun M1 u1 v1 => ?_))))
    have nR : ∀ {r : Ro}, ¬ cR 2 r → M1 r = M r := fun {r} h => v1 r h
    have hS1 : St P l d c u dr M1 := St_off hS (fun r hr => nR (fun z => by unfold dO at hr; unfold cR at z; omega))
    have kT : ∀ t, t ≠ 2 → ∀ s, Tb t s M → Tb t s M1 := fun t ht s h => Tb_off h (nR (fun z => by unfold cR at z; dsimp only at z; omega)) (nR (fun z => by unfold cR at z; dsimp only at z; omega)) (nR (fun z => by unfold cR at z; dsimp only at z; omega))
    have hR1 : Ru P live mid mid M1 := ⟨⟨hm0, g0', o0, w0, fl0, Rn_off r1 (nR (fun z => by unfold cR at z; dsimp only at z; omega)) (nR (fun z => by unfold cR at z; dsimp only at z; omega)) (nR (fun z => by unfold cR at z; dsimp only at z; omega)), r2⟩, kT 0 (by decide) _ t0, ⟨s1, kT 1 (by decide) _ t1⟩, u1, kT 3 (by decide) _ t3⟩
    refine k_gI hS1.1 rfl (k_pF (fs' := [vI (nI P), vR (some (30, 0)), vR (dr.map fun p => (2, p)), vR (some (31, 0)), vR (some (32, 0)), vR (some (8, 20)), vR (some (3, 0)), vR (some (6, 2)), vI (nI u), vR (some (6, 3)), vI (nI u), vI (nI l), vI (nI d)]) hS1.1 (Nat.le_of_ble_eq_true rfl) rfl (k_pF (fs' := [vI (nI P), vR (some (30, 0)), vR (dr.map fun p => (2, p)), vR (some (31, 0)), vR (some (32, 0)), vR (some (8, 20)), vR (some (3, 0)), vR (some (6, 2)), vI (nI u), vR (some (6, 3)), vI (nI 0), vI (nI l), vI (nI d)]) up_s (Nat.le_of_ble_eq_true rfl) rfl ?_))
    rw [up_up]
    generalize hM2 : up M1 (0, 0) _ = M2
    have hS2 : St P l d u 0 dr M2 := by rw [← hM2]; exact St_up hS1
    have o2 : ∀ r : Ro, r.1 ≠ 0 → M2 r = M1 r := fun r hr => by rw [← hM2, up_n (fun z => hr (by rw [z]))]
    have oo : ∀ r : Ro, r.1 ≠ 0 → ¬ cR 2 r → M2 r = M r := fun r z1 z2 => (o2 r z1).trans (nR z2)
    have hL2 : Lst 20 (tq tk lg) M2 := Lg_off hL (fun r hr => oo r (by unfold dG at hr; omega) (fun z => by unfold dG at hr; unfold cR at z; omega))
    have hel2 : ∀ m, m ∈ lg → ∃ fs, M2 (7, tk m) = some (ob 7 (vI (nI m) :: fs)) := fun m hm => by rw [oo _ (by show (7 : Nat) ≠ 0; decide) (fun z => by unfold cR at z; dsimp only at z; omega)]; exact hel m hm
    refine k_gI hS2.1 rfl (k_cV hS2.1 (g_upTo hS2 hL2 hel2 hb hu hlen (fun M3 a1 a2 => ?_)))
    have hS3 : St P l d u 0 dr M3 := St_off hS2 (fun r hr => a2 r (fun z => by unfold dO at hr; unfold dG at z; omega))
    have hC3 : Cl cs cn cd cc cf co cw M3 := Cl_off hC (fun r hr => (a2 r (fun z => by unfold dC at hr; unfold dG at z; omega)).trans (oo r (by unfold dC at hr; omega) (fun z => by unfold dC at hr; unfold cR at z; omega)))
    refine k_gI hS3.1 rfl (k_cV hS3.1 (c_raise hS3 hC3 hu hd hcn (fun M4 b1 b2' b3 => h1 hall M4 b1 (Lg_off a1 (fun r hr => b3 r (by unfold dG at hr; omega) (by unfold dG at hr; omega))) b2' (Ru_off hR1 (fun r hr => (b3 r (by unfold dR at hr; omega) (by unfold dR at hr; omega)).trans ((a2 r (fun z => by unfold dR at hr; unfold dG at z; omega)).trans (o2 r (by unfold dR at hr; omega))))) (fun r z1 z2 z3 z4 => (b3 r z1 (fun z => z3 (by unfold dC; omega))).trans ((a2 r z2).trans (oo r z1 (fun z => z4 (by unfold cR at z; unfold dR; omega)))))))) 
  have key : ∀ m i, i + m = P → (∀ j, j < i → mk j = true ∧ lf j = 0) → wp_S_completeSnapshotIfCopied_10 post (m + 1) (some (0, 0)) (some (31, 0)) (nI P) (nI i) M := by
    intro m
    induction m with
    | zero =>
      intro i hi hb'
      unfold wp_S_completeSnapshotIfCopied_10
      exact ⟨fun _ => fin (fun j hj => hb' j (by omega)), fun z => absurd (nI_le (by omega) (by omega)) z⟩
    | succ m ih =>
      intro i hi hb'
      unfold wp_S_completeSnapshotIfCopied_10 wp_S_completeSnapshotIfCopied_36
      have a := (hSi i (by omega)).1
      refine ⟨fun z => absurd ((nI_leI (by omega) (by omega)).mp z) (by omega), fun _ => g_S hS hP4.2 (by omega) (k_gI a rfl ⟨fun z => h0 (fun g => ?_), fun z => k_gI a rfl ⟨fun y => ?_, fun y => h0 (fun g => ?_)⟩⟩)⟩
      · rw [(g i (by omega)).1] at z
        exact absurd z (by decide)
      · rw [nI_1]
        refine ih (i + 1) (by omega) (fun j hj => ?_)
        by_cases e : j = i
        · subst e
          refine ⟨?_, ?_⟩
          · cases h : mk j with
            | false => exact absurd (b2_0.mpr h) z
            | true => rfl
          · have := (nI_leI (b := 0) (by have := hlf j (by omega); omega) (by decide)).mp y
            omega
        · exact hb' j (by omega)
      · rw [(g i (by omega)).2] at y
        exact y (by decide)
  unfold wp_S_completeSnapshotIfCopied
  exact k_gR hS.1 rfl (g_nS hS ⟨P + 1, key P 0 (by omega) (fun j hj => by omega)⟩)
end CL5
