/-! the class: step, scan, crash, what only answers -/
theorem cpn_ext {T T2 : Fn} {P i : Nat} : ∀ k, (∀ j, j < k → j % P = i → T j = T2 j) → cpn T P i k = cpn T2 P i k := by
  intro k
  induction k with
  | zero => intro _; rfl
  | succ k ih =>
    intro h
    unfold cpn
    rw [ih (fun j a b => h j (by omega) b)]
    by_cases e : k % P = i
    · rw [h k (by omega) e]
    · simp [e]
/-- the table under way, once site i has come -/
def midp (P i : Nat) (s m : DB) : DB := ((mixp P i s m 32).1, fun j => if 32 ≤ j then s.2 j else (mixp P i s m 32).2 j)
section CL7
variable {P l d c u : Nat} {dr : Option Nat} {dep : Nat → Bool} {mul : Fn} {sn : Nat → Nat} {so sx sy sz : Nat → Fn} {ic ml : Nat → Bool} {hm : Nat → Nat} {xo : Nat → DB → Oc} {cl tk : Nat → Nat} {q : Nat → List Nat} {sd mk : Nat → Bool} {lf : Nat → Nat} {lg : List Nat} {cs : Fn} {cn : Nat → Nat} {cd cc : Nat → Bool} {cf : Fn} {co : Nat → Nat} {cw : Nat → Fn} {live base mid : DB} {M M' : wM}
theorem c_come {post : wM → Prop} {i : Nat} (hP4 : 1 ≤ P ∧ P ≤ 4) (hi : i < P) (hd : d ≤ 1000) (hu : u ≤ 1000) (hcn : ∀ c, c < 4 → cn c ≤ 1000) (hS : St P l d c u dr M) (hT : Tk P l dep mul sn so sx sy sz ic ml hm xo cl tk M) (hSi : Si P tk q sd mk lf M) (hL : Lst 20 (tq tk lg) M) (hq : ∀ i, i < P → ∀ n, n ∈ q i → 1 ≤ n ∧ n ≤ l) (hlg : ∀ n, n ∈ lg → 1 ≤ n ∧ n ≤ l) (hl : l ≤ 1000) (hql : ∀ i, i < P → (q i).length ≤ 512) (hlen : lg.length ≤ 512) (hlf : ∀ i, i < P → lf i ≤ 1000) (hC : Cl cs cn cd cc cf co cw M) (hR : Ru P live base mid M)
    (h0 : ¬ (∀ j, j < P → ub mk i true j = true ∧ un lf i (cpn live.1 P i 32) j = 0) → ∀ M', Si P tk (uq q i (q i).tail) (ub sd i false) (ub mk i true) (un lf i (cpn live.1 P i 32)) M' → Ru P live base (midp P i live mid) M' → (∀ r, ¬ dS r → ¬ dR r → M' r = M r) → post M')
    (h1 : (∀ j, j < P → ub mk i true j = true ∧ un lf i (cpn live.1 P i 32) j = 0) → ∀ M', St P l (max d u) u 0 dr M' → Si P tk (uq q i (q i).tail) (ub sd i false) (ub mk i true) (un lf i (cpn live.1 P i 32)) M' → Lst 20 (tq tk (lg.dropWhile (fun m => decide (m ≤ u)))) M' → Cl (stl (max d u) cs cn cd cc) cn cd cc cf co cw M' → Ru P live (midp P i live mid) (midp P i live mid) M' → (∀ r : Ro, r.1 ≠ 0 → ¬ dS r → ¬ dG r → ¬ dC r → ¬ dR r → M' r = M r) → post M') : wp_S_comeToMarker post (some (0, 0)) (nI i) M := by
  unfold wp_S_comeToMarker
  have el : ∀ n, 1 ≤ n → n ≤ l → ∃ fs, M (7, tk n) = some (ob 7 fs) := fun n g1 g2 => by
    obtain ⟨fs, hf⟩ := Tk_el hT g1 g2
    exact ⟨_, hf⟩
  refine k_gR hS.1 rfl (g_S hS hP4.2 hi (k_cV (hSi i hi).1 (s_pass hSi hi hP4.2 (fun n hn => el n (hq i hi n hn).1 (hq i hi n hn).2) (hql i hi) (fun M1 s1 o1 => ?_))))
  have oS := offS_d (by omega) o1
  have hS1 : St P l d c u dr M1 := St_off hS (fun r hr => oS r (fun z => by unfold dO at hr; unfold dS at z; omega))
  have hR1 : Ru P live base mid M1 := Ru_off hR (fun r hr => oS r (fun z => by unfold dR at hr; unfold dS at z; omega))
  obtain ⟨⟨hm0, g0', o0, w0, fl0, r1, r2⟩, t0, ⟨sb, t1⟩, t2, t3⟩ := hR1
  refine k_gR hS1.1 rfl (k_gR hS1.1 rfl (k_gR r1.1 rfl (k_gI hS1.1 rfl (k_cV t3.1 (b_part hP4.1 hP4.2 hi t0 t3 (fun M2 p1 p2 => ?_))))))
  have hS2 : St P l d c u dr M2 := St_off hS1 (fun r hr => p2 r (fun z => by rw [z] at hr; unfold dO at hr; dsimp only at hr; omega))
  have kT2 : ∀ t, t ≠ 3 → ∀ s, Tb t s M1 → Tb t s M2 := fun t ht s h => Tb_off h (p2 _ (rne (by decide))) (p2 _ (rne2 ht)) (p2 _ (rne (by decide)))
  have r1' : Rn (nI P) hm0 g0' o0 w0 fl0 M2 := Rn_off r1 (p2 _ (rne (by decide))) (p2 _ (rne (by decide))) (p2 _ (rne (by decide)))
  refine k_gR hS2.1 rfl (k_gR hS2.1 rfl (k_gR r1'.1 rfl (k_cV p1.1 (b_cells (kT2 0 (by decide) _ t0) p1 (fun M3 c1 c2 => ?_)))))
  have hS3 : St P l d c u dr M3 := St_off hS2 (fun r hr => c2 r (fun z => by rw [z] at hr; unfold dO at hr; dsimp only at hr; omega))
  have kT3 : ∀ t, t ≠ 3 → ∀ s, Tb t s M2 → Tb t s M3 := fun t ht s h => Tb_off h (c2 _ (rne (by decide))) (c2 _ (rne (by decide))) (c2 _ (rne2 ht))
  have o31 : ∀ r : Ro, ¬ dR r → M3 r = M1 r := fun r hr => (c2 r (fun z => hr (by rw [z]; unfold dR; omega))).trans (p2 r (fun z => hr (by rw [z]; unfold dR; omega)))
  have hR3 : Ru P live base (midp P i live mid) M3 := ⟨⟨hm0, g0', o0, w0, fl0, Rn_off r1' (c2 _ (rne (by decide))) (c2 _ (rne (by decide))) (c2 _ (rne (by decide))), r2⟩, kT3 0 (by decide) _ (kT2 0 (by decide) _ t0), ⟨sb, kT3 1 (by decide) _ (kT2 1 (by decide) _ t1)⟩, kT3 2 (by decide) _ (kT2 2 (by decide) _ t2), c1⟩
  have s3 : Si P tk (uq q i (q i).tail) (ub sd i false) mk lf M3 := Si_off s1 hP4.2 (fun r hr => o31 r (fun z => by unfold dS at hr; unfold dR at z; omega))
  refine k_gR hS3.1 rfl (g_S hS3 hP4.2 hi (k_gR hS3.1 rfl (k_gI hS3.1 rfl (k_cV c1.1 (b_count hP4.1 hP4.2 hi c1 ?_)))))
  have ec : cpn (mixp P i live mid 32).1 P i 32 = cpn live.1 P i 32 := cpn_ext 32 (fun j a b => if_pos ⟨a, b⟩)
  rw [show ((mixp P i live mid 32).1, fun j => if 32 ≤ j then live.2 j else (mixp P i live mid 32).2 j).1 = (mixp P i live mid 32).1 from rfl, ec]
  have a4 := (s3 i hi).1
  unfold wp_Q_beginPart
  refine k_cV a4 (k_pF (fs' := [vR (some (8, 10 + i)), vI (b2 (ub sd i false i)), vI (b2 true), vI (nI (lf i))]) a4 (Nat.le_of_ble_eq_true rfl) rfl (k_pF (fs' := [vR (some (8, 10 + i)), vI (b2 (ub sd i false i)), vI (b2 true), vI (nI (cpn live.1 P i 32))]) up_s (Nat.le_of_ble_eq_true rfl) rfl ?_))
  rw [up_up]
  have s4 := s_set (s := ub sd i false i) (m := true) (f := cpn live.1 P i 32) s3 hi
  rw [ub_id (f := ub sd i false) rfl] at s4
  generalize hM4 : up M3 (4, i) _ = M4 at s4 ⊢
  have o4 : ∀ r : Ro, r.1 ≠ 4 → M4 r = M3 r := fun r hr => by rw [← hM4, up_n (fun z => hr (by rw [z]))]
  have oo : ∀ r : Ro, ¬ dS r → ¬ dR r → M4 r = M r := fun r z1 z2 => (o4 r (fun z => z1 (by unfold dS; omega))).trans ((o31 r z2).trans (oS r z1))
  have hS4 : St P l d c u dr M4 := St_off hS3 (fun r hr => o4 r (by unfold dO at hr; omega))
  have hR4 : Ru P live base (midp P i live mid) M4 := Ru_off hR3 (fun r hr => o4 r (by unfold dR at hr; omega))
  have hL4 : Lst 20 (tq tk lg) M4 := Lg_off hL (fun r hr => oo r (fun z => by unfold dG at hr; unfold dS at z; omega) (fun z => by unfold dG at hr; unfold dR at z; omega))
  have hC4 : Cl cs cn cd cc cf co cw M4 := Cl_off hC (fun r hr => oo r (fun z => by unfold dC at hr; unfold dS at z; omega) (fun z => by unfold dC at hr; unfold dR at z; omega))
  have hel4 : ∀ m, m ∈ lg → ∃ fs, M4 (7, tk m) = some (ob 7 (vI (nI m) :: fs)) := fun m hm => by
    rw [oo _ (fun z => by unfold dS at z; dsimp only at z; omega) (fun z => by unfold dR at z; dsimp only at z; omega)]
    exact Tk_el hT (hlg m hm).1 (hlg m hm).2
  refine k_cV hS4.1 (c_comp hP4 hd hu hcn hS4 s4 hL4 hel4 (fun m hm => by have := (hlg m hm).2; omega) hlen (fun j hj => ?_) hC4 hR4 (fun g => h0 g M4 s4 hR4 oo) (fun g M5 e1 e2 e3 e4 e5 => h1 g M5 e1 (Si_off s4 hP4.2 (fun r hr => e5 r (by unfold dS at hr; omega) (fun z => by unfold dS at hr; unfold dG at z; omega) (fun z => by unfold dS at hr; unfold dC at z; omega) (fun z => by unfold dS at hr; unfold dR at z; omega))) e2 e3 e4 (fun r z1 z2 z3 z4 z5 => (e5 r z1 z3 z4 z5).trans (oo r z2 z5))))
  by_cases ej : j = i
  · subst ej
    rw [un_s]
    have := cpn_le (T := live.1) (P := P) (i := j) 32
    omega
  · rw [un_n ej]
    exact hlf j hj
/-- what a finished command leaves of clients and tables -/
def FIN (P d n : Nat) (xo : Nat → DB → Oc) (cl : Nat → Nat) (cs : Fn) (cn : Nat → Nat) (cd cc : Nat → Bool) (cf : Fn) (co : Nat → Nat) (cw : Nat → Fn) (live base mid : DB) (M' : wM) : Prop := ∃ w' fl' j, j ≤ 4 ∧ (xo n live).2.2.2.1 = nI j ∧ (∀ k, k < j → w' k = (xo n live).2.2.2.2 k) ∧ (¬ (xo n live).1 < 0 → fl' = (xo n live).1) ∧ Cl (upd cs (cl n) (if cs (cl n) = 1 ∧ cn (cl n) ≤ d then (if (xo n live).1 < 0 then 2 else 3) else cs (cl n))) cn (ub cd (cl n) true) (ub cc (cl n) (decide ((xo n live).1 < 0))) (upd cf (cl n) fl') (un co (cl n) j) (fun c => if c = cl n then w' else cw c) M' ∧ Ru P (xd xo n live) base mid M'
theorem c_step {post : Int32 → wM → Prop} {x : Int32} (hP4 : 1 ≤ P ∧ P ≤ 4) (hJ : JP dr dep mul sn so sx sy sz) (hd : d ≤ 1000) (hu : u ≤ 1000) (hcn : ∀ c, c < 4 → cn c ≤ 1000) (hS : St P l d c u dr M) (hP : Pr dep mul sn so sx sy sz M) (hT : Tk P l dep mul sn so sx sy sz ic ml hm xo cl tk M) (hSi : Si P tk q sd mk lf M) (hL : Lst 20 (tq tk lg) M) (hq : ∀ i, i < P → ∀ n, n ∈ q i → 1 ≤ n ∧ n ≤ l) (hlg : ∀ n, n ∈ lg → 1 ≤ n ∧ n ≤ l) (hl : l ≤ 1000) (hql : ∀ i, i < P → (q i).length ≤ 512) (hlen : lg.length ≤ 512) (hlf : ∀ i, i < P → lf i ≤ 1000) (hC : Cl cs cn cd cc cf co cw M) (hR : Ru P live base mid M)
    (h0 : (∀ i, i < P → x ≠ nI i) → post (-1) M) (hI : ∀ i, i < P → x = nI i → q i = [] → post 0 M)
    (hW : ∀ i n t, i < P → x = nI i → q i = n :: t →
      (ic n = true → ml n = true → ¬ (∀ j, j < P → ub sd i true j = true) → ∀ M', Si P tk q (ub sd i true) mk lf M' → (∀ r, ¬ dS r → M' r = M r) → post 2 M') ∧
      (ic n = true → ml n = true → (∀ j, j < P → ub sd i true j = true) → ∀ M', Si P tk (fun j => (q j).tail) (fun _ => false) mk lf M' → FIN P d n xo cl cs cn cd cc cf co cw live base mid M' → (∀ r, ¬ dS r → ¬ dC r → ¬ dR r → M' r = M r) → post 1 M') ∧
      (ic n = true → ml n = false → ∀ M', Si P tk (uq q i (q i).tail) (ub sd i false) mk lf M' → FIN P d n xo cl cs cn cd cc cf co cw live base mid M' → (∀ r, ¬ dS r → ¬ dC r → ¬ dR r → M' r = M r) → post 1 M') ∧
      (ic n = false → ¬ (∀ j, j < P → ub mk i true j = true ∧ un lf i (cpn live.1 P i 32) j = 0) → ∀ M', Si P tk (uq q i (q i).tail) (ub sd i false) (ub mk i true) (un lf i (cpn live.1 P i 32)) M' → Ru P live base (midp P i live mid) M' → (∀ r, ¬ dS r → ¬ dR r → M' r = M r) → post 3 M') ∧
      (ic n = false → (∀ j, j < P → ub mk i true j = true ∧ un lf i (cpn live.1 P i 32) j = 0) → ∀ M', St P l (max d u) u 0 dr M' → Si P tk (uq q i (q i).tail) (ub sd i false) (ub mk i true) (un lf i (cpn live.1 P i 32)) M' → Lst 20 (tq tk (lg.dropWhile (fun m => decide (m ≤ u)))) M' → Cl (stl (max d u) cs cn cd cc) cn cd cc cf co cw M' → Ru P live (midp P i live mid) (midp P i live mid) M' → (∀ r : Ro, r.1 ≠ 0 → ¬ dS r → ¬ dG r → ¬ dC r → ¬ dR r → M' r = M r) → post 3 M')) : wp_S_step post (some (0, 0)) x M := by
  have el : ∀ n, 1 ≤ n → n ≤ l → ∃ fs, M (7, tk n) = some (ob 7 fs) := fun n g1 g2 => by
    obtain ⟨fs, hf⟩ := Tk_el hT g1 g2
    exact ⟨_, hf⟩
  unfold wp_S_step
  refine k_gI hS.1 rfl (q_wN (by omega) (fun g => ⟨fun z => absurd rfl z, fun _ => h0 g⟩) (fun i hi ex => ⟨fun _ => ?_, fun z => absurd z (by decide)⟩))
  subst ex
  have a4 := (hSi i hi).1
  refine k_gR hS.1 rfl (g_S hS hP4.2 hi (k_cV a4 (s_first hSi hi (fun n hn => el n (hq i hi n hn).1 (hq i hi n hn).2) (hql i hi) (fun e => ⟨fun z => absurd rfl z, fun _ => hI i hi rfl e⟩) (fun n t e => ⟨fun _ => ?_, fun z => (nomatch z)⟩))))
  obtain ⟨w1, w2, w3, w4, w5⟩ := hW i n t hi rfl e
  obtain ⟨n1, nl⟩ := hq i hi n (by rw [e]; exact List.mem_cons_self)
  cases hic : ic n with
  | false =>
    have hM := (hT.1 n n1 nl).1 hic
    refine k_gR hM rfl ⟨fun z => absurd rfl z, fun _ => k_cV hS.1 (c_come hP4 hi hd hu hcn hS hT hSi hL hq hlg hl hql hlen hlf hC hR (fun g => w4 hic g) (fun g => w5 hic g))⟩
  | true =>
    obtain ⟨p, a, b, ee, hM, hp, hdp, hmul, hpt, hhm, hcl, hxo⟩ := (hT.1 n n1 nl).2 hic
    obtain ⟨a2, xs, b1, b2', b3, b4⟩ := hP.1 p hp
    -- the run, at the heap where the queues have moved on
    have run : ∀ M1, (∀ r, ¬ dS r → M1 r = M r) → ∀ q' sd', Si P tk q' sd' mk lf M1 → (∀ M', Si P tk q' sd' mk lf M' → FIN P d n xo cl cs cn cd cc cf co cw live base mid M' → (∀ r, ¬ dS r → ¬ dC r → ¬ dR r → M' r = M r) → post 1 M') → wp_S_step_88 post (some (0, 0)) (nI i) (some (7, tk n)) M1 := fun M1 o1 q' sd' s1 kk => by
      unfold wp_S_step_88
      have hS1 : St P l d c u dr M1 := St_off hS (fun r hr => o1 r (fun z => by unfold dO at hr; unfold dS at z; omega))
      have hP1 : Pr dep mul sn so sx sy sz M1 := Pr_off hP (fun r hr => o1 r (fun z => by unfold dP at hr; unfold dS at z; omega))
      have hT1 : Tk P l dep mul sn so sx sy sz ic ml hm xo cl tk M1 := Tk_off hT (fun r hr => o1 r (fun z => by unfold dS at z; omega))
      have hC1 : Cl cs cn cd cc cf co cw M1 := Cl_off hC (fun r hr => o1 r (fun z => by unfold dC at hr; unfold dS at z; omega))
      have hR1 : Ru P live base mid M1 := Ru_off hR (fun r hr => o1 r (fun z => by unfold dR at hr; unfold dS at z; omega))
      refine k_cV hS1.1 (c_finish hP4 hd hcn hJ hS1 hP1 hT1 hC1 hR1 n1 nl hic (fun M2 w' fl' j e1 e2 e3 e4 e5 e6 e7 => kk M2 (Si_off s1 hP4.2 (fun r hr => e7 r (fun z => by unfold dS at hr; unfold dC at z; omega) (fun z => by unfold dS at hr; unfold dR at z; omega))) ⟨w', fl', j, e1, e2, e3, e4, e5, e6⟩ (fun r z1 z2 z3 => (e7 r z2 z3).trans (o1 r z1))))
    refine k_gR hM rfl ⟨fun _ => k_gR hM rfl (k_gI a2 rfl ⟨fun m0 => ?_, fun m0 => ?_⟩), fun z => (nomatch z)⟩
    · have hml := hmul.mp m0
      exact k_gR hS.1 rfl (g_S hS hP4.2 hi (k_cV a4 (s_pass hSi hi hP4.2 (fun n hn => el n (hq i hi n hn).1 (hq i hi n hn).2) (hql i hi) (fun M1 s1 o1 => run M1 (offS_d (by omega) o1) _ _ s1 (w3 hic hml)))))
    · have hml : ml n = true := by
        cases h : ml n with
        | false => exact absurd (hmul.mpr h) m0
        | true => rfl
      refine k_gR hS.1 rfl (g_S hS hP4.2 hi (k_pF (fs' := [vR (some (8, 10 + i)), vI (b2 true), vI (b2 (mk i)), vI (nI (lf i))]) a4 (Nat.le_of_ble_eq_true rfl) rfl ?_))
      have s1 := s_set (s := true) (m := mk i) (f := lf i) hSi hi
      rw [ub_id (f := mk) rfl, un_id (f := lf) rfl] at s1
      generalize hM1 : up M (4, i) _ = M1 at s1 ⊢
      have o1 : ∀ r, ¬ dS r → M1 r = M r := fun r hr => by rw [← hM1, up_n (fun z => hr (by rw [z]; unfold dS; omega))]
      have hS1 : St P l d c u dr M1 := St_off hS (fun r hr => o1 r (fun z => by unfold dO at hr; unfold dS at z; omega))
      refine k_cV hS1.1 (s_allStalled hS1 s1 hP4.2 (fun g => ⟨fun _ => ?_, fun z => absurd z (by decide)⟩) (fun g => ⟨fun z => absurd rfl z, fun _ => w1 hic hml g M1 s1 o1⟩))
      refine k_cV hS1.1 (s_passAll hS1 s1 hP4.2 (fun j hj m hm => ?_) hql (fun M2 s2 o2 => run M2 (fun r hr => (o2 r hr).trans (o1 r hr)) _ _ s2 (w2 hic hml g)))
      rw [o1 _ (fun z => by unfold dS at z; dsimp only at z; omega)]
      exact el m (hq j hj m hm).1 (hq j hj m hm).2
theorem c_scan {post : Int32 → wM → Prop} {x y : Int32} (hP4 : 1 ≤ P ∧ P ≤ 4) (hd : d ≤ 1000) (hu : u ≤ 1000) (hcn : ∀ c, c < 4 → cn c ≤ 1000) (hS : St P l d c u dr M) (hT : Tk P l dep mul sn so sx sy sz ic ml hm xo cl tk M) (hSi : Si P tk q sd mk lf M) (hL : Lst 20 (tq tk lg) M) (hlg : ∀ n, n ∈ lg → 1 ≤ n ∧ n ≤ l) (hl : l ≤ 1000) (hlen : lg.length ≤ 512) (hlf : ∀ i, i < P → lf i ≤ 1000) (hC : Cl cs cn cd cc cf co cw M) (hR : Ru P live base mid M)
    (h0 : ¬ (∃ i, i < P ∧ x = nI i ∧ u ≠ 0 ∧ mk i = true) → post (-1) M)
    (h3 : ∀ i, i < P → x = nI i → u ≠ 0 → mk i = true → ¬ (∀ j, j < P → mk j = true ∧ un lf i (lf i - ix y) j = 0) → ∀ M', Si P tk q sd mk (un lf i (lf i - ix y)) M' → (∀ r, ¬ dS r → M' r = M r) → post (nI (lf i - ix y)) M')
    (h4 : ∀ i, i < P → x = nI i → u ≠ 0 → mk i = true → (∀ j, j < P → mk j = true ∧ un lf i (lf i - ix y) j = 0) → ∀ M', St P l (max d u) u 0 dr M' → Si P tk q sd mk (un lf i (lf i - ix y)) M' → Lst 20 (tq tk (lg.dropWhile (fun m => decide (m ≤ u)))) M' → Cl (stl (max d u) cs cn cd cc) cn cd cc cf co cw M' → Ru P live mid mid M' → (∀ r : Ro, r.1 ≠ 0 → ¬ dS r → ¬ dG r → ¬ dC r → ¬ dR r → M' r = M r) → post (nI (lf i - ix y)) M') : wp_S_scan post (some (0, 0)) x y M := by
  unfold wp_S_scan wp_S_scan_30
  refine k_gI hS.1 rfl (q_wN (by omega) (fun g => ⟨fun _ => h0 (fun ⟨i, hi, e, _⟩ => g i hi e), fun z => absurd rfl z⟩) (fun i hi ex => ⟨fun z => absurd z (by decide), fun _ => ?_⟩))
  subst ex
  have a4 := (hSi i hi).1
  refine k_gI hS.1 rfl ⟨fun z => h0 (fun ⟨i', hi', e, hu', _⟩ => hu' ((nI_eq (b := 0) (by omega) (by decide)).mp z)), fun z => k_gR hS.1 rfl (g_S hS hP4.2 hi (k_gI a4 rfl ⟨fun w => ?_, fun w => h0 (fun ⟨i', hi', e, _, g⟩ => ?_)⟩))⟩
  · have hu0 : u ≠ 0 := fun y => z (by rw [y]; rfl)
    have hmk : mk i = true := by
      cases h : mk i with
      | false => exact absurd (b2_0.mpr h) w
      | true => rfl
    refine k_gR hS.1 rfl (g_S hS hP4.2 hi (k_gI a4 rfl ?_))
    have fin : ∀ v, nI (lf i) - v = nI (lf i - ix y) → pF M (some (4, i)) 4 3 (vI (nI (lf i) - v)) (fun M57 => cV M57 (some (0, 0)) 0 (wp_S_completeSnapshotIfCopied (fun M61 => gI M61 (some (4, i)) 4 3 (fun a65 => post a65 M61)) (some (0, 0)) M57)) := fun v ev => by
      rw [ev]
      refine k_pF (fs' := [vR (some (8, 10 + i)), vI (b2 (sd i)), vI (b2 (mk i)), vI (nI (lf i - ix y))]) a4 (Nat.le_of_ble_eq_true rfl) rfl ?_
      have s1 := s_set (s := sd i) (m := mk i) (f := lf i - ix y) hSi hi
      rw [ub_id (f := sd) rfl, ub_id (f := mk) rfl] at s1
      generalize hM1 : up M (4, i) _ = M1 at s1 ⊢
      have o1 : ∀ r, ¬ dS r → M1 r = M r := fun r hr => by rw [← hM1, up_n (fun z => hr (by rw [z]; unfold dS; omega))]
      have hS1 : St P l d c u dr M1 := St_off hS (fun r hr => o1 r (fun z => by unfold dO at hr; unfold dS at z; omega))
      have hL1 : Lst 20 (tq tk lg) M1 := Lg_off hL (fun r hr => o1 r (fun z => by unfold dG at hr; unfold dS at z; omega))
      have hC1 : Cl cs cn cd cc cf co cw M1 := Cl_off hC (fun r hr => o1 r (fun z => by unfold dC at hr; unfold dS at z; omega))
      have hR1 : Ru P live base mid M1 := Ru_off hR (fun r hr => o1 r (fun z => by unfold dR at hr; unfold dS at z; omega))
      have a1 := (s1 i hi).1
      rw [un_s] at a1
      refine k_cV hS1.1 (c_comp hP4 hd hu hcn hS1 s1 hL1 (fun m hm => ?_) (fun m hm => by have := (hlg m hm).2; omega) hlen (fun j hj => ?_) hC1 hR1 (fun g => k_gI a1 rfl (h3 i hi rfl hu0 hmk g M1 s1 o1)) (fun g M5 e1 e2 e3 e4 e5 => ?_))
      · rw [o1 _ (fun z => by unfold dS at z; dsimp only at z; omega)]
        exact Tk_el hT (hlg m hm).1 (hlg m hm).2
      · by_cases ej : j = i
        · subst ej
          rw [un_s]
          have := hlf j hj
          omega
        · rw [un_n ej]
          exact hlf j hj
      · have s5 := Si_off s1 hP4.2 (M' := M5) (fun r hr => e5 r (by unfold dS at hr; omega) (fun z => by unfold dS at hr; unfold dG at z; omega) (fun z => by unfold dS at hr; unfold dC at z; omega) (fun z => by unfold dS at hr; unfold dR at z; omega))
        have a5 := (s5 i hi).1
        rw [un_s] at a5
        exact k_gI a5 rfl (h4 i hi rfl hu0 hmk g M5 e1 s5 e2 e3 e4 (fun r z1 z2 z3 z4 z5 => (e5 r z1 z3 z4 z5).trans (o1 r z2)))
    have hl3 := hlf i hi
    have mx : ∀ m : Nat, m < 2 ^ 31 → m = ix y → gI M (some (4, i)) 4 3 (fun a50 => wp_Ma_min (fun a53 M53 => pF M53 (some (4, i)) 4 3 (vI (nI (lf i) - a53)) (fun M57 => cV M57 (some (0, 0)) 0 (wp_S_completeSnapshotIfCopied (fun M61 => gI M61 (some (4, i)) 4 3 (fun a65 => post a65 M61)) (some (0, 0)) M57))) (nI m) a50 M) := fun m hm e => by
      refine k_gI a4 rfl ?_
      unfold wp_Ma_min wp_Ma_min_10
      refine ⟨fun z => fin _ ?_, fun z => fin _ ?_⟩
      · have := (nI_ltI (by omega) hm).mp z
        rw [pk_sub (by omega), ← e, show lf i - lf i = 0 by omega, show lf i - m = 0 by omega]
      · have : ¬ lf i < m := fun y => z (nI_lt y hm)
        rw [pk_sub (by omega), ← e]
    unfold wp_Ma_max wp_Ma_max_10
    refine ⟨fun v => ?_, fun v => ?_⟩
    · exact mx 0 (by decide) (ix_neg (Int32.not_le.mpr v)).symm
    · obtain ⟨m, hm, rfl⟩ := nI_of (x := y) v
      exact mx m hm (ix_nI hm).symm
  · rw [← (nI_eq (by omega) (by omega)).mp e, b2_0.mp w] at g
    exact absurd g (by decide)
end CL7
