/-! the class: crash, and what only answers -/
section CL8
variable {P l d c u : Nat} {dr : Option Nat} {dep : Nat → Bool} {mul : Fn} {sn : Nat → Nat} {so sx sy sz : Nat → Fn} {ic ml : Nat → Bool} {hm : Nat → Nat} {xo : Nat → DB → Oc} {cl tk : Nat → Nat} {q : Nat → List Nat} {sd mk : Nat → Bool} {lf : Nat → Nat} {lg : List Nat} {cs : Fn} {cn : Nat → Nat} {cd cc : Nat → Bool} {cf : Fn} {co : Nat → Nat} {cw : Nat → Fn} {live base mid : DB} {M M' : wM}
def fl (xo : Nat → DB → Oc) (s : DB) (ns : List Nat) : DB := ns.foldl (fun s n => xd xo n s) s
theorem c_lose {post : wM → Prop} {i : Nat} (hC : Cl cs cn cd cc cf co cw M) (hi : i < 4) (k : ∀ M', Cl (upd cs i (if cs i = 1 then 4 else cs i)) cn cd cc cf co cw M' → (∀ r : Ro, r ≠ (1, i) → M' r = M r) → post M') : wp_C_lose post (some (1, i)) M := by
  obtain ⟨c1, f, c2, c3⟩ := hC i hi
  unfold wp_C_lose wp_C_lose_13
  refine k_gI c1 rfl ⟨fun z => ?_, fun z => ?_⟩
  · rw [if_neg z, upd_id rfl] at k
    exact k M hC (fun _ _ => rfl)
  · refine k_pF (fs' := [vI 4, vI (nI (cn i)), vI (b2 (cd i)), vI (b2 (cc i)), vI (cf i), vI (nI (co i)), vR (some (21, i))]) c1 (Nat.le_of_ble_eq_true rfl) rfl ?_
    have := Cl_up (v := 4) hC hi
    rw [if_pos z] at k
    exact k _ this (fun r hr => up_n hr)
set_option maxHeartbeats 1000000 in
theorem c_crash {post : Int32 → wM → Prop} (hP4 : 1 ≤ P ∧ P ≤ 4) (hJ : JP dr dep mul sn so sx sy sz) (hd : d ≤ 1000) (hl : l ≤ 1000) (hS : St P l d c u dr M) (hP : Pr dep mul sn so sx sy sz M) (hT : Tk P l dep mul sn so sx sy sz ic ml hm xo cl tk M) (hSi : Si P tk q sd mk lf M) (hL : Lst 20 (tq tk lg) M) (hlg : ∀ n, n ∈ lg → 1 ≤ n ∧ n ≤ l ∧ ic n = true) (hso : lg.Pairwise (· < ·)) (hql : ∀ i, i < P → (q i).length ≤ 512) (hlen : lg.length ≤ 512) (hC : Cl cs cn cd cc cf co cw M) (hR : Ru P live base mid M)
    (k : ∀ M', St P d d c 0 dr M' → Si P tk (fun _ => []) (fun _ => false) mk lf M' → Lst 20 (tq tk (lg.filter (fun m => decide (m ≤ d)))) M' → Cl (fun i => if cs i = 1 then 4 else cs i) cn cd cc cf co cw M' → Ru P (fl xo base (lg.filter (fun m => decide (m ≤ d)))) base mid M' → (∀ r : Ro, r.1 ≠ 0 → ¬ dS r → ¬ dG r → ¬ dC r → ¬ dR r → M' r = M r) → post (nI d) M') : wp_S_crash post (some (0, 0)) M := by
  -- the runs
  have runs : ∀ (L : List Nat), L.length ≤ 512 → (∀ n, n ∈ L → 1 ≤ n ∧ n ≤ l ∧ ic n = true) → ∀ (y1 y2 : Int32) (m x : Nat) (M1 : wM), x + m = L.length → St P d d c 0 dr M1 → Pr dep mul sn so sx sy sz M1 → Tk P l dep mul sn so sx sy sz ic ml hm xo cl tk M1 → Lst 20 (tq tk L) M1 → Ru P (fl xo base (L.take x)) base mid M1 → (∀ M', St P d d c 0 dr M' → Lst 20 (tq tk L) M' → Ru P (fl xo base L) base mid M' → (∀ r : Ro, ¬ dR r → M' r = M1 r) → post (nI d) M') → wp_S_crash_99 post (m + 1) (some (0, 0)) (nI x) y1 y2 M1 := by
    intro L hLl hLe y1 y2 m
    induction m with
    | zero =>
      intro x M1 hx s1 p1 t1 l1 r1 kk
      obtain ⟨v, mc, ea, h8, -⟩ := id l1
      unfold wp_S_crash_99
      refine k_gR s1.1 rfl (k_cV h8 (a_size l1 ⟨fun _ => k_gI s1.1 rfl (kk M1 s1 l1 ?_ (fun _ _ => rfl)), fun z => absurd ?_ z⟩))
      · rw [List.take_of_length_le (by omega)] at r1
        exact r1
      · rw [List.length_map]
        exact nI_le (by omega) (by omega)
    | succ m ih =>
      intro x M1 hx s1 p1 t1 l1 r1 kk
      obtain ⟨v, mc, ea, h8, -⟩ := id l1
      have hxl : x < L.length := by omega
      have hmem : L[x] ∈ L := List.getElem_mem hxl
      obtain ⟨n1, nl, hic⟩ := hLe _ hmem
      obtain ⟨fs, hf⟩ := Tk_el t1 n1 nl
      obtain ⟨⟨hm0, g0', o0, w0, fl0, q1, q2⟩, -⟩ := id r1
      unfold wp_S_crash_99
      refine k_gR s1.1 rfl (k_cV h8 (a_size l1 ⟨fun z => ?_, fun _ => k_gR s1.1 rfl (k_gR s1.1 rfl (k_cV h8 (a_get (i := x) l1 rfl (by rw [List.length_map]; omega) ?_)))⟩))
      · rw [List.length_map] at z
        exact absurd ((nI_leI (by omega) (by omega)).mp z) (by omega)
      · rw [show (tq tk L)[x]? = some (7, tk L[x]) by unfold tq; rw [List.getElem?_map, List.getElem?_eq_getElem hxl]; rfl]
        refine ⟨fun r e => ?_, k_cV q1.1 (c_run hP4 hJ p1 t1 r1 n1 nl hic (fun M2 hm' g' w' fl' j hj e1 e2 e3 e4 e5 e6 => ?_))⟩
        · cases e
          exact ⟨_, hf⟩
        · rw [nI_1]
          refine ih (x + 1) M2 (by omega) (St_off s1 (fun r hr => e6 r (fun z => by unfold dO at hr; unfold dR at z; omega))) (Pr_off p1 (fun r hr => e6 r (fun z => by unfold dP at hr; unfold dR at z; omega))) (Tk_off t1 (fun r hr => e6 r (fun z => by unfold dR at z; omega))) (Lg_off l1 (fun r hr => e6 r (fun z => by unfold dG at hr; unfold dR at z; omega))) ?_ (fun M' z1 z2 z3 z4 => kk M' z1 z2 z3 (fun r hr => (z4 r hr).trans (e6 r hr)))
          have : fl xo base (L.take (x + 1)) = xd xo L[x] (fl xo base (L.take x)) := by
            unfold fl
            rw [List.take_succ_eq_append_getElem hxl, List.foldl_append]
            rfl
          rw [this]
          exact e5
  -- the clients, then the log and the rows
  have cls : ∀ m i M1, i + m = 4 → St P l d c 0 dr M1 → Si P tk (fun _ => []) (fun _ => false) mk lf M1 → Cl (fun j => if j < i then (if cs j = 1 then 4 else cs j) else cs j) cn cd cc cf co cw M1 → (∀ r : Ro, r.1 ≠ 0 → ¬ dS r → r.1 ≠ 1 → M1 r = M r) → wp_S_crash_46 post (m + 1) (some (0, 0)) (some (32, 0)) 4 (nI i) M1 := by
    intro m
    induction m with
    | zero =>
      intro i M1 hi s1 si1 c1 o1
      have hC1 : Cl (fun j => if cs j = 1 then 4 else cs j) cn cd cc cf co cw M1 := fun j hj => by
        have := c1 j hj
        dsimp only at this
        rw [if_pos (by omega)] at this
        exact this
      have hL1 : Lst 20 (tq tk lg) M1 := Lg_off hL (fun r hr => o1 r (by unfold dG at hr; omega) (fun z => by unfold dG at hr; unfold dS at z; omega) (by unfold dG at hr; omega))
      have hT1 : Tk P l dep mul sn so sx sy sz ic ml hm xo cl tk M1 := Tk_off hT (fun r hr => o1 r (by omega) (fun z => by unfold dS at z; omega) (by omega))
      unfold wp_S_crash_46
      refine ⟨fun _ => k_gI s1.1 rfl (k_cV s1.1 (g_above s1 hL1 (fun m hm => Tk_el hT1 (hlg m hm).1 (hlg m hm).2.1) (fun m hm => by have := (hlg m hm).2.1; omega) hso hd hlen (fun M2 l2 o2 => ?_))), fun z => absurd (nI_le (a := 4) (by omega) (by omega)) z⟩
      have s2 : St P l d c 0 dr M2 := St_off s1 (fun r hr => o2 r (fun z => by unfold dO at hr; unfold dG at z; omega))
      refine k_gI s2.1 rfl (k_pF (fs' := [vI (nI P), vR (some (30, 0)), vR (dr.map fun p => (2, p)), vR (some (31, 0)), vR (some (32, 0)), vR (some (8, 20)), vR (some (3, 0)), vR (some (6, 2)), vI (nI c), vR (some (6, 3)), vI (nI 0), vI (nI d), vI (nI d)]) s2.1 (Nat.le_of_ble_eq_true rfl) rfl ?_)
      generalize hM3 : up M2 (0, 0) _ = M3
      have s3 : St P d d c 0 dr M3 := by rw [← hM3]; exact St_up s2
      have o3 : ∀ r : Ro, r.1 ≠ 0 → M3 r = M2 r := fun r hr => by rw [← hM3, up_n (fun z => hr (by rw [z]))]
      have o30 : ∀ r : Ro, r.1 ≠ 0 → ¬ dS r → ¬ dG r → r.1 ≠ 1 → M3 r = M r := fun r z1 z2 z3 z4 => (o3 r z1).trans ((o2 r z3).trans (o1 r z1 z2 z4))
      have r3 : Ru P live base mid M3 := Ru_off hR (fun r hr => o30 r (by unfold dR at hr; omega) (fun z => by unfold dR at hr; unfold dS at z; omega) (fun z => by unfold dR at hr; unfold dG at z; omega) (by unfold dR at hr; omega))
      obtain ⟨⟨hm0, g0', o0, w0, fl0, q1, q2⟩, t0, ⟨sb, t1⟩, t2, t3⟩ := r3
      refine k_gR s3.1 rfl (k_gR q1.1 rfl (k_gR s3.1 rfl (k_cV t0.1 (b_copy (by decide) t2 t0 (fun M4 u1 v1 => ?_)))))
      have oR : ∀ r : Ro, ¬ dR r → M4 r = M3 r := fun r hr => v1 r (fun z => hr (by unfold cR at z; unfold dR; omega))
      have kT : ∀ t, t ≠ 0 → ∀ s, Tb t s M3 → Tb t s M4 := fun t ht s h => Tb_off h (v1 _ (fun z => by unfold cR at z; dsimp only at z; omega)) (v1 _ (fun z => by unfold cR at z; dsimp only at z; omega)) (v1 _ (fun z => by unfold cR at z; dsimp only at z; omega))
      have r4 : Ru P base base mid M4 := ⟨⟨hm0, g0', o0, w0, fl0, Rn_off q1 (v1 _ (fun z => by unfold cR at z; dsimp only at z; omega)) (v1 _ (fun z => by unfold cR at z; dsimp only at z; omega)) (v1 _ (fun z => by unfold cR at z; dsimp only at z; omega)), q2⟩, u1, ⟨sb, kT 1 (by decide) _ t1⟩, kT 2 (by decide) _ t2, kT 3 (by decide) _ t3⟩
      have o40 : ∀ r : Ro, r.1 ≠ 0 → ¬ dS r → ¬ dG r → r.1 ≠ 1 → ¬ dR r → M4 r = M r := fun r z1 z2 z3 z4 z5 => (oR r z5).trans (o30 r z1 z2 z3 z4)
      have hfl : (lg.filter (fun m => decide (m ≤ d))).length ≤ 512 := Nat.le_trans (List.length_filter_le _ _) hlen
      refine ⟨(lg.filter (fun m => decide (m ≤ d))).length + 1, runs (lg.filter (fun m => decide (m ≤ d))) hfl (fun n hn => hlg n (List.mem_filter.mp hn).1) _ _ _ 0 M4 (by omega) (St_off s3 (fun r hr => oR r (fun z => by unfold dO at hr; unfold dR at z; omega))) (Pr_off hP (fun r hr => o40 r (by unfold dP at hr; omega) (fun z => by unfold dP at hr; unfold dS at z; omega) (fun z => by unfold dP at hr; unfold dG at z; omega) (by unfold dP at hr; omega) (fun z => by unfold dP at hr; unfold dR at z; omega))) (Tk_off hT (fun r hr => o40 r (by omega) (fun z => by unfold dS at z; omega) (fun z => by unfold dG at z; omega) (by omega) (fun z => by unfold dR at z; omega))) ?_ r4 (fun M5 z1 z2 z3 z4 => k M5 z1 ?_ z2 ?_ z3 (fun r y1 y2 y3 y4 y5 => ?_))⟩
      · exact Lg_off l2 (fun r hr => (oR r (fun z => by unfold dG at hr; unfold dR at z; omega)).trans (o3 r (by unfold dG at hr; omega)))
      · exact Si_off si1 hP4.2 (fun r hr => (z4 r (fun z => by unfold dS at hr; unfold dR at z; omega)).trans ((oR r (fun z => by unfold dS at hr; unfold dR at z; omega)).trans ((o3 r (by unfold dS at hr; omega)).trans (o2 r (fun z => by unfold dS at hr; unfold dG at z; omega)))))
      · exact Cl_off hC1 (fun r hr => (z4 r (fun z => by unfold dC at hr; unfold dR at z; omega)).trans ((oR r (fun z => by unfold dC at hr; unfold dR at z; omega)).trans ((o3 r (by unfold dC at hr; omega)).trans (o2 r (fun z => by unfold dC at hr; unfold dG at z; omega)))))
      · rw [z4 r y5]
        exact o40 r y1 y2 y3 (fun z => y4 (by unfold dC; omega)) y5
    | succ m ih =>
      intro i M1 hi s1 si1 c1 o1
      unfold wp_S_crash_46
      refine ⟨fun z => absurd ((nI_leI (a := 4) (by omega) (by omega)).mp z) (by omega), fun _ => g_C s1 (by omega) (k_cV (c1 i (by omega)).1 (c_lose c1 (by omega) (fun M2 c2 o2 => ?_)))⟩
      rw [nI_1]
      refine ih (i + 1) M2 (by omega) (St_off s1 (fun r hr => o2 r (fun z => by rw [z] at hr; unfold dO at hr; dsimp only at hr; omega))) (Si_off si1 hP4.2 (fun r hr => o2 r (fun z => by rw [z] at hr; unfold dS at hr; dsimp only at hr; omega))) ?_ (fun r z1 z2 z3 => (o2 r (fun z => z3 (by rw [z]))).trans (o1 r z1 z2 z3))
      refine (show upd (fun j => if j < i then (if cs j = 1 then 4 else cs j) else cs j) i _ = (fun j => if j < i + 1 then (if cs j = 1 then 4 else cs j) else cs j) from ?_) ▸ c2
      funext j
      by_cases e : j = i
      · subst e
        rw [upd_s, if_pos (Nat.lt_succ_self j)]
        simp only [Nat.lt_irrefl, reduceIte]
      · rw [upd_n e]
        by_cases e2 : j < i
        · rw [if_pos e2, if_pos (show j < i + 1 by omega)]
        · rw [if_neg e2, if_neg (show ¬ j < i + 1 by omega)]
  -- the sites
  have sts : ∀ m i M1, i + m = P → Si P tk (fun j => if j < i then [] else q j) (fun j => if j < i then false else sd j) mk lf M1 → (∀ r, ¬ dS r → M1 r = M r) → wp_S_crash_10 post (m + 1) (some (0, 0)) (some (31, 0)) (nI P) (nI i) M1 := by
    intro m
    induction m with
    | zero =>
      intro i M1 hi si1 o1
      have s1 : St P l d c u dr M1 := St_off hS (fun r hr => o1 r (fun z => by unfold dO at hr; unfold dS at z; omega))
      unfold wp_S_crash_10
      refine ⟨fun _ => k_pF (fs' := [vI (nI P), vR (some (30, 0)), vR (dr.map fun p => (2, p)), vR (some (31, 0)), vR (some (32, 0)), vR (some (8, 20)), vR (some (3, 0)), vR (some (6, 2)), vI (nI c), vR (some (6, 3)), vI (nI 0), vI (nI l), vI (nI d)]) s1.1 (Nat.le_of_ble_eq_true rfl) rfl ?_, fun z => absurd (nI_le (by omega) (by omega)) z⟩
      generalize hM2 : up M1 (0, 0) _ = M2
      have s2 : St P l d c 0 dr M2 := by rw [← hM2]; exact St_up s1
      have o2 : ∀ r : Ro, r.1 ≠ 0 → M2 r = M1 r := fun r hr => by rw [← hM2, up_n (fun z => hr (by rw [z]))]
      refine k_gR s2.1 rfl (g_nC s2 ⟨5, cls 4 0 M2 (by omega) s2 (fun j hj => ?_) (fun j hj => Cl_off hC (fun r hr => (o2 r (by unfold dC at hr; omega)).trans (o1 r (fun z => by unfold dC at hr; unfold dS at z; omega))) j hj) (fun r z1 z2 z3 => (o2 r z1).trans (o1 r z2))⟩)
      have := Si_off si1 hP4.2 (M' := M2) (fun r hr => o2 r (by unfold dS at hr; omega)) j hj
      dsimp only at this
      rw [if_pos (by omega), if_pos (by omega)] at this
      exact this
    | succ m ih =>
      intro i M1 hi si1 o1
      have s1 : St P l d c u dr M1 := St_off hS (fun r hr => o1 r (fun z => by unfold dO at hr; unfold dS at z; omega))
      unfold wp_S_crash_10
      refine ⟨fun z => absurd ((nI_leI (by omega) (by omega)).mp z) (by omega), fun _ => g_S s1 hP4.2 (by omega) (k_cV (si1 i (by omega)).1 (s_restart si1 (by omega) hP4.2 ?_ (fun M2 g1 g2 => ?_)))⟩
      · rw [if_neg (by omega)]
        exact hql i (by omega)
      · rw [nI_1]
        refine ih (i + 1) M2 (by omega) (fun j hj => ?_) (fun r hr => (offS_d (by omega) g2 r hr).trans (o1 r hr))
        have := g1 j hj
        unfold uq ub at this
        dsimp only at this ⊢
        by_cases e : j = i
        · subst e
          rw [if_pos rfl, if_pos rfl] at this
          rw [if_pos (by omega), if_pos (by omega)]
          exact this
        · rw [if_neg e, if_neg e] at this
          by_cases e2 : j < i
          · rw [if_pos e2, if_pos e2] at this
            rw [if_pos (by omega), if_pos (by omega)]
            exact this
          · rw [if_neg e2, if_neg e2] at this
            rw [if_neg (by omega), if_neg (by omega)]
            exact this
  unfold wp_S_crash
  exact k_gR hS.1 rfl (g_nS hS ⟨P + 1, sts P 0 M (by omega) (fun j hj => hSi j hj) (fun _ _ => rfl)⟩)
/-! answers -/
theorem c_answer {post : Int32 → wM → Prop} {x : Int32} (hS : St P l d c u dr M) (hC : Cl cs cn cd cc cf co cw M) (h0 : (∀ i, i < 4 → x ≠ nI i) → post (-1) M) (h1 : ∀ i, i < 4 → x = nI i → post (cs i) M) : wp_S_answer post (some (0, 0)) x M := by
  unfold wp_S_answer wp_S_answer_21
  refine q_wN (n := 4) (by decide) (fun g => ⟨fun _ => h0 g, fun z => absurd rfl z⟩) (fun i hi ex => ⟨fun z => absurd z (by decide), fun _ => ?_⟩)
  subst ex
  exact k_gR hS.1 rfl (g_C hS hi (k_gI (hC i hi).1 rfl (h1 i hi rfl)))
theorem c_output {post : Int64 → wM → Prop} {x y : Int32} (hS : St P l d c u dr M) (hC : Cl cs cn cd cc cf co cw M) (hco : ∀ i, i < 4 → cs i = 2 → co i ≤ 4) (h0 : (∀ i, i < 4 → x ≠ nI i) → post 1000000000000 M) (h1 : ∀ i, i < 4 → x = nI i → post (ovl (cs i) (cf i) (co i) (cw i) y) M) : wp_S_output post (some (0, 0)) x y M := by
  unfold wp_S_output wp_S_output_24
  refine q_wN (n := 4) (by decide) (fun g => ⟨fun _ => h0 g, fun z => absurd rfl z⟩) (fun i hi ex => ⟨fun z => absurd z (by decide), fun _ => ?_⟩)
  subst ex
  have h1 := h1 i hi rfl
  obtain ⟨a, f, b, e⟩ := hC i hi
  refine k_gR hS.1 rfl (g_C hS hi (k_cV a ?_))
  have t46 : (¬ cs i = 2 ∨ (¬ y = -1 ∧ (y < 0 ∨ ¬ y < nI (co i)))) → wp_C_tell_46 (fun a15 M15 => post a15 M15) (some (1, i)) y M := fun hy => by
    unfold wp_C_tell_46 wp_C_tell_65
    unfold ovl at h1
    refine k_gI a rfl ⟨fun z => ?_, fun z => ⟨fun w => ?_, fun w => k_gI a rfl ?_⟩⟩
    · by_cases c2 : cs i = 2
      · rcases hy with hy | hy
        · exact absurd c2 hy
        · rw [if_pos c2, if_neg hy.1, if_pos hy.2] at h1
          exact h1
      · rw [if_neg c2, if_neg (fun v => z v.1)] at h1
        exact h1
    · rw [if_neg (by rw [z]; decide), if_neg (fun v => w v.2)] at h1
      exact h1
    · rw [if_neg (by rw [z]; decide), if_pos ⟨z, w⟩] at h1
      exact h1
  have t19 : (¬ cs i = 2 ∨ ¬ y = -1) → wp_C_tell_19 (fun a15 M15 => post a15 M15) (some (1, i)) y M := fun hy => by
    unfold wp_C_tell_19
    refine k_gI a rfl ⟨fun z => t46 (Or.inl z), fun z => k_gI a rfl ?_⟩
    have hy1 : ¬ y = -1 := hy.resolve_left (fun w => w z)
    have hc4 := hco i hi z
    refine q_within (fun g => ⟨fun _ => t46 (Or.inr ⟨hy1, g.imp id Int32.not_lt.mpr⟩), fun w => absurd rfl w⟩) (fun g => ⟨fun w => absurd w (by decide), fun _ => k_gR a rfl ?_⟩)
    have g' : ¬ (y < 0 ∨ ¬ y < nI (co i)) := fun w => g (w.imp id Int32.not_lt.mp)
    unfold ovl at h1
    rw [if_pos z, if_neg hy1, if_neg g'] at h1
    obtain ⟨j, hj, rfl⟩ := nI_of (x := y) (fun w => g (Or.inl w))
    have hjc : j < co i := (nI_ltI hj (by omega)).mp (Decidable.byContradiction fun w => g' (Or.inr w))
    rw [ix_nI hj] at h1
    exact k_lI b rfl (by omega) (by decide) (by rw [e j (by omega)]; exact h1)
  unfold wp_C_tell
  refine k_gI a rfl ⟨fun z => t19 (Or.inl z), fun z => ⟨fun w => t19 (Or.inr w), fun w => k_gI a rfl ?_⟩⟩
  unfold ovl at h1
  rw [if_pos z, if_pos w] at h1
  exact h1
theorem c_row {post : Int64 → wM → Prop} {x : Int32} (hS : St P l d c u dr M) (hR : Ru P live base mid M) (h0 : (∀ i, i < 32 → x ≠ nI i) → post 1000000000000 M) (h1 : ∀ i, i < 32 → x = nI i → post (vv live i) M) : wp_S_row post (some (0, 0)) x M := by
  unfold wp_S_row wp_S_row_27
  refine q_wN (n := 32) (by decide) (fun g => ⟨fun _ => h0 g, fun z => absurd rfl z⟩) (fun i hi ex => ⟨fun z => absurd z (by decide), fun _ => ?_⟩)
  subst ex
  obtain ⟨⟨hm0, g0', o0, w0, fl0, q1, q2⟩, ⟨a, ⟨V, b, e⟩, -⟩, -⟩ := hR
  exact k_gR hS.1 rfl (k_gR q1.1 rfl (k_gR a rfl (k_lL b rfl hi (by decide) (by rw [e i hi]; exact h1 i hi rfl))))
theorem c_repl {post : Int64 → wM → Prop} {x : Int32} (hS : St P l d c u dr M) (hR : Ru P live base mid M) (h0 : (∀ i, i < 8 → x ≠ nI i) → post 1000000000000 M) (h1 : ∀ i, i < 8 → x = nI i → post (live.2 (32 + i)).toInt64 M) : wp_S_replicated post (some (0, 0)) x M := by
  unfold wp_S_replicated wp_S_replicated_28
  refine q_wN (n := 8) (by decide) (fun g => ⟨fun _ => h0 g, fun z => absurd rfl z⟩) (fun i hi ex => ⟨fun z => absurd z (by decide), fun _ => ?_⟩)
  subst ex
  obtain ⟨⟨hm0, g0', o0, w0, fl0, q1, q2⟩, ⟨a, -, C, b, e⟩, -⟩ := hR
  exact k_gR hS.1 rfl (k_gR q1.1 rfl (k_gR a rfl (k_lI b rfl hi (by decide) (by rw [e i hi]; exact h1 i hi rfl))))
theorem c_waiting {post : Int32 → wM → Prop} {x : Int32} (hP4 : 1 ≤ P ∧ P ≤ 4) (hS : St P l d c u dr M) (hSi : Si P tk q sd mk lf M) (h0 : (∀ i, i < P → x ≠ nI i) → post (-1) M) (h1 : ∀ i, i < P → x = nI i → post (nI (q i).length) M) : wp_S_waiting post (some (0, 0)) x M := by
  unfold wp_S_waiting wp_S_waiting_27
  refine k_gI hS.1 rfl (q_wN (by omega) (fun g => ⟨fun _ => h0 g, fun z => absurd rfl z⟩) (fun i hi ex => ⟨fun z => absurd z (by decide), fun _ => ?_⟩))
  subst ex
  obtain ⟨a, b⟩ := hSi i hi
  obtain ⟨v, mc, ea, h8, -⟩ := id b
  refine k_gR hS.1 rfl (g_S hS hP4.2 hi (k_gR a rfl (k_cV h8 (a_size b ?_))))
  rw [List.length_map]
  exact h1 i hi rfl
theorem c_rows {post : Int32 → wM → Prop} {x : Int32} (hP4 : 1 ≤ P ∧ P ≤ 4) (hS : St P l d c u dr M) (hR : Ru P live base mid M) (h0 : (∀ i, i < P → x ≠ nI i) → post (-1) M) (h1 : ∀ i, i < P → x = nI i → post (nI (cpn live.1 P i 32)) M) : wp_S_rows post (some (0, 0)) x M := by
  unfold wp_S_rows wp_S_rows_30
  refine k_gI hS.1 rfl (q_wN (by omega) (fun g => ⟨fun _ => h0 g, fun z => absurd rfl z⟩) (fun i hi ex => ⟨fun z => absurd z (by decide), fun _ => ?_⟩))
  subst ex
  obtain ⟨⟨hm0, g0', o0, w0, fl0, q1, q2⟩, t0, -⟩ := hR
  exact k_gR hS.1 rfl (k_gR q1.1 rfl (k_gI hS.1 rfl (k_cV t0.1 (b_count hP4.1 hP4.2 hi t0 (h1 i hi rfl)))))
end CL8
