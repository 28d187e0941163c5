/-! the class: invoke, flush, snapshot -/
section CL6
variable {P l d c u : Nat} {dr : Option Nat} {dep : Nat → Bool} {mul : Fn} {sn : Nat → Nat} {so sx sy sz : Nat → Fn} {ic ml : Nat → Bool} {hm : Nat → Nat} {xo : Nat → DB → Oc} {cl tk : Nat → Nat} {q : Nat → List Nat} {sd mk : Nat → Bool} {lf : Nat → Nat} {lg : List Nat} {cs : Fn} {cn : Nat → Nat} {cd cc : Nat → Bool} {cf : Fn} {co : Nat → Nat} {cw : Nat → Fn} {live base mid : DB} {M M' : wM}
def ux (f : Nat → DB → Oc) (k : Nat) (v : DB → Oc) : Nat → DB → Oc := fun j => if j = k then v else f j
theorem ux_s {f : Nat → DB → Oc} {k : Nat} {v : DB → Oc} : ux f k v k = v := by simp [ux]
theorem ux_n {f : Nat → DB → Oc} {k j : Nat} {v : DB → Oc} (h : j ≠ k) : ux f k v j = f j := by simp [ux, h]
theorem Tk_ne {t0 : Nat} (hT : Tk P l dep mul sn so sx sy sz ic ml hm xo cl tk M) (ht : M (7, t0) = none) {n : Nat} (h1 : 1 ≤ n) (hn : n ≤ l) : tk n ≠ t0 := fun z => by
  obtain ⟨fs, h⟩ := Tk_el hT h1 hn
  rw [z, ht] at h
  exact nomatch h
theorem Tk_new {t0 i p h : Nat} {a b e : Int32} (hT : Tk P l dep mul sn so sx sy sz ic ml hm xo cl tk M) (ht : ∀ t, t0 ≤ t → M (7, t) = none) (hN : M' (7, t0) = some (ob 7 [vI (nI (l + 1)), vI (nI i), vR (some (2, p)), vI a, vI b, vI e])) (ho : ∀ t, t ≠ t0 → M' (7, t) = M (7, t)) (hp : p < 6) (hdp : dep p = true) (hi : i < 4) (hh : pt a (nI P) = nI h) (hhP : h < P) :
    Tk P (l + 1) dep mul sn so sx sy sz (ub ic (l + 1) true) (ub ml (l + 1) (decide (¬ mul p = 0))) (un hm (l + 1) h) (ux xo (l + 1) (fun s => ex (mul p) (nI P) (pt a (nI P)) (sn p) (so p) (sx p) (sy p) (sz p) a b e s.1 s.2 z0)) (un cl (l + 1) i) (un tk (l + 1) t0) M' := by
  refine ⟨fun n h1 h2 => ?_, t0 + 1, fun t g => by rw [ho t (by omega)]; exact ht t (by omega)⟩
  by_cases en : n = l + 1
  · subst en
    rw [ub_s, ub_s, un_s, un_s, un_s, ux_s]
    refine ⟨fun z => absurd z (by decide), fun _ => ⟨p, a, b, e, hN, hp, hdp, ?_, hh, hhP, hi, fun s => rfl⟩⟩
    by_cases hm0 : mul p = 0
    · simp [hm0]
    · simp [hm0]
  · rw [ub_n en, ub_n en, un_n en, un_n en, un_n en, ux_n en, ho _ (Tk_ne hT (ht t0 (Nat.le_refl _)) h1 (by omega))]
    exact hT.1 n h1 (by omega)
theorem Tk_mark {t0 : Nat} (hT : Tk P l dep mul sn so sx sy sz ic ml hm xo cl tk M) (ht : ∀ t, t0 ≤ t → M (7, t) = none) (hN : M' (7, t0) = some (ob 7 [vI (nI (l + 1)), vI (-1), vR none, vI 0, vI 0, vI 0])) (ho : ∀ t, t ≠ t0 → M' (7, t) = M (7, t)) : Tk P (l + 1) dep mul sn so sx sy sz (ub ic (l + 1) false) ml hm xo cl (un tk (l + 1) t0) M' := by
  refine ⟨fun n h1 h2 => ?_, t0 + 1, fun t g => by rw [ho t (by omega)]; exact ht t (by omega)⟩
  by_cases en : n = l + 1
  · subst en
    rw [ub_s, un_s]
    exact ⟨fun _ => hN, fun z => absurd z (by decide)⟩
  · rw [ub_n en, un_n en, ho _ (Tk_ne hT (ht t0 (Nat.le_refl _)) h1 (by omega))]
    exact hT.1 n h1 (by omega)
/-- new Task(..) at role (7, t0) -/
theorem k_task {post : wM → Prop} {t0 : Nat} {n cl' a b e : Int32} {pr : Option Ro} (hf : M (7, t0) = some (ob 7 fd_7)) (k : post (up M (7, t0) (ob 7 [vI n, vI cl', vR pr, vI a, vI b, vI e]))) : wp_K_init post (some (7, t0)) n cl' pr a b e M := by
  unfold wp_K_init
  refine ⟨⟨_, rfl⟩, k_pF (fs' := [vI n, vI 0, vR none, vI 0, vI 0, vI 0]) hf (Nat.le_of_ble_eq_true rfl) rfl (k_pF (fs' := [vI n, vI cl', vR none, vI 0, vI 0, vI 0]) up_s (Nat.le_of_ble_eq_true rfl) rfl (k_pF (fs' := [vI n, vI cl', vR pr, vI 0, vI 0, vI 0]) up_s (Nat.le_of_ble_eq_true rfl) rfl (k_pF (fs' := [vI n, vI cl', vR pr, vI a, vI 0, vI 0]) up_s (Nat.le_of_ble_eq_true rfl) rfl (k_pF (fs' := [vI n, vI cl', vR pr, vI a, vI b, vI 0]) up_s (Nat.le_of_ble_eq_true rfl) rfl (k_pF (fs' := [vI n, vI cl', vR pr, vI a, vI b, vI e]) up_s (Nat.le_of_ble_eq_true rfl) rfl ?_)))))⟩
  rw [up_up, up_up, up_up, up_up, up_up]
  exact k
theorem Si_tk {tk' : Nat → Nat} (h : Si P tk q sd mk lf M) (he : ∀ i, i < P → ∀ n, n ∈ q i → tk' n = tk n) : Si P tk' q sd mk lf M := fun i hi => by
  rw [tq_ext (he i hi)]
  exact h i hi
set_option maxHeartbeats 1000000 in
theorem c_invoke {post : Int32 → wM → Prop} {x y a b e : Int32} (hP4 : 1 ≤ P ∧ P ≤ 4) (hl : l + 1 ≤ 1000) (hS : St P l d c u dr M) (hP : Pr dep mul sn so sx sy sz M) (hT : Tk P l dep mul sn so sx sy sz ic ml hm xo cl tk M) (hSi : Si P tk q sd mk lf M) (hL : Lst 20 (tq tk lg) M) (hC : Cl cs cn cd cc cf co cw M) (hq : ∀ i, i < P → ∀ n, n ∈ q i → 1 ≤ n ∧ n ≤ l) (hlg : ∀ n, n ∈ lg → 1 ≤ n ∧ n ≤ l) (hql : ∀ i, i < P → (q i).length ≤ 511) (hgl : lg.length ≤ 512)
    (h0 : ¬ (∃ i p, i < 4 ∧ p < 6 ∧ x = nI i ∧ y = nI p ∧ ¬ cs i = 1 ∧ dep p = true) → post (-1) M)
    (hF : ∀ i p, i < 4 → p < 6 → x = nI i → y = nI p → ¬ cs i = 1 → dep p = true → 48 ≤ lg.length → post (-2) M)
    (h1 : ∀ i p h t0, i < 4 → p < 6 → x = nI i → y = nI p → ¬ cs i = 1 → dep p = true → lg.length < 48 → pt a (nI P) = nI h → h < P → ∀ M', St P (l + 1) d c u dr M' → Tk P (l + 1) dep mul sn so sx sy sz (ub ic (l + 1) true) (ub ml (l + 1) (decide (¬ mul p = 0))) (un hm (l + 1) h) (ux xo (l + 1) (fun s => ex (mul p) (nI P) (pt a (nI P)) (sn p) (so p) (sx p) (sy p) (sz p) a b e s.1 s.2 z0)) (un cl (l + 1) i) (un tk (l + 1) t0) M' → Si P (un tk (l + 1) t0) (fun j => if (¬ mul p = 0) ∨ j = h then q j ++ [l + 1] else q j) sd mk lf M' → Lst 20 (tq (un tk (l + 1) t0) (lg ++ [l + 1])) M' → Cl (upd cs i 1) (un cn i (l + 1)) (ub cd i false) cc cf co cw M' → (∀ r : Ro, r.1 ≠ 0 → r.1 ≠ 7 → ¬ dG r → ¬ dC r → ¬ dS r → M' r = M r) → post (nI (l + 1)) M') : wp_S_invoke post (some (0, 0)) x y a b e M := by
  unfold wp_S_invoke wp_S_invoke_21 wp_S_invoke_44
  refine q_wN (n := 4) (by decide) (fun g => ⟨fun _ => h0 (fun ⟨i, p, hi, hp, ex, _⟩ => g i hi ex), fun z => absurd rfl z⟩) (fun i hi ex => ⟨fun z => absurd z (by decide), fun _ => ?_⟩)
  subst ex
  obtain ⟨c1, fo1, c2, c3⟩ := hC i hi
  refine k_gR hS.1 rfl (g_C hS hi (k_gI c1 rfl ⟨fun z => ?_, fun z => h0 (fun ⟨i', p, hi', hp, e1, e2, e3, e4⟩ => by rw [← (nI_eq (by omega) (by omega)).mp e1] at e3; exact e3 z)⟩))
  refine q_wN (n := 6) (by decide) (fun g => ⟨fun _ => h0 (fun ⟨i', p, hi', hp, e1, e2, _⟩ => g p hp e2), fun z => absurd rfl z⟩) (fun p hp ey => ⟨fun z => absurd z (by decide), fun _ => ?_⟩)
  subst ey
  obtain ⟨a2, xs, b1, b2', b3, b4⟩ := hP.1 p hp
  refine k_gR hS.1 rfl (g_P hS hp (k_gI a2 rfl ⟨fun w => ?_, fun w => h0 (fun ⟨i', p', hi', hp', e1, e2, e3, e4⟩ => by rw [← (nI_eq (by omega) (by omega)).mp e2, b2_0.mp w] at e4; exact absurd e4 (by decide))⟩))
  have hdp : dep p = true := by
    cases h : dep p with
    | false => exact absurd (b2_0.mpr h) w
    | true => rfl
  obtain ⟨v, mc, ea, h8, -⟩ := id hL
  refine k_gR hS.1 rfl (k_cV h8 (a_size hL ?_))
  rw [List.length_map]
  refine ⟨fun t => ?_, fun t => hF i p hi hp rfl rfl z hdp (Nat.not_lt.mp fun y => t (nI_lt (b := 48) y (by decide)))⟩
  have h48 : lg.length < 48 := (nI_ltI (b := 48) (by omega) (by decide)).mp t
  obtain ⟨h, hhP, hh⟩ := pt_lt (a := a) hP4.1 hP4.2
  refine k_gI hS.1 rfl ?_
  rw [nI_1]
  refine k_pF (fs' := [vI (nI P), vR (some (30, 0)), vR (dr.map fun p => (2, p)), vR (some (31, 0)), vR (some (32, 0)), vR (some (8, 20)), vR (some (3, 0)), vR (some (6, 2)), vI (nI c), vR (some (6, 3)), vI (nI u), vI (nI (l + 1)), vI (nI d)]) hS.1 (Nat.le_of_ble_eq_true rfl) rfl ?_
  generalize hM1 : up M (0, 0) _ = M1
  have hS1 : St P (l + 1) d c u dr M1 := by rw [← hM1]; exact St_up hS
  have o1 : ∀ r : Ro, r.1 ≠ 0 → M1 r = M r := fun r hr => by rw [← hM1, up_n (fun z => hr (by rw [z]))]
  obtain ⟨t0, ht0⟩ := hT.2
  have hn7 : M1 (7, t0) = none := (o1 _ (by show (7 : Nat) ≠ 0; decide)).trans (ht0 t0 (Nat.le_refl _))
  refine k_nO (7, t0) (by show (7 : Nat) < 90; decide) hn7 ?_
  have hS2 : St P (l + 1) d c u dr (up M1 (7, t0) (ob 7 fd_7)) := St_off hS1 (fun r hr => up_n (fun z => by rw [z] at hr; unfold dO at hr; dsimp only at hr; omega))
  refine k_gI hS2.1 rfl (k_gR hS2.1 rfl (g_P hS2 hp (k_cV up_s (k_task up_s ?_))))
  rw [up_up]
  generalize hM3 : up M1 (7, t0) (ob 7 [vI (nI (l + 1)), vI (nI i), vR (some (2, p)), vI a, vI b, vI e]) = M3
  have n3 : M3 (7, t0) = some (ob 7 [vI (nI (l + 1)), vI (nI i), vR (some (2, p)), vI a, vI b, vI e]) := by rw [← hM3]; exact up_s
  have o3 : ∀ r : Ro, r ≠ (7, t0) → M3 r = M1 r := fun r hr => by rw [← hM3, up_n hr]
  have o30 : ∀ r : Ro, r.1 ≠ 0 → r.1 ≠ 7 → M3 r = M r := fun r z1 z2 => (o3 r (fun z => z2 (by rw [z]))).trans (o1 r z1)
  have hS3 : St P (l + 1) d c u dr M3 := St_off hS1 (fun r hr => o3 r (fun z => by rw [z] at hr; unfold dO at hr; dsimp only at hr; omega))
  have o37 : ∀ t, t ≠ t0 → M3 (7, t) = M (7, t) := fun t ht => (o3 _ (rne2 ht)).trans (o1 _ (by show (7 : Nat) ≠ 0; decide))
  have hT3 := Tk_new (i := i) (p := p) (a := a) (b := b) (e := e) (h := h) hT ht0 n3 o37 hp hdp hi hh hhP
  generalize hTk : un tk (l + 1) t0 = tk' at hT3
  have tkn : ∀ n, n ≤ l → tk' n = tk n := fun n hn => by rw [← hTk, un_n (by omega)]
  have tkl : tk' (l + 1) = t0 := by rw [← hTk, un_s]
  have hL3 : Lst 20 (tq tk' lg) M3 := by
    rw [tq_ext (fun n hn => tkn n (hlg n hn).2)]
    exact Lg_off hL (fun r hr => o30 r (by unfold dG at hr; omega) (by unfold dG at hr; omega))
  have hSi3 : Si P tk' q sd mk lf M3 := Si_tk (Si_off hSi hP4.2 (fun r hr => o30 r (by unfold dS at hr; omega) (by unfold dS at hr; omega))) (fun j hj n hn => tkn n (hq j hj n hn).2)
  have hC3 : Cl cs cn cd cc cf co cw M3 := Cl_off hC (fun r hr => o30 r (by unfold dC at hr; omega) (by unfold dC at hr; omega))
  have el3 : ∀ n, 1 ≤ n → n ≤ l + 1 → ∃ fs, M3 (7, tk' n) = some (ob 7 (vI (nI n) :: fs)) := fun n g1 g2 => Tk_el hT3 g1 g2
  obtain ⟨v3, mc3, ea3, h83, -⟩ := id hL3
  refine k_gR hS3.1 rfl (k_cV h83 (a_add (ci := 7) (by omega) hS3.2.2.2.2 hL3 (by rw [List.length_map]; omega) asg7 hca7 (lg_el (fun n hn => el3 n (hlg n hn).1 (by have := (hlg n hn).2; omega))) n3 (rne (by decide)) (by show (7 : Nat) ≠ 50 + 20; decide) (fun M4 g1 g2 => ?_)))
  have og : offG M3 M4 := offG_L g2
  have hS4 : St P (l + 1) d c u dr M4 := St_off hS3 (fun r hr => og r (fun z => by unfold dO at hr; unfold dG at z; omega))
  have hC4 : Cl cs cn cd cc cf co cw M4 := Cl_off hC3 (fun r hr => og r (fun z => by unfold dC at hr; unfold dG at z; omega))
  obtain ⟨d1, f4, d2, d3⟩ := hC4 i hi
  have hL4 : Lst 20 (tq tk' (lg ++ [l + 1])) M4 := by
    unfold tq
    rw [List.map_append]
    show Lst 20 (_ ++ [((7, tk' (l + 1)) : Ro)]) M4
    rw [tkl]
    exact g1
  refine k_gR hS4.1 rfl (g_C hS4 hi (k_gI hS4.1 rfl (k_cV d1 ?_)))
  unfold wp_C_begin
  refine k_pF (fs' := [vI 1, vI (nI (cn i)), vI (b2 (cd i)), vI (b2 (cc i)), vI (cf i), vI (nI (co i)), vR (some (21, i))]) d1 (Nat.le_of_ble_eq_true rfl) rfl (k_pF (fs' := [vI 1, vI (nI (l + 1)), vI (b2 (cd i)), vI (b2 (cc i)), vI (cf i), vI (nI (co i)), vR (some (21, i))]) up_s (Nat.le_of_ble_eq_true rfl) rfl (k_pF (fs' := [vI 1, vI (nI (l + 1)), vI (b2 false), vI (b2 (cc i)), vI (cf i), vI (nI (co i)), vR (some (21, i))]) up_s (Nat.le_of_ble_eq_true rfl) rfl ?_))
  rw [up_up, up_up]
  generalize hM5 : up M4 (1, i) (ob 1 [vI 1, vI (nI (l + 1)), vI (b2 false), vI (b2 (cc i)), vI (cf i), vI (nI (co i)), vR (some (21, i))]) = M5
  have o5 : ∀ r : Ro, r ≠ (1, i) → M5 r = M4 r := fun r hr => by rw [← hM5, up_n hr]
  have o53 : ∀ r : Ro, r.1 ≠ 1 → ¬ dG r → M5 r = M3 r := fun r z1 z2 => (o5 r (fun z => z1 (by rw [z]))).trans (og r z2)
  have hC5 : Cl (upd cs i 1) (un cn i (l + 1)) (ub cd i false) cc cf co cw M5 := fun j hj => by
    obtain ⟨w1, f, w2, w3⟩ := hC4 j hj
    by_cases ej : j = i
    · subst ej
      rw [upd_s, un_s, ub_s]
      exact ⟨by rw [← hM5, up_s], f, (o5 _ (rne (by decide))).trans w2, w3⟩
    · rw [upd_n ej, un_n ej, ub_n ej]
      exact ⟨(o5 _ (rne2 ej)).trans w1, f, (o5 _ (rne (by decide))).trans w2, w3⟩
  have hS5 : St P (l + 1) d c u dr M5 := St_off hS4 (fun r hr => o5 r (fun z => by rw [z] at hr; unfold dO at hr; dsimp only at hr; omega))
  have hL5 : Lst 20 (tq tk' (lg ++ [l + 1])) M5 := Lg_off hL4 (fun r hr => o5 r (fun z => by rw [z] at hr; unfold dG at hr; dsimp only at hr; omega))
  have hSi5 : Si P tk' q sd mk lf M5 := Si_off hSi3 hP4.2 (fun r hr => o53 r (by unfold dS at hr; omega) (fun z => by unfold dS at hr; unfold dG at z; omega))
  have o57 : ∀ t, M5 (7, t) = M3 (7, t) := fun t => o53 _ (by show (7 : Nat) ≠ 1; decide) (fun z => by unfold dG at z; dsimp only at z; omega)
  have a25 : M5 (2, p) = some (ob 2 [vR (some (8, p)), vI (mul p), vI (b2 (dep p))]) := (o53 _ (by show (2 : Nat) ≠ 1; decide) (fun z => by unfold dG at z; dsimp only at z; omega)).trans ((o30 _ (by show (2 : Nat) ≠ 0; decide) (by show (2 : Nat) ≠ 7; decide)).trans a2)
  have n5 : M5 (7, t0) = _ := (o57 t0).trans n3
  have el5 : ∀ n, 1 ≤ n → n ≤ l + 1 → ∃ fs, M5 (7, tk' n) = some (ob 7 fs) := fun n g1 g2 => by
    obtain ⟨fs, hf⟩ := el3 n g1 g2
    exact ⟨_, (o57 _).trans hf⟩
  have fin : ∀ M6, Si P tk' (fun j => if (¬ mul p = 0) ∨ j = h then q j ++ [l + 1] else q j) sd mk lf M6 → (∀ r, ¬ dS r → M6 r = M5 r) → wp_S_invoke_162 post (some (0, 0)) (nI i) (nI p) a b e (some (7, t0)) M6 := fun M6 s6 o6 => by
    unfold wp_S_invoke_162
    have hS6 : St P (l + 1) d c u dr M6 := St_off hS5 (fun r hr => o6 r (fun z => by unfold dO at hr; unfold dS at z; omega))
    refine k_gI hS6.1 rfl (h1 i p h t0 hi hp rfl rfl z hdp h48 hh hhP M6 hS6 ?_ ?_ ?_ (Cl_off hC5 (fun r hr => o6 r (fun z => by unfold dC at hr; unfold dS at z; omega))) (fun r z1 z2 z3 z4 z5 => ?_))
    · rw [hTk]
      exact Tk_off hT3 (fun r hr => (o6 r (fun z => by unfold dS at z; omega)).trans (o53 r (by omega) (fun z => by unfold dG at z; omega)))
    · rw [hTk]
      exact s6
    · rw [hTk]
      exact Lg_off hL5 (fun r hr => o6 r (fun z => by unfold dG at hr; unfold dS at z; omega))
    · rw [o6 r z5, o53 r (fun z => z4 (by unfold dC; omega)) z3, o30 r z1 z2]
  refine k_gR n5 rfl (k_gI a25 rfl ⟨fun m0 => ?_, fun m0 => ?_⟩)
  · refine k_gR hS5.1 rfl (k_gI hS5.1 rfl (k_cV n5 ?_))
    unfold wp_K_home
    refine k_gI n5 rfl (q_floor hP4.1 hP4.2 ?_)
    rw [hh]
    obtain ⟨e4, eL⟩ := hSi5 h hhP
    obtain ⟨v5, mc5, ea5, h85, -⟩ := id eL
    refine g_S hS5 hP4.2 hhP (k_gR e4 rfl (k_cV h85 (a_add (ci := 7) (by omega) hS5.2.2.2.2 eL (by rw [List.length_map]; have := hql h hhP; omega) asg7 hca7 (tq_el (fun n hn => el5 n (hq h hhP n hn).1 (by have := (hq h hhP n hn).2; omega))) n5 (rne (by decide)) (by show (7 : Nat) ≠ 50 + (10 + h); omega) (fun M6 u1 u2 => ?_))))
    have of : offS h M5 M6 := offS_L u2
    have hL6 : Lst (10 + h) (tq tk' (q h ++ [l + 1])) M6 := by
      unfold tq
      rw [List.map_append]
      show Lst (10 + h) (_ ++ [((7, tk' (l + 1)) : Ro)]) M6
      rw [tkl]
      exact u1
    have s6 := Si_mod (s := sd h) (m := mk h) (f := lf h) hSi5 ((u2 _ (rne (by decide)) (by show (4 : Nat) ≠ 50 + (10 + h); omega)).trans e4) hL6 of
    rw [ub_id rfl, ub_id rfl, un_id rfl] at s6
    refine fin M6 (fun j hj => ?_) (offS_d (by omega) of)
    have := s6 j hj
    unfold uq at this
    by_cases ej : j = h
    · subst ej
      rw [if_pos rfl] at this
      dsimp only
      rw [if_pos (Or.inr rfl)]
      exact this
    · rw [if_neg ej] at this
      dsimp only
      rw [if_neg (fun z => z.elim (fun y => y m0) ej)]
      exact this
  · refine k_cV hS5.1 ?_
    have := s_wait (n := l + 1) (post := fun M133 => wp_S_invoke_162 post (some (0, 0)) (nI i) (nI p) a b e (some (7, t0)) M133) hS5 hSi5 hP4.2 (fun j hj n hn => el5 n (hq j hj n hn).1 (by have := (hq j hj n hn).2; omega)) hql (el5 (l + 1) (by omega) (by omega)) (fun M6 u1 u2 => fin M6 (fun j hj => ?_) u2)
    · rw [tkl] at this
      exact this
    · have := u1 j hj
      dsimp only
      rw [if_pos (Or.inl m0)]
      exact this
theorem c_flush {post : Int32 → wM → Prop} (hl : l ≤ 1000) (hd : d ≤ l) (hcn : ∀ c, c < 4 → cn c ≤ 1000) (hS : St P l d c u dr M) (hC : Cl cs cn cd cc cf co cw M) (k : ∀ M', St P l l c u dr M' → Cl (stl l cs cn cd cc) cn cd cc cf co cw M' → (∀ r : Ro, r.1 ≠ 0 → r.1 ≠ 1 → M' r = M r) → post (nI l) M') : wp_S_flush post (some (0, 0)) M := by
  unfold wp_S_flush
  refine k_gI hS.1 rfl (k_cV hS.1 (c_raise hS hC hl (by omega) hcn (fun M' a b o => ?_)))
  rw [Nat.max_eq_right hd] at a b
  exact k_gI a.1 rfl (k M' a b o)
set_option maxHeartbeats 1000000 in
theorem c_snap {post : Int32 → wM → Prop} (hP4 : 1 ≤ P ∧ P ≤ 4) (hl : l + 1 ≤ 1000) (hu : u ≤ l) (hS : St P l d c u dr M) (hT : Tk P l dep mul sn so sx sy sz ic ml hm xo cl tk M) (hSi : Si P tk q sd mk lf M) (hL : Lst 20 (tq tk lg) M) (hq : ∀ i, i < P → ∀ n, n ∈ q i → 1 ≤ n ∧ n ≤ l) (hlg : ∀ n, n ∈ lg → 1 ≤ n ∧ n ≤ l) (hql : ∀ i, i < P → (q i).length ≤ 511)
    (h0 : u ≠ 0 → post (-1) M) (h1 : u = 0 → ∀ t0 M', St P (l + 1) d c (l + 1) dr M' → Tk P (l + 1) dep mul sn so sx sy sz (ub ic (l + 1) false) ml hm xo cl (un tk (l + 1) t0) M' → Si P (un tk (l + 1) t0) (fun j => q j ++ [l + 1]) sd (fun _ => false) lf M' → Lst 20 (tq (un tk (l + 1) t0) lg) M' → (∀ r : Ro, r.1 ≠ 0 → r.1 ≠ 7 → ¬ dS r → M' r = M r) → post (nI (l + 1)) M') : wp_S_snapshot post (some (0, 0)) M := by
  unfold wp_S_snapshot
  refine k_gI hS.1 rfl ⟨fun z => ?_, fun z => h0 (fun y => z (by rw [y]; rfl))⟩
  have hu0 : u = 0 := (nI_eq (b := 0) (by omega) (by decide)).mp z
  refine k_gI hS.1 rfl ?_
  rw [nI_1]
  refine k_pF (fs' := [vI (nI P), vR (some (30, 0)), vR (dr.map fun p => (2, p)), vR (some (31, 0)), vR (some (32, 0)), vR (some (8, 20)), vR (some (3, 0)), vR (some (6, 2)), vI (nI c), vR (some (6, 3)), vI (nI u), vI (nI (l + 1)), vI (nI d)]) hS.1 (Nat.le_of_ble_eq_true rfl) rfl (k_gI up_s rfl (k_pF (fs' := [vI (nI P), vR (some (30, 0)), vR (dr.map fun p => (2, p)), vR (some (31, 0)), vR (some (32, 0)), vR (some (8, 20)), vR (some (3, 0)), vR (some (6, 2)), vI (nI c), vR (some (6, 3)), vI (nI (l + 1)), vI (nI (l + 1)), vI (nI d)]) up_s (Nat.le_of_ble_eq_true rfl) rfl ?_))
  rw [up_up]
  generalize hM1 : up M (0, 0) _ = M1
  have hS1 : St P (l + 1) d c (l + 1) dr M1 := by rw [← hM1]; exact St_up hS
  have o1 : ∀ r : Ro, r.1 ≠ 0 → M1 r = M r := fun r hr => by rw [← hM1, up_n (fun z => hr (by rw [z]))]
  obtain ⟨t0, ht0⟩ := hT.2
  refine k_gR hS1.1 rfl (g_nS hS1 ⟨P + 1, ?_⟩)
  have key : ∀ m i M2, i + m = P → Si P tk q sd (fun j => if j < i then false else mk j) lf M2 → (∀ r, ¬ dS r → M2 r = M1 r) → wp_S_snapshot_37 post (m + 1) (some (0, 0)) (some (31, 0)) (nI P) (nI i) M2 := by
    intro m
    induction m with
    | zero =>
      intro i M2 hi hSi2 ho
      have hS2 : St P (l + 1) d c (l + 1) dr M2 := St_off hS1 (fun r hr => ho r (fun z => by unfold dO at hr; unfold dS at z; omega))
      have o20 : ∀ r : Ro, r.1 ≠ 0 → ¬ dS r → M2 r = M r := fun r z1 z2 => (ho r z2).trans (o1 r z1)
      have o27 : ∀ t, M2 (7, t) = M (7, t) := fun t => o20 _ (by show (7 : Nat) ≠ 0; decide) (fun z => by unfold dS at z; dsimp only at z; omega)
      unfold wp_S_snapshot_37
      refine ⟨fun _ => k_nO (7, t0) (by show (7 : Nat) < 90; decide) ((o27 t0).trans (ht0 t0 (Nat.le_refl _))) ?_, fun z => absurd (nI_le (by omega) (by omega)) z⟩
      have hS3 : St P (l + 1) d c (l + 1) dr (up M2 (7, t0) (ob 7 fd_7)) := St_off hS2 (fun r hr => up_n (fun z => by rw [z] at hr; unfold dO at hr; dsimp only at hr; omega))
      refine k_gI hS3.1 rfl (k_cV up_s (k_task up_s ?_))
      rw [up_up]
      generalize hM3 : up M2 (7, t0) (ob 7 [vI (nI (l + 1)), vI (-1), vR none, vI 0, vI 0, vI 0]) = M3
      have n3 : M3 (7, t0) = some (ob 7 [vI (nI (l + 1)), vI (-1), vR none, vI 0, vI 0, vI 0]) := by rw [← hM3]; exact up_s
      have o3 : ∀ r : Ro, r ≠ (7, t0) → M3 r = M2 r := fun r hr => by rw [← hM3, up_n hr]
      have hS3 : St P (l + 1) d c (l + 1) dr M3 := St_off hS2 (fun r hr => o3 r (fun z => by rw [z] at hr; unfold dO at hr; dsimp only at hr; omega))
      have hT3 := Tk_mark hT ht0 n3 (fun t ht => (o3 _ (rne2 ht)).trans (o27 t))
      generalize hTk : un tk (l + 1) t0 = tk' at hT3
      have tkn : ∀ n, n ≤ l → tk' n = tk n := fun n hn => by rw [← hTk, un_n (by omega)]
      have tkl : tk' (l + 1) = t0 := by rw [← hTk, un_s]
      have hSi3 : Si P tk' q sd (fun _ => false) lf M3 := Si_tk (fun j hj => by
        have := Si_off hSi2 hP4.2 (M' := M3) (fun r hr => o3 r (fun z => by rw [z] at hr; unfold dS at hr; dsimp only at hr; omega)) j hj
        dsimp only at this
        rw [if_pos (by omega)] at this
        exact this) (fun j hj n hn => tkn n (hq j hj n hn).2)
      have el3 : ∀ n, 1 ≤ n → n ≤ l + 1 → ∃ fs, M3 (7, tk' n) = some (ob 7 fs) := fun n g1 g2 => by
        obtain ⟨fs, hf⟩ := Tk_el hT3 g1 g2
        exact ⟨_, hf⟩
      have hL3 : Lst 20 (tq tk' lg) M3 := by
        rw [tq_ext (fun n hn => tkn n (hlg n hn).2)]
        exact Lg_off hL (fun r hr => (o3 r (fun z => by rw [z] at hr; unfold dG at hr; dsimp only at hr; omega)).trans (o20 r (by unfold dG at hr; omega) (fun z => by unfold dG at hr; unfold dS at z; omega)))
      refine k_cV hS3.1 ?_
      have := s_wait (n := l + 1) (post := fun M76 => gI M76 (some (0, 0)) 0 11 (fun a80 => post a80 M76)) hS3 hSi3 hP4.2 (fun j hj n hn => el3 n (hq j hj n hn).1 (by have := (hq j hj n hn).2; omega)) hql (el3 (l + 1) (by omega) (by omega)) (fun M6 u1 u2 => ?_)
      · rw [tkl] at this
        exact this
      · have hS6 : St P (l + 1) d c (l + 1) dr M6 := St_off hS3 (fun r hr => u2 r (fun z => by unfold dO at hr; unfold dS at z; omega))
        refine k_gI hS6.1 rfl (h1 hu0 t0 M6 hS6 ?_ ?_ ?_ (fun r z1 z2 z3 => ?_))
        · rw [hTk]
          exact Tk_off hT3 (fun r hr => u2 r (fun z => by unfold dS at z; omega))
        · rw [hTk]
          exact u1
        · rw [hTk]
          exact Lg_off hL3 (fun r hr => u2 r (fun z => by unfold dG at hr; unfold dS at z; omega))
        · rw [u2 r z3, o3 r (fun z => z2 (by rw [z])), o20 r z1 z3]
    | succ m ih =>
      intro i M2 hi hSi2 ho
      have hS2 : St P (l + 1) d c (l + 1) dr M2 := St_off hS1 (fun r hr => ho r (fun z => by unfold dO at hr; unfold dS at z; omega))
      unfold wp_S_snapshot_37
      refine ⟨fun z => absurd ((nI_leI (by omega) (by omega)).mp z) (by omega), fun _ => g_S hS2 hP4.2 (by omega) ?_⟩
      have a := (hSi2 i (by omega)).1
      refine k_pF (fs' := [vR (some (8, 10 + i)), vI (b2 (sd i)), vI (b2 false), vI (nI (lf i))]) a (Nat.le_of_ble_eq_true rfl) rfl ?_
      rw [nI_1]
      have s := s_set (s := sd i) (m := false) (f := lf i) hSi2 (i := i) (by omega)
      rw [ub_id rfl, un_id rfl] at s
      refine ih (i + 1) _ (by omega) ((show ub (fun j => if j < i then false else mk j) i false = (fun j => if j < i + 1 then false else mk j) from ?_) ▸ s) (fun r hr => (up_n (fun z => hr (by rw [z]; unfold dS; omega))).trans (ho r hr))
      funext j
      by_cases e : j = i
      · subst e
        rw [ub_s, if_pos (by omega)]
      · rw [ub_n e]
        by_cases e2 : j < i
        · rw [if_pos e2, if_pos (by omega)]
        · rw [if_neg e2, if_neg (by omega)]
  exact key P 0 M1 (by omega) (fun j hj => Si_off hSi hP4.2 (fun r hr => o1 r (by unfold dS at hr; omega)) j hj) (fun _ _ => rfl)
end CL6
