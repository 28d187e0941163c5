/-! the class: procedures -/
theorem Lst_len {l : Nat} {xs : List Ro} {M : wM} (h : Lst l xs M) : xs.length ≤ 800 := by
  obtain ⟨v, mc, ea, h8, -, hc⟩ := h
  rcases hc with ⟨-, rfl⟩ | ⟨t, cap, f, -, -, h1, -, h3, -⟩
  · exact Nat.zero_le _
  · omega
def sto (P l d c u : Nat) (dr : Option Nat) : AE := ob 0 [vI (nI P), vR (some (30, 0)), vR (dr.map fun p => (2, p)), vR (some (31, 0)), vR (some (32, 0)), vR (some (8, 20)), vR (some (3, 0)), vR (some (6, 2)), vI (nI c), vR (some (6, 3)), vI (nI u), vI (nI l), vI (nI d)]
section PRO
variable {P l d c u : Nat} {dr : Option Nat} {dep : Nat → Bool} {mul : Fn} {sn : Nat → Nat} {so sx sy sz : Nat → Fn} {M M' : wM}
theorem St_up {l' d' c' u' : Nat} {dr' : Option Nat} (h : St P l d c u dr M) : St P l' d' c' u' dr' (up M (0, 0) (sto P l' d' c' u' dr')) := by
  obtain ⟨a, ⟨f1, b1, c1⟩, ⟨f2, b2, c2⟩, ⟨f3, b3, c3⟩, e⟩ := h
  exact ⟨up_s, ⟨f1, (up_n (rne (by decide))).trans b1, c1⟩, ⟨f2, (up_n (rne (by decide))).trans b2, c2⟩, ⟨f3, (up_n (rne (by decide))).trans b3, c3⟩, (up_n (rne (by decide))).trans e⟩
theorem Pr_mod {p : Nat} {m : Int32} {b : Bool} {n : Nat} {oo xx yy zz : Fn} {xs : List Ro} (h : Pr dep mul sn so sx sy sz M) (h2 : M' (2, p) = some (ob 2 [vR (some (8, p)), vI m, vI (b2 b)])) (hL : Lst p xs M') (hn : xs.length = n) (hel : ∀ x, x ∈ xs → ∃ j fs, x = (5, j) ∧ M' (5, j) = some (ob 5 fs)) (hst : ∀ k, k < n → ∃ j, xs[k]? = some (5, j) ∧ M' (5, j) = some (ob 5 [vI (oo k), vI (xx k), vI (yy k), vI (zz k)])) (hfr : ∃ j0, ∀ j, j0 ≤ j → M' (5, j) = none) (h5 : ∀ j, M (5, j) ≠ none → M' (5, j) = M (5, j)) (ho : ∀ r : Ro, ¬ (r.1 = 2 ∧ r.2 = p) → ¬ (r.1 = 8 ∧ r.2 = p) → r.1 ≠ 50 + p → r.1 ≠ 5 → M' r = M r) :
    Pr (ub dep p b) (upd mul p m) (un sn p n) (fun i => if i = p then oo else so i) (fun i => if i = p then xx else sx i) (fun i => if i = p then yy else sy i) (fun i => if i = p then zz else sz i) M' := by
  refine ⟨fun i hi => ?_, hfr⟩
  by_cases e : i = p
  · subst e
    rw [ub_s, upd_s, un_s]
    simp only [reduceIte]
    exact ⟨h2, xs, hL, hn, hel, hst⟩
  · rw [ub_n e, upd_n e, un_n e]
    simp only [e, reduceIte]
    obtain ⟨a, ys, b1, b2', b3, b4⟩ := h.1 i hi
    refine ⟨(ho _ (fun z => e z.2) (fun z => absurd z.1 (by show ¬ (2 : Nat) = 8; decide)) (by show (2 : Nat) ≠ 50 + p; omega) (by show (2 : Nat) ≠ 5; decide)).trans a, ys, Lst_off b1 (ho _ (fun z => absurd z.1 (by show ¬ (8 : Nat) = 2; decide)) (fun z => e z.2) (by show (8 : Nat) ≠ 50 + p; omega) (by show (8 : Nat) ≠ 5; decide)) (fun w => ho _ (fun z => absurd z.1 (by show ¬ 50 + i = 2; omega)) (fun z => absurd z.1 (by show ¬ 50 + i = 8; omega)) (by show 50 + i ≠ 50 + p; omega) (by show 50 + i ≠ 5; omega)), b2', fun x hx => ?_, fun k hk => ?_⟩
    · obtain ⟨j, fs, e1, e2⟩ := b3 x hx
      exact ⟨j, fs, e1, by rw [h5 j (by rw [e2]; exact fun z => nomatch z)]; exact e2⟩
    · obtain ⟨j, e1, e2⟩ := b4 k hk
      exact ⟨j, e1, by rw [h5 j (by rw [e2]; exact fun z => nomatch z)]; exact e2⟩
theorem fu_id {f : Nat → Fn} {p : Nat} : (fun i => if i = p then f p else f i) = f := by
  funext i
  by_cases e : i = p
  · simp [e]
  · simp [e]
theorem c_open {post : Int32 → wM → Prop} {x m : Int32} (hm : m = 0 ∨ m = 1) (hS : St P l d c u dr M) (hP : Pr dep mul sn so sx sy sz M) (h0 : (∀ p, p < 6 → x = nI p → dep p = true) → post (-1) M) (h1 : ∀ p, p < 6 → x = nI p → dep p = false → ∀ M', St P l d c u (some p) M' → Pr dep (upd mul p m) (un sn p 0) so sx sy sz M' → (∀ r : Ro, r.1 ≠ 0 → ¬ dP r → M' r = M r) → post 0 M') : wp_S_open post (some (0, 0)) x m M := by
  unfold wp_S_open wp_S_open_21
  refine q_wN (n := 6) (by decide) (fun g => ⟨fun _ => h0 (fun p hp e => absurd e (g p hp)), fun z => absurd rfl z⟩) (fun p hp e => ⟨fun z => absurd z (by decide), fun _ => ?_⟩)
  subst e
  obtain ⟨a, xs, b1, b2', b3, b4⟩ := hP.1 p hp
  refine k_gR hS.1 rfl (g_P hS hp (k_gI a rfl ⟨fun z => ?_, fun z => h0 (fun p' hp' e => ?_)⟩))
  · refine k_gR hS.1 rfl (g_P hS hp (k_pF (fs' := [vI (nI P), vR (some (30, 0)), vR (some (2, p)), vR (some (31, 0)), vR (some (32, 0)), vR (some (8, 20)), vR (some (3, 0)), vR (some (6, 2)), vI (nI c), vR (some (6, 3)), vI (nI u), vI (nI l), vI (nI d)]) hS.1 (Nat.le_of_ble_eq_true rfl) rfl (k_gR up_s rfl ?_)))
    have hS1 : St P l d c u (some p) (up M (0, 0) (sto P l d c u (some p))) := St_up hS
    change cV (up M (0, 0) (sto P l d c u (some p))) _ _ (wp_P_restart _ _ _ (up M (0, 0) (sto P l d c u (some p))))
    generalize hM1 : up M (0, 0) (sto P l d c u (some p)) = M1 at hS1 ⊢
    have o1 : ∀ r : Ro, r.1 ≠ 0 → M1 r = M r := fun r hr => by rw [← hM1, up_n (fun z => hr (by rw [z]))]
    have a1 : M1 (2, p) = _ := (o1 _ (by show (2 : Nat) ≠ 0; decide)).trans a
    have b11 : Lst p xs M1 := Lst_off b1 (o1 _ (by show (8 : Nat) ≠ 0; decide)) (fun w => o1 _ (by show 50 + p ≠ 0; omega))
    obtain ⟨v, mc, ea, h8, -⟩ := id b11
    unfold wp_P_restart
    refine k_cV a1 (k_gR a1 rfl (k_cV h8 (a_clear (by omega) (Lst_len b11) b11 (fun M2 g1 g2 => ?_))))
    have a2 : M2 (2, p) = _ := (g2 _ (rne (by decide)) (by show (2 : Nat) ≠ 50 + p; omega)).trans a1
    refine k_pZ (fs' := [vR (some (8, p)), vI m, vI (b2 (dep p))]) hm a2 (Nat.le_of_ble_eq_true rfl) rfl ?_
    generalize hM3 : up M2 (2, p) (ob 2 [vR (some (8, p)), vI m, vI (b2 (dep p))]) = M3
    have o3 : ∀ r : Ro, ¬ (r.1 = 2 ∧ r.2 = p) → ¬ (r.1 = 8 ∧ r.2 = p) → r.1 ≠ 50 + p → M3 r = M1 r := fun r z1 z2 z3 => by
      rw [← hM3, up_n (fun z => z1 (by rw [z]; exact ⟨rfl, rfl⟩))]
      exact g2 r (fun z => z2 (by rw [z]; exact ⟨rfl, rfl⟩)) z3
    obtain ⟨j0, hj0⟩ := hP.2
    have o5 : ∀ j, M3 (5, j) = M (5, j) := fun j => (o3 _ (fun z => absurd z.1 (by show ¬ (5 : Nat) = 2; decide)) (fun z => absurd z.1 (by show ¬ (5 : Nat) = 8; decide)) (by show (5 : Nat) ≠ 50 + p; omega)).trans (o1 _ (by show (5 : Nat) ≠ 0; decide))
    have := Pr_mod (p := p) (M' := M3) (m := m) (b := dep p) (n := 0) (oo := so p) (xx := sx p) (yy := sy p) (zz := sz p) (xs := []) (Pr_off hP (fun r hr => o1 r (by unfold dP at hr; omega))) (by rw [← hM3]; exact up_s) (by rw [← hM3]; exact Lst_off g1 (up_n (rne (by decide))) (fun w => up_n (rne (by omega)))) rfl (fun x hx => absurd hx (List.not_mem_nil)) (fun k hk => by omega) ⟨j0, fun j hj => by rw [o5]; exact hj0 j hj⟩ (fun j _ => (o5 j).trans (o1 _ (by show (5 : Nat) ≠ 0; decide)).symm) (fun r z1 z2 z3 z4 => o3 r z1 z2 z3)
    rw [ub_id rfl, fu_id, fu_id, fu_id, fu_id] at this
    refine h1 p hp rfl (b2_0.mp z) M3 (St_off hS1 (fun r hr => o3 r (fun z => by unfold dO at hr; omega) (fun z => by unfold dO at hr; omega) (by unfold dO at hr; omega))) this (fun r z1 z2 => (o3 r (fun z => z2 (by unfold dP; omega)) (fun z => z2 (by unfold dP; omega)) (fun z => z2 (by unfold dP; omega))).trans (o1 r z1))
  · rw [← (nI_eq (by omega) (by omega)).mp e]
    cases h : dep p with
    | false => exact absurd (b2_0.mpr h) z
    | true => rfl
theorem q_w6 {post : Int32 → wM → Prop} {x : Int32} (h1 : vp_in x 6 → post 1 M) (h0 : ¬ vp_in x 6 → post 0 M) : wp_S_isWithin post x 6 M := by
  refine q_within (fun g => h0 (fun z => vin6.mp z (g.imp id Int32.not_lt.mpr))) (fun g => h1 (vin6.mpr (fun z => g (z.imp id Int32.not_lt.mp))))
set_option maxHeartbeats 1000000 in
theorem q_isSt {post : Int32 → wM → Prop} {op x y z : Int32} (h1 : okS op x y z → post 1 M) (h0 : ¬ okS op x y z → post 0 M) : wp_S_isStatement post op x y z M := by
  have two : (okS op x y z ↔ vp_in x 6 ∧ vp_in y 6) → wp_S_isWithin (fun a96 M96 => (a96 = 0 → wp_S_isStatement_115 post op x y z M96) ∧ (¬ a96 = 0 → wp_S_isWithin (fun a105 M105 => (a105 = 0 → wp_S_isStatement_115 post op x y z M105) ∧ (¬ a105 = 0 → wp_S_isStatement_116 post op x y z 1 M105)) y 6 M96)) x 6 M := fun e => by
    unfold wp_S_isStatement_115 wp_S_isStatement_116
    exact q_w6 (fun g => ⟨fun z => absurd z (by decide), fun _ => q_w6 (fun f => ⟨fun z => absurd z (by decide), fun _ => ⟨Or.inr rfl, h1 (e.mpr ⟨g, f⟩)⟩⟩) (fun f => ⟨fun _ => ⟨Or.inl rfl, h0 (fun w => f (e.mp w).2)⟩, fun z => absurd rfl z⟩)⟩) (fun g => ⟨fun _ => ⟨Or.inl rfl, h0 (fun w => g (e.mp w).1)⟩, fun z => absurd rfl z⟩)
  have one : (okS op x y z ↔ vp_in x 6) → wp_S_isWithin (fun a63 M63 => (a63 = 0 ∨ a63 = 1) ∧ post a63 M63) x 6 M := fun e => q_w6 (fun g => ⟨Or.inr rfl, h1 (e.mpr g)⟩) (fun g => ⟨Or.inl rfl, h0 (fun w => g (e.mp w))⟩)
  have okA : ∀ {o : Int32}, (0 ≤ o ∧ o ≤ 10) → ¬ o = 3 → ¬ o = 5 → ¬ o = 7 → ¬ o = 10 → ¬ o = 4 → (okS o x y z ↔ vp_in x 6 ∧ vp_in y 6) := fun h a b c d e => ⟨fun w => ⟨w.2.1, w.2.2.1 a b c d⟩, fun w => ⟨h, w.1, fun _ _ _ _ => w.2, fun z => absurd z e, fun z => absurd z c⟩⟩
  have okB : ∀ {o : Int32}, (0 ≤ o ∧ o ≤ 10) → (o = 3 ∨ o = 5 ∨ o = 10) → ¬ o = 7 → ¬ o = 4 → (okS o x y z ↔ vp_in x 6) := fun h a c e => ⟨fun w => w.2.1, fun w => ⟨h, w, fun b1 b2 b3 b4 => by rcases a with a | a | a <;> contradiction, fun z => absurd z e, fun z => absurd z c⟩⟩
  unfold wp_S_isStatement
  refine ⟨fun e => two ?_, fun n0 => ⟨fun e => two ?_, fun n1 => ⟨fun e => two ?_, fun n2 => ⟨fun e => one ?_, fun n3 => ⟨fun e => ?_, fun n4 => ⟨fun e => one ?_, fun n5 => ⟨fun e => two ?_, fun n6 => ⟨fun e => ?_, fun n7 => ⟨fun e => two ?_, fun n8 => ⟨fun e => two ?_, fun n9 => ⟨fun e => one ?_, fun n10 => h0 ?_⟩⟩⟩⟩⟩⟩⟩⟩⟩⟩⟩
  · subst e; exact okA (by decide) (by decide) (by decide) (by decide) (by decide) (by decide)
  · subst e; exact okA (by decide) (by decide) (by decide) (by decide) (by decide) (by decide)
  · subst e; exact okA (by decide) (by decide) (by decide) (by decide) (by decide) (by decide)
  · subst e; exact okB (by decide) (by decide) (by decide) (by decide)
  · subst e
    unfold wp_S_isStatement_148 wp_S_isStatement_149
    refine q_w6 (fun g => ⟨fun z => absurd z (by decide), fun _ => q_w6 (fun f => ⟨fun z => absurd z (by decide), fun _ => q_w6 (fun j => ⟨fun z => absurd z (by decide), fun _ => ⟨Or.inr rfl, h1 ⟨by decide, g, fun _ _ _ _ => f, fun _ => j, fun z => absurd z (by decide)⟩⟩⟩) (fun j => ⟨fun _ => ⟨Or.inl rfl, h0 (fun w => j (w.2.2.2.1 rfl))⟩, fun z => absurd rfl z⟩)⟩) (fun f => ⟨fun _ => ⟨Or.inl rfl, h0 (fun w => f (w.2.2.1 (by decide) (by decide) (by decide) (by decide)))⟩, fun z => absurd rfl z⟩)⟩) (fun g => ⟨fun _ => ⟨Or.inl rfl, h0 (fun w => g w.2.1)⟩, fun z => absurd rfl z⟩)
  · subst e; exact okB (by decide) (by decide) (by decide) (by decide)
  · subst e; exact okA (by decide) (by decide) (by decide) (by decide) (by decide) (by decide)
  · subst e
    unfold wp_S_isStatement_91 wp_S_isStatement_92
    refine q_w6 (fun g => ⟨fun z => absurd z (by decide), fun _ => ⟨fun f => ⟨Or.inl rfl, h0 (fun w => absurd (Int32.lt_of_lt_of_le f (w.2.2.2.2 rfl).1) Int32.lt_irrefl)⟩, fun f => ⟨fun j => ⟨Or.inl rfl, h0 (fun w => absurd (Int32.lt_of_lt_of_le j (w.2.2.2.2 rfl).2) Int32.lt_irrefl)⟩, fun j => ⟨Or.inr rfl, h1 ⟨by decide, g, fun _ _ z _ => absurd rfl z, fun z => absurd z (by decide), fun _ => ⟨Int32.not_lt.mp f, Int32.not_lt.mp j⟩⟩⟩⟩⟩⟩) (fun g => ⟨fun _ => ⟨Or.inl rfl, h0 (fun w => g w.2.1)⟩, fun z => absurd rfl z⟩)
  · subst e; exact okA (by decide) (by decide) (by decide) (by decide) (by decide) (by decide)
  · subst e; exact okA (by decide) (by decide) (by decide) (by decide) (by decide) (by decide)
  · subst e; exact okB (by decide) (by decide) (by decide) (by decide)
  · intro w
    rcases okS_cases w with e | e | e | e | e | e | e | e | e | e | e <;> contradiction
def us (f : Nat → Fn) (p k : Nat) (v : Int32) : Nat → Fn := fun i => if i = p then upd (f p) k v else f i
set_option maxHeartbeats 1000000 in
theorem c_add {post : Int32 → wM → Prop} {op x y z : Int32} (hJ : JP dr dep mul sn so sx sy sz) (hS : St P l d c u dr M) (hP : Pr dep mul sn so sx sy sz M) (h0 : (dr = none ∨ ¬ okS op x y z) → post (-1) M) (h8 : ∀ p, dr = some p → okS op x y z → sn p = 8 → post (-2) M) (h1 : ∀ p, dr = some p → okS op x y z → sn p < 8 → ∀ M', Pr dep mul (un sn p (sn p + 1)) (us so p (sn p) op) (us sx p (sn p) x) (us sy p (sn p) y) (us sz p (sn p) z) M' → (∀ r : Ro, ¬ dP r → M' r = M r) → post (nI (sn p)) M') : wp_S_add post (some (0, 0)) op x y z M := by
  unfold wp_S_add wp_S_add_18
  refine k_gR hS.1 rfl ?_
  cases hdr : dr with
  | none => exact ⟨fun _ => h0 (Or.inl hdr), fun w => absurd rfl w⟩
  | some p =>
    obtain ⟨p1, p2, p3, p4, p5⟩ := hJ.2 p hdr
    have hS0 : M (0, 0) = some (sto P l d c u (some p)) := by rw [← hdr]; exact hS.1
    obtain ⟨a, xs, b1, b2', b3, b4⟩ := hP.1 p p1
    obtain ⟨v, mc, ea, h88, -⟩ := id b1
    refine ⟨fun w => (nomatch w), fun _ => q_isSt (fun ok => ⟨fun _ => ?_, fun w => absurd w (by decide)⟩) (fun ok => ⟨fun w => absurd rfl w, fun _ => h0 (Or.inr ok)⟩)⟩
    refine k_gR hS0 rfl (k_gR a rfl (k_cV h88 (a_size b1 ?_)))
    rw [b2']
    refine ⟨fun w => ?_, fun w => h8 p hdr ok (by
      have : ¬ sn p < 8 := fun g => w (nI_lt (b := 8) g (by decide))
      omega)⟩
    have hlt : sn p < 8 := (nI_ltI (b := 8) (by omega) (by decide)).mp w
    obtain ⟨j0, hj0⟩ := hP.2
    refine k_gR hS0 rfl (k_gR a rfl (k_nO (5, j0) (by show (5 : Nat) < 90; decide) (hj0 j0 (Nat.le_refl _)) (k_cV up_s ?_)))
    unfold wp_T_init
    refine ⟨⟨_, rfl⟩, k_pF (fs' := [vI op, vI 0, vI 0, vI 0]) up_s (Nat.le_of_ble_eq_true rfl) rfl (k_pF (fs' := [vI op, vI x, vI 0, vI 0]) up_s (Nat.le_of_ble_eq_true rfl) rfl (k_pF (fs' := [vI op, vI x, vI y, vI 0]) up_s (Nat.le_of_ble_eq_true rfl) rfl (k_pF (fs' := [vI op, vI x, vI y, vI z]) up_s (Nat.le_of_ble_eq_true rfl) rfl ?_)))⟩
    rw [up_up, up_up, up_up, up_up]
    generalize hM1 : up M (5, j0) (ob 5 [vI op, vI x, vI y, vI z]) = M1
    have n1 : M1 (5, j0) = some (ob 5 [vI op, vI x, vI y, vI z]) := by rw [← hM1]; exact up_s
    have o1 : ∀ r : Ro, r ≠ (5, j0) → M1 r = M r := fun r hr => by rw [← hM1, up_n hr]
    have old : ∀ j, M (5, j) ≠ none → M1 (5, j) = M (5, j) := fun j hj => o1 _ (fun e => hj (by rw [e]; exact hj0 j0 (Nat.le_refl _)))
    have b11 : Lst p xs M1 := Lst_off b1 (o1 _ (rne (by decide))) (fun w => o1 _ (rne (by omega)))
    have hel1 : ∀ x, x ∈ xs → ∃ fs, M1 x = some (ob 5 fs) ∧ x ≠ (8, p) ∧ x.1 ≠ 50 + p := fun x hx => by
      obtain ⟨j, fs, e1, e2⟩ := b3 x hx
      subst e1
      exact ⟨fs, by rw [old j (by rw [e2]; exact fun z => nomatch z)]; exact e2, rne (by decide), by show (5 : Nat) ≠ 50 + p; omega⟩
    refine k_cV ((o1 _ (rne (by decide))).trans h88) (a_add (ci := 5) (by omega) ((o1 _ (rne (by decide))).trans hS.2.2.2.2) b11 (by omega) asg5 hca5 hel1 n1 (rne (by decide)) (by show (5 : Nat) ≠ 50 + p; omega) (fun M2 g1 g2 => ?_))
    have o52 : ∀ j, M2 (5, j) = M1 (5, j) := fun j => g2 _ (rne (by decide)) (by show (5 : Nat) ≠ 50 + p; omega)
    have hlast : (xs ++ [((5, j0) : Ro)])[sn p]? = some (5, j0) := by rw [List.getElem?_append_right (by omega), b2', Nat.sub_self]; rfl
    have := Pr_mod (p := p) (M' := M2) (m := mul p) (b := dep p) (n := sn p + 1) (oo := upd (so p) (sn p) op) (xx := upd (sx p) (sn p) x) (yy := upd (sy p) (sn p) y) (zz := upd (sz p) (sn p) z) (xs := xs ++ [(5, j0)]) hP ((g2 _ (rne (by decide)) (by show (2 : Nat) ≠ 50 + p; omega)).trans ((o1 _ (rne (by decide))).trans a)) g1 (by rw [List.length_append, b2']; rfl) (fun x hx => ?_) (fun k hk => ?_) ⟨j0 + 1, fun j hj => ?_⟩ (fun j hj => (o52 j).trans (old j hj)) (fun r z1 z2 z3 z4 => ?_)
    · rw [ub_id rfl, upd_id rfl] at this
      exact h1 p hdr ok hlt M2 this (fun r hr => (g2 r (fun z => hr (by rw [z]; unfold dP; omega)) (fun z => hr (by unfold dP; omega))).trans (o1 r (fun z => hr (by rw [z]; unfold dP; omega))))
    · rcases List.mem_append.mp hx with g | g
      · obtain ⟨j, fs, e1, e2⟩ := b3 x g
        exact ⟨j, fs, e1, by rw [o52, old j (by rw [e2]; exact fun z => nomatch z)]; exact e2⟩
      · rw [List.mem_singleton.mp g]
        exact ⟨j0, _, rfl, by rw [o52]; exact n1⟩
    · by_cases e : k = sn p
      · subst e
        refine ⟨j0, hlast, ?_⟩
        rw [upd_s, upd_s, upd_s, upd_s, o52]
        exact n1
      · obtain ⟨j, e1, e2⟩ := b4 k (by omega)
        refine ⟨j, by rw [List.getElem?_append_left (by omega)]; exact e1, ?_⟩
        rw [upd_n e, upd_n e, upd_n e, upd_n e, o52, old j (by rw [e2]; exact fun z => nomatch z)]
        exact e2
    · rw [o52, o1 _ (rne2 (by omega))]
      exact hj0 j (by omega)
    · rw [g2 r (fun z => z2 (by rw [z]; exact ⟨rfl, rfl⟩)) z3, o1 r (fun z => z4 (by rw [z]))]
set_option maxHeartbeats 1000000 in
theorem c_deploy {post : Int32 → wM → Prop} (hJ : JP dr dep mul sn so sx sy sz) (hS : St P l d c u dr M) (hP : Pr dep mul sn so sx sy sz M) (h0 : dr = none → post (-1) M) (h3 : ∀ p, dr = some p → ¬ snd mul sn so sy p → ∀ M', St P l d c u none M' → (∀ r : Ro, r.1 ≠ 0 → M' r = M r) → post (-3) M') (h1 : ∀ p, dr = some p → snd mul sn so sy p → ∀ M', St P l d c u none M' → Pr (ub dep p true) mul sn so sx sy sz M' → (∀ r : Ro, r.1 ≠ 0 → ¬ dP r → M' r = M r) → post 0 M') : wp_S_deploy post (some (0, 0)) M := by
  unfold wp_S_deploy
  refine k_gR hS.1 rfl ?_
  cases hdr : dr with
  | none => exact ⟨fun w => absurd rfl w, fun _ => h0 hdr⟩
  | some p =>
    obtain ⟨p1, p2, p3, p4, p5⟩ := hJ.2 p hdr
    have hS0 : M (0, 0) = some (sto P l d c u (some p)) := by rw [← hdr]; exact hS.1
    refine ⟨fun _ => k_gR hS0 rfl (k_pF (fs' := [vI (nI P), vR (some (30, 0)), vR none, vR (some (31, 0)), vR (some (32, 0)), vR (some (8, 20)), vR (some (3, 0)), vR (some (6, 2)), vI (nI c), vR (some (6, 3)), vI (nI u), vI (nI l), vI (nI d)]) hS0 (Nat.le_of_ble_eq_true rfl) rfl ?_), fun w => (nomatch w)⟩
    have hS1 : St P l d c u none (up M (0, 0) (sto P l d c u none)) := St_up hS
    change cV (up M (0, 0) (sto P l d c u none)) _ _ (wp_P_isSound _ _ (up M (0, 0) (sto P l d c u none)))
    generalize hM1 : up M (0, 0) (sto P l d c u none) = M1 at hS1 ⊢
    have o1 : ∀ r : Ro, r.1 ≠ 0 → M1 r = M r := fun r hr => by rw [← hM1, up_n (fun z => hr (by rw [z]))]
    have hP1 : Pr dep mul sn so sx sy sz M1 := Pr_off hP (fun r hr => o1 r (by unfold dP at hr; omega))
    obtain ⟨a, xs, b1, b2', b3, b4⟩ := hP1.1 p p1
    obtain ⟨v, mc, ea, h88, -⟩ := id b1
    have bad : ¬ snd mul sn so sy p → post (-3) M1 := fun g => h3 p hdr g M1 hS1 o1
    have good : snd mul sn so sy p → pF M1 (some (2, p)) 2 2 (vI 1) (fun M31 => post 0 M31) := fun g => by
      refine k_pF (fs' := [vR (some (8, p)), vI (mul p), vI (b2 true)]) a (Nat.le_of_ble_eq_true rfl) rfl ?_
      have := Pr_mod (p := p) (M' := up M1 (2, p) (ob 2 [vR (some (8, p)), vI (mul p), vI (b2 true)])) (m := mul p) (b := true) (n := sn p) (oo := so p) (xx := sx p) (yy := sy p) (zz := sz p) (xs := xs) hP1 up_s (Lst_off b1 (up_n (rne (by decide))) (fun w => up_n (rne (by omega)))) b2' (fun x hx => ?_) (fun k hk => ?_) ⟨hP1.2.choose, fun j hj => ?_⟩ (fun j _ => up_n (rne (by decide))) (fun r z1 z2 z3 z4 => up_n (fun z => z1 (by rw [z]; exact ⟨rfl, rfl⟩)))
      · rw [upd_id rfl, un_id rfl, fu_id, fu_id, fu_id, fu_id] at this
        exact h1 p hdr g _ (St_off hS1 (fun r hr => up_n (fun z => by rw [z] at hr; unfold dO at hr; dsimp only at hr; omega))) this (fun r z1 z2 => (up_n (fun z => z2 (by rw [z]; unfold dP; omega))).trans (o1 r z1))
      · obtain ⟨j, fs, e1, e2⟩ := b3 x hx
        exact ⟨j, fs, e1, (up_n (rne (by decide))).trans e2⟩
      · obtain ⟨j, e1, e2⟩ := b4 k hk
        exact ⟨j, e1, (up_n (rne (by decide))).trans e2⟩
      · rw [up_n (rne (by decide))]
        exact hP1.2.choose_spec j hj
    have key : ∀ m i, i + m = sn p → (∀ k, k < i → (so p k = 7 → sy p k ≤ nI (sn p - 1 - k)) ∧ (so p k = 9 → ¬ mul p = 0)) → wp_P_isSound_10 (fun a20 M20 => (¬ a20 = 0 → pF M20 (some (2, p)) 2 2 (vI 1) (fun M31 => post 0 M31)) ∧ (a20 = 0 → post (-3) M20)) (m + 1) (some (2, p)) (nI (sn p)) (nI i) M1 := by
      intro m
      induction m with
      | zero =>
        intro i hi hb
        unfold wp_P_isSound_10 wp_P_isSound_83
        refine ⟨fun _ => ⟨fun z => ⟨Or.inl rfl, fun w => absurd rfl w, fun _ => bad (fun g => ?_)⟩, fun z => ⟨Or.inr rfl, fun _ => good ⟨?_, fun k hk => hb k (by omega)⟩, fun w => absurd w (by decide)⟩⟩, fun z => absurd (nI_le (by omega) (by omega)) z⟩
        · exact nI_nle g.1 (by omega) z
        · rcases Nat.eq_zero_or_pos (sn p) with g | g
          · exact absurd (by rw [g]; decide) z
          · exact g
      | succ m ih =>
        intro i hi hb
        obtain ⟨j, e1, e2⟩ := b4 i (by omega)
        have eN : nI (sn p) - 1 - nI i = nI (sn p - 1 - i) := by
          rw [show nI (sn p) - 1 = nI (sn p - 1) from pk_sub (b := 1) (by omega), pk_sub (by omega)]
        have nx : (so p i = 7 → sy p i ≤ nI (sn p - 1 - i)) → (so p i = 9 → ¬ mul p = 0) → wp_P_isSound_10 (fun a20 M20 => (¬ a20 = 0 → pF M20 (some (2, p)) 2 2 (vI 1) (fun M31 => post 0 M31)) ∧ (a20 = 0 → post (-3) M20)) (m + 1) (some (2, p)) (nI (sn p)) (nI i + 1) M1 := fun g7 g9 => by
          rw [nI_1]
          refine ih (i + 1) (by omega) (fun k hk => ?_)
          by_cases e : k = i
          · subst e; exact ⟨g7, g9⟩
          · exact hb k (by omega)
        have s50 : (so p i = 7 → sy p i ≤ nI (sn p - 1 - i)) → wp_P_isSound_50 (fun a20 M20 => (¬ a20 = 0 → pF M20 (some (2, p)) 2 2 (vI 1) (fun M31 => post 0 M31)) ∧ (a20 = 0 → post (-3) M20)) (fun x0 x1 x2 M => wp_P_isSound_10 (fun a20 M20 => (¬ a20 = 0 → pF M20 (some (2, p)) 2 2 (vI 1) (fun M31 => post 0 M31)) ∧ (a20 = 0 → post (-3) M20)) (m + 1) x0 x1 x2 M) (some (2, p)) (nI (sn p)) (nI i) (some (5, j)) M1 := fun g7 => by
          unfold wp_P_isSound_50 wp_P_isSound_68
          refine k_gI e2 rfl ⟨fun z => nx g7 (fun y => absurd y z), fun z => k_gI a rfl ⟨fun y => nx g7 (fun _ => y), fun y => ⟨fun w => absurd rfl w, fun _ => bad (fun g => (g.2 i (by omega)).2 z y)⟩⟩⟩
        unfold wp_P_isSound_10
        refine ⟨fun z => absurd ((nI_leI (by omega) (by omega)).mp z) (by omega), fun _ => k_gR a rfl (k_cV h88 (a_get (i := i) b1 rfl (by omega) ?_))⟩
        rw [e1, eN]
        refine ⟨fun r e => ?_, k_gI e2 rfl ⟨fun z => s50 (fun y => absurd y z), fun z => k_gI e2 rfl ⟨fun y => s50 (fun _ => y), fun y => ⟨fun w => absurd rfl w, fun _ => bad (fun g => y ((g.2 i (by omega)).1 z))⟩⟩⟩⟩
        cases e
        exact ⟨_, e2⟩
    refine k_cV a ?_
    unfold wp_P_isSound
    refine k_gR a rfl (k_cV h88 (a_size b1 ⟨sn p + 1, ?_⟩))
    rw [b2']
    exact key (sn p) 0 (by omega) (fun k hk => by omega)
end PRO
