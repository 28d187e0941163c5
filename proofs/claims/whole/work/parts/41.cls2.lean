/-! the class: sites -/
theorem hca7 : ∃ q : vw_C, classes[7]? = some q ∧ Cond.castable q.1 "java/lang/Object" ∈ nestW := ⟨_, rfl, by decide +kernel⟩
theorem hca5 : ∃ q : vw_C, classes[5]? = some q ∧ Cond.castable q.1 "java/lang/Object" ∈ nestW := ⟨_, rfl, by decide +kernel⟩
theorem asg7 : asg 3 7 := ⟨_, "java/lang/Object", rfl, rfl, Or.inr (by decide +kernel)⟩
theorem asg5 : asg 3 5 := ⟨_, "java/lang/Object", rfl, rfl, Or.inr (by decide +kernel)⟩
def uq (f : Nat → List Nat) (k : Nat) (v : List Nat) : Nat → List Nat := fun j => if j = k then v else f j
theorem ub_id {f : Nat → Bool} {k : Nat} {v : Bool} (h : f k = v) : ub f k v = f := by
  funext j
  unfold ub
  split
  · next e => rw [e, h]
  · rfl
theorem un_id {f : Nat → Nat} {k v : Nat} (h : f k = v) : un f k v = f := by
  funext j
  unfold un
  split
  · next e => rw [e, h]
  · rfl
theorem uq_id {f : Nat → List Nat} {k : Nat} {v : List Nat} (h : f k = v) : uq f k v = f := by
  funext j
  unfold uq
  split
  · next e => rw [e, h]
  · rfl
section SIT
variable {P l d c u : Nat} {dr : Option Nat} {tk : Nat → Nat} {q : Nat → List Nat} {sd mk : Nat → Bool} {lf : Nat → Nat} {M M' : wM}
def offS (i : Nat) (M M' : wM) : Prop := ∀ r : Ro, ¬ (r.1 = 4 ∧ r.2 = i) → ¬ (r.1 = 8 ∧ r.2 = 10 + i) → r.1 ≠ 60 + i → M' r = M r
theorem offS_L {i : Nat} (h : offL (10 + i) M M') : offS i M M' := fun r _ h2 h3 => h r (fun z => h2 (by rw [z]; exact ⟨rfl, rfl⟩)) (by omega)
theorem offS_u {i : Nat} {e : AE} (h : offS i M M') : offS i M (up M' (4, i) e) := fun r h1 h2 h3 => by
  rw [up_n (fun z => h1 (by rw [z]; exact ⟨rfl, rfl⟩))]
  exact h r h1 h2 h3
theorem offS_tr {i : Nat} {M1 : wM} (h : offS i M M1) (g : offS i M1 M') : offS i M M' := fun r h1 h2 h3 => (g r h1 h2 h3).trans (h r h1 h2 h3)
theorem offS_rf {i : Nat} : offS i M M := fun _ _ _ _ => rfl
theorem offS_d {i : Nat} (hi : i < 4) (h : offS i M M') : ∀ r, ¬ dS r → M' r = M r := fun r hr => h r (fun z => hr (by unfold dS; omega)) (fun z => hr (by unfold dS; omega)) (fun z => hr (by unfold dS; omega))
theorem Si_mod {i : Nat} {s m : Bool} {f : Nat} {q' : List Nat} (h : Si P tk q sd mk lf M) (h4 : M' (4, i) = some (ob 4 [vR (some (8, 10 + i)), vI (b2 s), vI (b2 m), vI (nI f)])) (hL : Lst (10 + i) (tq tk q') M') (ho : offS i M M') : Si P tk (uq q i q') (ub sd i s) (ub mk i m) (un lf i f) M' := fun j hj => by
  by_cases e : j = i
  · subst e
    unfold uq
    rw [if_pos rfl, ub_s, ub_s, un_s]
    exact ⟨h4, hL⟩
  · unfold uq
    rw [if_neg e, ub_n e, ub_n e, un_n e]
    obtain ⟨a, b⟩ := h j hj
    refine ⟨(ho _ (fun z => e z.2) (fun z => absurd z.1 (by show ¬ (4 : Nat) = 8; decide)) (by show (4 : Nat) ≠ 60 + i; omega)).trans a, Lst_off b (ho _ (fun z => absurd z.1 (by show ¬ (8 : Nat) = 4; decide)) (fun z => e (by have := z.2; dsimp only at this; omega)) (by show (8 : Nat) ≠ 60 + i; omega)) (fun w => ho _ (fun z => absurd z.1 (by show ¬ 50 + (10 + j) = 4; omega)) (fun z => absurd z.1 (by show ¬ 50 + (10 + j) = 8; omega)) (by show 50 + (10 + j) ≠ 60 + i; omega))⟩
theorem tq_el {i : Nat} {qs : List Nat} (hel : ∀ n, n ∈ qs → ∃ fs, M (7, tk n) = some (ob 7 fs)) : ∀ x, x ∈ tq tk qs → ∃ fs, M x = some (ob 7 fs) ∧ x ≠ (8, 10 + i) ∧ x.1 ≠ 50 + (10 + i) := fun x hx => by
  obtain ⟨n, hn, rfl⟩ := List.mem_map.mp hx
  obtain ⟨fs, h⟩ := hel n hn
  exact ⟨fs, h, rne (by decide), by show (7 : Nat) ≠ 50 + (10 + i); omega⟩
theorem s_first {post : Option Ro → wM → Prop} {i : Nat} (hSi : Si P tk q sd mk lf M) (hi : i < P) (hel : ∀ n, n ∈ q i → ∃ fs, M (7, tk n) = some (ob 7 fs)) (hlen : (q i).length ≤ 512) (h0 : q i = [] → post none M) (h1 : ∀ n t, q i = n :: t → post (some (7, tk n)) M) : wp_Q_first post (some (4, i)) M := by
  obtain ⟨a, b⟩ := hSi i hi
  obtain ⟨v, mc, ea, h8, -⟩ := id b
  unfold wp_Q_first wp_Q_first_25
  refine k_gR a rfl (k_cV h8 (a_isEmpty b (by rw [List.length_map]; omega) ⟨fun z => ?_, fun z => ?_⟩))
  · cases hq : q i with
    | nil => rw [hq, if_pos (show tq tk [] = [] from rfl)] at z; exact absurd z (by decide)
    | cons n t =>
      refine k_gR a rfl (k_cV h8 (a_get (i := 0) b rfl (by rw [hq]; exact Nat.succ_pos _) ?_))
      rw [hq]
      refine ⟨fun r e => ?_, h1 n t hq⟩
      cases e
      exact hel n (by rw [hq]; exact List.mem_cons_self)
  · cases hq : q i with
    | nil => exact h0 hq
    | cons n t => rw [hq] at z; exact absurd rfl z
theorem s_pass {post : wM → Prop} {i : Nat} (hSi : Si P tk q sd mk lf M) (hi : i < P) (hP : P ≤ 4) (hel : ∀ n, n ∈ q i → ∃ fs, M (7, tk n) = some (ob 7 fs)) (hlen : (q i).length ≤ 512) (k : ∀ M', Si P tk (uq q i (q i).tail) (ub sd i false) mk lf M' → offS i M M' → post M') : wp_Q_passOn post (some (4, i)) M := by
  obtain ⟨a, b⟩ := hSi i hi
  unfold wp_Q_passOn wp_Q_passOn_24
  refine k_pF (fs' := [vR (some (8, 10 + i)), vI 0, vI (b2 (mk i)), vI (nI (lf i))]) a (Nat.le_of_ble_eq_true rfl) rfl ?_
  generalize hM1 : up M (4, i) (ob 4 [vR (some (8, 10 + i)), vI 0, vI (b2 (mk i)), vI (nI (lf i))]) = M1
  have a1 : M1 (4, i) = some (ob 4 [vR (some (8, 10 + i)), vI 0, vI (b2 (mk i)), vI (nI (lf i))]) := by rw [← hM1]; exact up_s
  have b1 : Lst (10 + i) (tq tk (q i)) M1 := by rw [← hM1]; exact Lst_off b (up_n (rne (by decide))) (fun w => up_n (rne (by omega)))
  have o1 : offS i M M1 := by rw [← hM1]; exact offS_u offS_rf
  have hel1 : ∀ n, n ∈ q i → ∃ fs, M1 (7, tk n) = some (ob 7 fs) := fun n hn => by rw [← hM1, up_n (rne (by decide))]; exact hel n hn
  obtain ⟨v, mc, ea, h8, -⟩ := id b1
  have fin : ∀ M2, M2 (4, i) = some (ob 4 [vR (some (8, 10 + i)), vI 0, vI (b2 (mk i)), vI (nI (lf i))]) → Lst (10 + i) (tq tk (q i).tail) M2 → offS i M M2 → post M2 := fun M2 g1 g2 g3 => by
    have := Si_mod (s := false) (m := mk i) (f := lf i) hSi g1 g2 g3
    rw [ub_id rfl, un_id rfl] at this
    exact k M2 this g3
  refine k_gR a1 rfl (k_cV h8 (a_isEmpty b1 (by rw [List.length_map]; omega) ⟨fun z => fin M1 a1 ?_ o1, fun z => ?_⟩))
  · cases hq : q i with
    | nil => rw [hq] at b1; exact b1
    | cons n t => rw [hq] at z; exact absurd rfl z
  · cases hq : q i with
    | nil => rw [hq, if_pos (show tq tk [] = [] from rfl)] at z; exact absurd z (by decide)
    | cons n t =>
      refine k_gR a1 rfl (k_cV h8 (a_remove (i := 0) (ci := 7) (by omega) b1 rfl (by rw [hq]; exact Nat.succ_pos _) hca7 (tq_el hel1) (fun M2 g1 g2 => fin M2 ?_ ?_ (offS_tr o1 (offS_L g2)))))
      · rw [g2 _ (rne (by decide)) (by show (4 : Nat) ≠ 50 + (10 + i); omega)]
        exact a1
      · rw [hq] at g1 ⊢
        exact g1
theorem s_restart {post : wM → Prop} {i : Nat} (hSi : Si P tk q sd mk lf M) (hi : i < P) (hP : P ≤ 4) (hlen : (q i).length ≤ 512) (k : ∀ M', Si P tk (uq q i []) (ub sd i false) mk lf M' → offS i M M' → post M') : wp_Q_restart post (some (4, i)) M := by
  obtain ⟨a, b⟩ := hSi i hi
  obtain ⟨v, mc, ea, h8, -⟩ := id b
  unfold wp_Q_restart
  refine k_gR a rfl (k_cV h8 (a_clear (by omega) (by rw [List.length_map]; omega) b (fun M1 g1 g2 => ?_)))
  have a1 : M1 (4, i) = _ := (g2 _ (rne (by decide)) (by show (4 : Nat) ≠ 50 + (10 + i); omega)).trans a
  refine k_pF (fs' := [vR (some (8, 10 + i)), vI 0, vI (b2 (mk i)), vI (nI (lf i))]) a1 (Nat.le_of_ble_eq_true rfl) rfl ?_
  have o : offS i M (up M1 (4, i) (ob 4 [vR (some (8, 10 + i)), vI 0, vI (b2 (mk i)), vI (nI (lf i))])) := offS_u (offS_L g2)
  have := Si_mod (s := false) (m := mk i) (f := lf i) (q' := []) hSi up_s (Lst_off g1 (up_n (rne (by decide))) (fun w => up_n (rne (by omega)))) o
  rw [ub_id rfl, un_id rfl] at this
  exact k _ this o
/-- one more field of a site -/
theorem s_set {i : Nat} {s m : Bool} {f : Nat} (hSi : Si P tk q sd mk lf M) (hi : i < P) : Si P tk q (ub sd i s) (ub mk i m) (un lf i f) (up M (4, i) (ob 4 [vR (some (8, 10 + i)), vI (b2 s), vI (b2 m), vI (nI f)])) := by
  obtain ⟨a, b⟩ := hSi i hi
  have := Si_mod (s := s) (m := m) (f := f) (q' := q i) hSi up_s (Lst_off b (up_n (rne (by decide))) (fun w => up_n (rne (by omega)))) (offS_u offS_rf)
  rw [uq_id rfl] at this
  exact this
theorem s_allStalled {post : Int32 → wM → Prop} (hS : St P l d c u dr M) (hSi : Si P tk q sd mk lf M) (hP : P ≤ 4) (h1 : (∀ i, i < P → sd i = true) → post 1 M) (h0 : ¬ (∀ i, i < P → sd i = true) → post 0 M) : wp_S_areAllStalled post (some (0, 0)) M := by
  have key : ∀ m i, i + m = P → (∀ j, j < i → sd j = true) → wp_S_areAllStalled_10 post (m + 1) (some (0, 0)) (some (31, 0)) (nI P) (nI i) M := by
    intro m
    induction m with
    | zero =>
      intro i hi hb
      unfold wp_S_areAllStalled_10
      exact ⟨fun _ => h1 (fun j hj => hb j (by omega)), fun z => absurd (nI_le (by omega) (by omega)) z⟩
    | succ m ih =>
      intro i hi hb
      unfold wp_S_areAllStalled_10
      refine ⟨fun z => absurd ((nI_leI (by omega) (by omega)).mp z) (by omega), fun _ => g_S hS hP (by omega) (k_gI (hSi i (by omega)).1 rfl ⟨fun z => ?_, fun z => h0 (fun g => ?_)⟩)⟩
      · rw [nI_1]
        refine ih (i + 1) (by omega) (fun j hj => ?_)
        by_cases e : j = i
        · subst e
          cases h : sd j with
          | false => exact absurd (b2_0.mpr h) z
          | true => rfl
        · exact hb j (by omega)
      · rw [g i (by omega)] at z
        exact absurd z (by decide)
  unfold wp_S_areAllStalled
  exact k_gR hS.1 rfl (g_nS hS ⟨P + 1, key P 0 (by omega) (fun j hj => by omega)⟩)
theorem s_passAll {post : wM → Prop} (hS : St P l d c u dr M) (hSi : Si P tk q sd mk lf M) (hP : P ≤ 4) (hel : ∀ i, i < P → ∀ n, n ∈ q i → ∃ fs, M (7, tk n) = some (ob 7 fs)) (hlen : ∀ i, i < P → (q i).length ≤ 512) (k : ∀ M', Si P tk (fun i => (q i).tail) (fun _ => false) mk lf M' → (∀ r, ¬ dS r → M' r = M r) → post M') : wp_S_passOnAtAllSites post (some (0, 0)) M := by
  have key : ∀ m i M1, i + m = P → Si P tk (fun j => if j < i then (q j).tail else q j) (fun j => if j < i then false else sd j) mk lf M1 → (∀ r, ¬ dS r → M1 r = M r) → wp_S_passOnAtAllSites_10 post (m + 1) (some (0, 0)) (some (31, 0)) (nI P) (nI i) M1 := by
    intro m
    induction m with
    | zero =>
      intro i M1 hi hS1 ho
      unfold wp_S_passOnAtAllSites_10
      refine ⟨fun _ => k M1 (fun j hj => ?_) ho, fun z => absurd (nI_le (by omega) (by omega)) z⟩
      have := hS1 j hj
      dsimp only at this
      rw [if_pos (by omega), if_pos (by omega)] at this
      exact this
    | succ m ih =>
      intro i M1 hi hS1 ho
      have hSt : St P l d c u dr M1 := St_off hS (fun r hr => ho r (fun z => by unfold dO at hr; unfold dS at z; omega))
      unfold wp_S_passOnAtAllSites_10
      refine ⟨fun z => absurd ((nI_leI (by omega) (by omega)).mp z) (by omega), fun _ => g_S hSt hP (by omega) (k_cV (hS1 i (by omega)).1 (s_pass hS1 (by omega) hP (fun n hn => ?_) ?_ (fun M2 g1 g2 => ?_)))⟩
      · rw [if_neg (by omega)] at hn
        rw [ho _ (fun z => by unfold dS at z; dsimp only at z; omega)]
        exact hel i (by omega) n hn
      · rw [if_neg (by omega)]
        exact hlen i (by omega)
      · rw [nI_1]
        refine ih (i + 1) M2 (by omega) (fun j hj => ?_) (fun r hr => (offS_d (by omega) g2 r hr).trans (ho r hr))
        have := g1 j hj
        unfold uq ub at this
        dsimp only at this ⊢
        by_cases e : j = i
        · subst e
          rw [if_pos rfl, if_pos rfl, if_neg (by omega)] at this
          rw [if_pos (by omega), if_pos (by omega)]
          exact this
        · rw [if_neg e, if_neg e] at this
          by_cases e2 : j < i
          · rw [if_pos e2, if_pos e2] at this
            rw [if_pos (by omega), if_pos (by omega)]
            exact this
          · rw [if_neg e2, if_neg e2] at this
            rw [if_neg (by omega), if_neg (by omega)]
            exact this
  unfold wp_S_passOnAtAllSites
  refine k_gR hS.1 rfl (g_nS hS ⟨P + 1, key P 0 M (by omega) (fun j hj => ?_) (fun _ _ => rfl)⟩)
  exact hSi j hj
theorem s_stalled {post : Int32 → wM → Prop} (hS : St P l d c u dr M) (hSi : Si P tk q sd mk lf M) (hP : P ≤ 4) (htn : ∀ i, i < P → ∀ n, n ∈ q i → ∃ fs, M (7, tk n) = some (ob 7 (vI (nI n) :: fs))) (hlen : ∀ i, i < P → (q i).length ≤ 512) (h0 : (∀ i, i < P → sd i = true → q i = []) → post 0 M) (h1 : ∀ i n t, i < P → sd i = true → q i = n :: t → post (nI n) M) : wp_S_stalledNumber post (some (0, 0)) M := by
  have key : ∀ m i, i + m = P → (∀ j, j < i → sd j = true → q j = []) → wp_S_stalledNumber_10 post (m + 1) (some (0, 0)) (some (31, 0)) (nI P) (nI i) M := by
    intro m
    induction m with
    | zero =>
      intro i hi hb
      unfold wp_S_stalledNumber_10
      exact ⟨fun _ => h0 (fun j hj => hb j (by omega)), fun z => absurd (nI_le (by omega) (by omega)) z⟩
    | succ m ih =>
      intro i hi hb
      have nx : (sd i = true → q i = []) → wp_S_stalledNumber_10 post (m + 1) (some (0, 0)) (some (31, 0)) (nI P) (nI i + 1) M := fun g => by
        rw [nI_1]
        refine ih (i + 1) (by omega) (fun j hj => ?_)
        by_cases e : j = i
        · subst e; exact g
        · exact hb j (by omega)
      have a := (hSi i (by omega)).1
      unfold wp_S_stalledNumber_10 wp_S_stalledNumber_46
      refine ⟨fun z => absurd ((nI_leI (by omega) (by omega)).mp z) (by omega), fun _ => g_S hS hP (by omega) (k_cV a (s_first hSi (by omega) (fun n hn => ?_) (hlen i (by omega)) (fun hq => k_gI a rfl ⟨fun _ => nx (fun _ => hq), fun _ => ⟨fun _ => nx (fun _ => hq), fun z => absurd rfl z⟩⟩) (fun n t hq => k_gI a rfl ⟨fun z => nx (fun g => ?_), fun z => ⟨fun y => (nomatch y), fun _ => ?_⟩⟩)))⟩
      · obtain ⟨fs, h⟩ := htn i (by omega) n hn
        exact ⟨_, h⟩
      · rw [g] at z
        exact absurd z (by decide)
      · obtain ⟨fs, h⟩ := htn i (by omega) n (by rw [hq]; exact List.mem_cons_self)
        refine k_gI h rfl (h1 i n t (by omega) ?_ hq)
        cases hh : sd i with
        | false => exact absurd (b2_0.mpr hh) z
        | true => rfl
  unfold wp_S_stalledNumber
  exact k_gR hS.1 rfl (g_nS hS ⟨P + 1, key P 0 (by omega) (fun j hj => by omega)⟩)
/-- one step of waitAtAllSites -/
theorem s_wait1 {K : Prop} {R : wM → Prop} {i n : Nat} {x : Int32} (hx : x = nI i) (hS : St P l d c u dr M) (hSi : Si P tk (fun j => if j < i then q j ++ [n] else q j) sd mk lf M) (hP : P ≤ 4) (hel : ∀ i, i < P → ∀ m, m ∈ q i → ∃ fs, M (7, tk m) = some (ob 7 fs)) (hlen : ∀ i, i < P → (q i).length ≤ 511) (ht : ∃ fs, M (7, tk n) = some (ob 7 fs)) (hge : P ≤ i → K) (hi4 : i ≤ 4) (hlt : i < P → ∀ M', St P l d c u dr M' → Si P tk (fun j => if j < i + 1 then q j ++ [n] else q j) sd mk lf M' → (∀ i, i < P → ∀ m, m ∈ q i → ∃ fs, M' (7, tk m) = some (ob 7 fs)) → (∃ fs, M' (7, tk n) = some (ob 7 fs)) → (∀ r, ¬ dS r → M' r = M r) → R M') : (nI P ≤ x → K) ∧ (¬ nI P ≤ x → lR M (some (31, 0)) x (fun a20 => gR M a20 4 0 (fun a25 => cV M a25 8 (wp_A_add0 (fun a29 M29 => R M29) a25 (some (7, tk n)) M)))) := by
  subst hx
  refine ⟨fun z => hge ((nI_leI (by omega) (by omega)).mp z), fun z => ?_⟩
  have hi : i < P := by
    rcases Nat.lt_or_ge i P with g | g
    · exact g
    · exact absurd (nI_le g (by omega)) z
  obtain ⟨a, b⟩ := hSi i hi
  obtain ⟨fs, ht⟩ := ht
  obtain ⟨v, mc, ea, h8, -⟩ := id b
  dsimp only at b
  rw [if_neg (by omega)] at b
  refine g_S hS hP hi (k_gR a rfl (k_cV h8 (a_add (ci := 7) (by omega) hS.2.2.2.2 b (by rw [List.length_map]; have := hlen i hi; omega) asg7 hca7 (tq_el (hel i hi)) ht (rne (by decide)) (by show (7 : Nat) ≠ 50 + (10 + i); omega) (fun M' g1 g2 => ?_))))
  have o : offS i M M' := offS_L g2
  have a' : M' (4, i) = _ := (g2 _ (rne (by decide)) (by show (4 : Nat) ≠ 50 + (10 + i); omega)).trans a
  have o7 : ∀ t, M' (7, t) = M (7, t) := fun t => g2 _ (rne (by decide)) (by show (7 : Nat) ≠ 50 + (10 + i); omega)
  have hL : Lst (10 + i) (tq tk (q i ++ [n])) M' := by
    unfold tq
    rw [List.map_append]
    exact g1
  have := Si_mod (s := sd i) (m := mk i) (f := lf i) hSi a' hL o
  rw [ub_id rfl, ub_id rfl, un_id rfl] at this
  refine hlt hi M' (St_off hS (fun r hr => offS_d (by omega) o r (fun z => by unfold dO at hr; unfold dS at z; omega))) (fun j hj => ?_) (fun i hi m hm => by rw [o7]; exact hel i hi m hm) ⟨fs, by rw [o7]; exact ht⟩ (offS_d (by omega) o)
  have h := this j hj
  unfold uq at h
  dsimp only at h ⊢
  by_cases e : j = i
  · subst e
    rw [if_pos rfl] at h
    rw [if_pos (by omega)]
    exact h
  · rw [if_neg e] at h
    by_cases e2 : j < i
    · rw [if_pos e2] at h
      rw [if_pos (by omega)]
      exact h
    · rw [if_neg e2] at h
      rw [if_neg (by omega)]
      exact h
theorem s_wait {post : wM → Prop} {n : Nat} (hS : St P l d c u dr M) (hSi : Si P tk q sd mk lf M) (hP : P ≤ 4) (hel : ∀ i, i < P → ∀ m, m ∈ q i → ∃ fs, M (7, tk m) = some (ob 7 fs)) (hlen : ∀ i, i < P → (q i).length ≤ 511) (ht : ∃ fs, M (7, tk n) = some (ob 7 fs)) (k : ∀ M', Si P tk (fun i => q i ++ [n]) sd mk lf M' → (∀ r, ¬ dS r → M' r = M r) → post M') : wp_S_waitAtAllSites post (some (0, 0)) (some (7, tk n)) M := by
  have fin : ∀ i M', P ≤ i → Si P tk (fun j => if j < i then q j ++ [n] else q j) sd mk lf M' → (∀ r, ¬ dS r → M' r = M r) → post M' := fun i M' hi h o => k M' (fun j hj => by
    have := h j hj
    dsimp only at this
    rw [if_pos (by omega)] at this
    exact this) o
  have hSi0 : Si P tk (fun j => if j < 0 then q j ++ [n] else q j) sd mk lf M := fun j hj => hSi j hj
  unfold wp_S_waitAtAllSites wp_S_waitAtAllSites_39
  refine k_gR hS.1 rfl (g_nS hS ?_)
  refine s_wait1 (i := 0) rfl hS hSi0 hP hel hlen ht (fun g => fin 0 M g hSi0 (fun _ _ => rfl)) (by omega) (fun _ M1 c1 c2 c3 c4 c5 => ?_)
  refine s_wait1 (i := 1) rfl c1 c2 hP c3 hlen c4 (fun g => fin 1 M1 g c2 c5) (by omega) (fun _ M2 d1 d2 d3 d4 d5 => ?_)
  have o2 : ∀ r, ¬ dS r → M2 r = M r := fun r hr => (d5 r hr).trans (c5 r hr)
  refine s_wait1 (i := 2) rfl d1 d2 hP d3 hlen d4 (fun g => fin 2 M2 g d2 o2) (by omega) (fun _ M3 e1 e2 e3 e4 e5 => ?_)
  have o3 : ∀ r, ¬ dS r → M3 r = M r := fun r hr => (e5 r hr).trans (o2 r hr)
  refine s_wait1 (i := 3) rfl e1 e2 hP e3 hlen e4 (fun g => fin 3 M3 g e2 o3) (by omega) (fun _ M4 f1 f2 f3 f4 f5 => ?_)
  have o4 : ∀ r, ¬ dS r → M4 r = M r := fun r hr => (f5 r hr).trans (o3 r hr)
  exact s_wait1 (i := 4) rfl f1 f2 hP f3 hlen f4 (fun g => fin 4 M4 g f2 o4) (by omega) (fun g => absurd g (by omega))
end SIT
