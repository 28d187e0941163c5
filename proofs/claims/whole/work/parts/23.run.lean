/-! copies of tables; a run of the class -/
def rR (r : Ro) : Prop := r.1 = 3 ∨ r.1 = 24 ∨ r.1 = 25 ∨ ((r.1 = 22 ∨ r.1 = 23) ∧ r.2 ≤ 1)
def offR (M M' : wM) : Prop := ∀ r : Ro, ¬ rR r → M' r = M r
theorem offR_rf {M : wM} : offR M M := fun _ _ => rfl
theorem offR_tr {M M1 M2 : wM} (h : offR M M1) (g : offR M1 M2) : offR M M2 := fun r hr => (g r hr).trans (h r hr)
theorem offR_up {M M' : wM} {r : Ro} {e : AE} (h : offR M M') (hr : rR r) : offR M (up M' r e) := fun q hq => by
  rw [up_n (fun z : q = r => hq (by rw [z]; exact hr))]
  exact h q hq
theorem offE_R {M M' : wM} (h : offE M M') : offR M M' := fun r hr => h r (fun z => hr (z.imp id (Or.imp id (Or.imp id (And.imp id (fun y => by omega))))))
theorem Tb_up {t : Nat} {s : DB} {M : wM} {r : Ro} {e : AE} (h : Tb t s M) (h6 : r.1 ≠ 6) (h22 : r.1 ≠ 22) (h23 : r.1 ≠ 23) : Tb t s (up M r e) := Tb_off h (up_n (fun z => h6 (by rw [← z]))) (up_n (fun z => h22 (by rw [← z]))) (up_n (fun z => h23 (by rw [← z])))
theorem Lst_off {l : Nat} {xs : List Ro} {M M' : wM} (h : Lst l xs M) (h8 : M' (8, l) = M (8, l)) (h5 : ∀ w, M' (50 + l, w) = M (50 + l, w)) : Lst l xs M' := by
  obtain ⟨v, mc, ea, a, b, c⟩ := h
  refine ⟨v, mc, ea, h8.trans a, fun w hw => (h5 w).trans (b w hw), c.imp id (fun ⟨t, cap, f, e, hA, r⟩ => ⟨t, cap, f, e, (h5 t).trans hA, r⟩)⟩
def cR (t : Nat) (r : Ro) : Prop := (r.1 = 22 ∨ r.1 = 23) ∧ r.2 = t
theorem b_cells {post : wM → Prop} {t u : Nat} {s s2 : DB} {M : wM} (hu : Tb u s2 M) (ht : Tb t s M)
    (k : ∀ M', Tb t (s.1, fun j => if 32 ≤ j then s2.2 j else s.2 j) M' → (∀ r, r ≠ (23, t) → M' r = M r) → post M') : wp_B_copyCells post (some (6, t)) (some (6, u)) M := by
  obtain ⟨a1, ⟨V1, b1, c1⟩, C1, d1, e1⟩ := hu
  obtain ⟨a2, ⟨V2, b2, c2⟩, C2, d2, e2⟩ := ht
  unfold wp_B_copyCells
  refine k_gR a1 rfl (k_gR a2 rfl ⟨(23, u), (23, t), 8, 8, C1, C2, rfl, rfl, d1, d2, by decide, by decide, by decide, by decide, by decide, by decide, by decide, k _ ?_ (fun r hr => up_n hr)⟩)
  refine ⟨(up_n (rne (by decide))).trans a2, ⟨V2, (up_n (rne (by decide))).trans b2, fun j hj => ?_⟩, _, up_s, fun j hj => ?_⟩
  · rw [c2 j hj]
    have : ¬ 32 ≤ j := by omega
    simp [vv, this]
  · rw [show (0 : Int32).toNatClampNeg = 0 by decide, show (8 : Int32).toNatClampNeg = 8 by decide, pk_cpy_in (by omega) (by omega), Nat.zero_add, Nat.sub_zero, e1 j hj]
    simp
theorem Tb_ext {t : Nat} {s s2 : DB} {M : wM} (h : Tb t s M) (h1 : ∀ k, k < 32 → vv s k = vv s2 k) (h2 : ∀ k, k < 8 → s.2 (32 + k) = s2.2 (32 + k)) : Tb t s2 M := by
  obtain ⟨a, ⟨V, b, c⟩, C, d, e⟩ := h
  exact ⟨a, ⟨V, b, fun k hk => (c k hk).trans (h1 k hk)⟩, C, d, fun k hk => (e k hk).trans (h2 k hk)⟩
theorem b_copy {post : wM → Prop} {t u : Nat} {s s2 : DB} {M : wM} (htu : t ≠ u) (hu : Tb u s2 M) (ht : Tb t s M)
    (k : ∀ M', Tb t s2 M' → (∀ r, ¬ cR t r → M' r = M r) → post M') : wp_B_copyFrom post (some (6, t)) (some (6, u)) M := by
  obtain ⟨a1, ⟨V1, b1, c1⟩, C1, d1, e1⟩ := id hu
  obtain ⟨a2, ⟨V2, b2, c2⟩, C2, d2, e2⟩ := id ht
  unfold wp_B_copyFrom
  refine k_gR a1 rfl (k_gR a2 rfl ⟨(22, u), (22, t), 32, 32, V1, V2, rfl, rfl, b1, b2, by decide, by decide, by decide, by decide, by decide, by decide, by decide, k_cV ((up_n (rne (by decide))).trans a2) ?_⟩)
  have hu2 : Tb u s2 (up M (22, t) (al 1 32 (va_cpy V1 V2 (0 : Int32).toNatClampNeg (0 : Int32).toNatClampNeg (32 : Int32).toNatClampNeg))) := Tb_off hu (up_n (rne (by decide))) (up_n (rne2 (fun z => htu z.symm))) (up_n (rne (by decide)))
  have ht2 : Tb t (s2.1, fun j => if 32 ≤ j then s.2 j else s2.2 j) (up M (22, t) (al 1 32 (va_cpy V1 V2 (0 : Int32).toNatClampNeg (0 : Int32).toNatClampNeg (32 : Int32).toNatClampNeg))) := by
    refine ⟨(up_n (rne (by decide))).trans a2, ⟨_, up_s, fun j hj => ?_⟩, C2, (up_n (rne (by decide))).trans d2, fun j hj => ?_⟩
    · rw [show (0 : Int32).toNatClampNeg = 0 by decide, show (32 : Int32).toNatClampNeg = 32 by decide, pk_cpy_in (by omega) (by omega), Nat.zero_add, Nat.sub_zero, c1 j hj]
      have : ¬ 32 ≤ j := by omega
      simp [vv, this]
    · rw [e2 j hj]
      simp
  refine b_cells hu2 ht2 (fun M' g1 g2 => k M' (Tb_ext g1 (fun j hj => ?_) (fun j hj => ?_)) (fun r hr => ?_))
  · have : ¬ 32 ≤ j := by omega
    simp [vv, this]
  · simp
  · rw [g2 r (fun z => hr (by rw [z]; exact ⟨Or.inr rfl, rfl⟩)), up_n (fun z => hr (by rw [z]; exact ⟨Or.inl rfl, rfl⟩))]
theorem q_fill {post : wM → Prop} {r : Ro} {n : Nat} {f : Fn} {M : wM} {v : Int32} (hn : n < 1000) (h : M r = some (ai 0 n f)) (k : post (up M r (ai 0 n (fun j => if j < n then v else f j)))) : wp_Ar_fill1 post (some r) v M := by
  unfold wp_Ar_fill1
  refine k_aN h (by decide) ⟨n + 1, ?_⟩
  have key : ∀ m i Mx, i + m = n → Mx = up M r (ai 0 n (fun j => if j < i then v else f j)) → wp_Ar_fill1_5 post (m + 1) (some r) v (nI i) (nI n) Mx := by
    intro m
    induction m with
    | zero =>
      intro i Mx hi e
      unfold wp_Ar_fill1_5
      refine ⟨fun _ => ?_, fun c => absurd (nI_le (by omega) (by omega)) c⟩
      rw [e, show i = n by omega]
      exact k
    | succ m ih =>
      intro i Mx hi e
      unfold wp_Ar_fill1_5
      refine ⟨fun c => absurd ((nI_leI (by omega) (by omega)).mp c) (by omega), fun _ => ?_⟩
      refine k_sI (f := fun j => if j < i then v else f j) (by rw [e]; exact up_s) rfl (by omega) (by omega) ?_
      rw [nI_1]
      refine ih (i + 1) _ (by omega) ?_
      rw [e, up_up]
      congr 3
      funext j
      unfold upd
      by_cases c : j = i
      · simp [c]
      · have : (j < i + 1) = (j < i) := propext ⟨fun _ => by omega, fun _ => by omega⟩
        simp [c, this]
  refine key n 0 M (by omega) ?_
  have : (fun j => if j < 0 then v else f j) = f := by
    funext j
    simp
  rw [this]
  exact (up_id h).symm
/-- abort(i): the rows as before -/
theorem q_abort {post : wM → Prop} {P hm o fl x : Int32} {g w : Fn} {s s1 : DB} {M : wM} (hR : Rn P hm g o w fl M) (hT : Tb 0 s M) (hB : Tb 1 s1 M) (k : ∀ M', Rn P hm g 0 w x M' → Tb 0 s1 M' → Tb 1 s1 M' → offR M M' → post M') : wp_R_abort post (some (3, 0)) x M := by
  unfold wp_R_abort
  refine k_gR hR.1 rfl (k_gR hR.1 rfl (k_cV hT.1 (b_copy (by decide) hB hT (fun M' a b => ?_))))
  have nR : ∀ {r : Ro}, r.1 ≠ 22 → r.1 ≠ 23 → M' r = M r := fun h1 h2 => b _ (fun z => z.1.elim h1 h2)
  have hR' : Rn P hm g o w fl M' := Rn_off hR (nR (by decide) (by decide)) (nR (by decide) (by decide)) (nR (by decide) (by decide))
  have hB' : Tb 1 s1 M' := Tb_off hB (nR (by decide) (by decide)) (b _ (fun z => absurd z.2 (by decide))) (b _ (fun z => absurd z.2 (by decide)))
  have ho : offR M M' := fun r hr => b r (fun z => hr (Or.inr (Or.inr (Or.inr ⟨z.1, by rw [z.2]; decide⟩))))
  refine k_pF (fs' := [vR (some (6, 0)), vI P, vR (some (6, 1)), vR (some (24, 0)), vI hm, vR (some (25, 0)), vI 0, vI fl]) hR'.1 (Nat.le_of_ble_eq_true rfl) rfl ?_
  refine k_pF (fs' := [vR (some (6, 0)), vI P, vR (some (6, 1)), vR (some (24, 0)), vI hm, vR (some (25, 0)), vI 0, vI x]) up_s (Nat.le_of_ble_eq_true rfl) rfl ?_
  rw [up_up]
  exact k _ ⟨up_s, (up_n (rne (by decide))).trans hR'.2.1, (up_n (rne (by decide))).trans hR'.2.2⟩ (Tb_off a (up_n (rne (by decide))) (up_n (rne (by decide))) (up_n (rne (by decide)))) (Tb_off hB' (up_n (rne (by decide))) (up_n (rne (by decide))) (up_n (rne (by decide)))) (offR_up ho (Or.inl rfl))
/-- begin(command) -/
theorem q_begin {post : wM → Prop} {m : Nat} {hm o fl mul nu cl a b c dep : Int32} {g w : Fn} {s s1 : DB} {M : wM} {t pr : Nat} {ls : AV} (h1 : 1 ≤ m) (h4 : m ≤ 4) (hR : Rn (nI m) hm g o w fl M) (hz : ∀ j, 6 ≤ j → g j = 0) (hT : Tb 0 s M) (hB : Tb 1 s1 M) (hK : M (7, t) = some (ob 7 [vI nu, vI cl, vR (some (2, pr)), vI a, vI b, vI c])) (hp : M (2, pr) = some (ob 2 [ls, vI mul, vI dep]))
    (k : ∀ M', Rn (nI m) (if mul = 0 then pt a (nI m) else -1) (g0 a b c) 0 w fl M' → Tb 0 s M' → Tb 1 s M' → offR M M' → post M') : wp_R_begin post (some (3, 0)) (some (7, t)) M := by
  unfold wp_R_begin
  refine k_gR hR.1 rfl (k_gR hR.1 rfl (k_cV hB.1 (b_copy (by decide) hT hB (fun M' u v => ?_))))
  have nR : ∀ {r : Ro}, r.1 ≠ 22 → r.1 ≠ 23 → M' r = M r := fun h1 h2 => v _ (fun z => z.1.elim h1 h2)
  have hR' : Rn (nI m) hm g o w fl M' := Rn_off hR (nR (by decide) (by decide)) (nR (by decide) (by decide)) (nR (by decide) (by decide))
  have hT' : Tb 0 s M' := Tb_off hT (nR (by decide) (by decide)) (v _ (fun z => absurd z.2 (by decide))) (v _ (fun z => absurd z.2 (by decide)))
  have ho : offR M M' := fun r hr => v r (fun z => hr (Or.inr (Or.inr (Or.inr ⟨z.1, by rw [z.2]; decide⟩))))
  have hK' : M' (7, t) = _ := (nR (by show (7 : Nat) ≠ 22; decide) (by show (7 : Nat) ≠ 23; decide)).trans hK
  have hp' : M' (2, pr) = _ := (nR (by show (2 : Nat) ≠ 22; decide) (by show (2 : Nat) ≠ 23; decide)).trans hp
  have rest : ∀ h', h' = (if mul = 0 then pt a (nI m) else -1) → wp_R_begin_34 post (some (3, 0)) (some (7, t)) h' (some (3, 0)) M' := by
    intro h' eh
    subst eh
    generalize (if mul = 0 then pt a (nI m) else -1) = h' at k ⊢
    unfold wp_R_begin_34
    refine k_pF (fs' := [vR (some (6, 0)), vI (nI m), vR (some (6, 1)), vR (some (24, 0)), vI h', vR (some (25, 0)), vI o, vI fl]) hR'.1 (Nat.le_of_ble_eq_true rfl) rfl (k_gR up_s rfl (q_fill (n := 6) (f := g) (by decide) ((up_n (rne (by decide))).trans hR'.2.1) ?_))
    generalize hM3 : up (up M' (3, 0) _) (24, 0) _ = M3
    have g3 : M3 (3, 0) = some (ob 3 [vR (some (6, 0)), vI (nI m), vR (some (6, 1)), vR (some (24, 0)), vI h', vR (some (25, 0)), vI o, vI fl]) := by rw [← hM3, up_n (rne (by decide))]; exact up_s
    have g24 : M3 (24, 0) = some (ai 0 6 (fun j => if j < 6 then 0 else g j)) := by rw [← hM3]; exact up_s
    have gK : M3 (7, t) = some (ob 7 [vI nu, vI cl, vR (some (2, pr)), vI a, vI b, vI c]) := by rw [← hM3, up_n (rne (by decide)), up_n (rne (by decide))]; exact hK'
    have gn : ∀ {r : Ro}, r.1 ≠ 3 → r.1 ≠ 24 → M3 r = M' r := fun {r} z1 z2 => by rw [← hM3, up_n (fun z => z2 (by rw [z])), up_n (fun z => z1 (by rw [z]))]
    refine k_gR g3 rfl (k_gI gK rfl (k_sI (i := 0) g24 rfl (by decide) (by decide) (k_gR ((up_n (rne (by decide))).trans g3) rfl (k_gI ((up_n (rne (by decide))).trans gK) rfl (k_sI (i := 1) up_s rfl (by decide) (by decide) ?_)))))
    rw [up_up]
    refine k_gR ((up_n (rne (by decide))).trans g3) rfl (k_gI ((up_n (rne (by decide))).trans gK) rfl (k_sI (i := 2) up_s rfl (by decide) (by decide) ?_))
    rw [up_up]
    refine k_pF (fs' := [vR (some (6, 0)), vI (nI m), vR (some (6, 1)), vR (some (24, 0)), vI h', vR (some (25, 0)), vI 0, vI fl]) ((up_n (rne (by decide))).trans g3) (Nat.le_of_ble_eq_true rfl) rfl ?_
    refine k _ ⟨up_s, ?_, ?_⟩ ?_ ?_ ?_
    · rw [up_n (rne (by decide)), up_s]
      congr 2
      funext j
      unfold upd g0
      by_cases j0 : j = 0
      · simp [j0]
      · by_cases j1 : j = 1
        · simp [j1]
        · by_cases j2 : j = 2
          · simp [j2]
          · by_cases j6 : j < 6
            · simp [j0, j1, j2, j6]
            · simp [j0, j1, j2, j6, hz j (by omega)]
    · rw [up_n (rne (by decide)), up_n (rne (by decide)), gn (by decide) (by decide)]
      exact hR'.2.2
    · exact Tb_up (Tb_up (Tb_off hT' (gn (by decide) (by decide)) (gn (by decide) (by decide)) (gn (by decide) (by decide))) (by decide) (by decide) (by decide)) (by decide) (by decide) (by decide)
    · exact Tb_up (Tb_up (Tb_off u (gn (by decide) (by decide)) (gn (by decide) (by decide)) (gn (by decide) (by decide))) (by decide) (by decide) (by decide)) (by decide) (by decide) (by decide)
    · refine offR_up (offR_up ?_ (Or.inr (Or.inl rfl))) (Or.inl rfl)
      exact fun r hr => (gn (fun z => hr (Or.inl z)) (fun z => hr (Or.inr (Or.inl z)))).trans (ho r hr)
  refine k_gR hK' rfl (k_gI hp' rfl ⟨fun c0 => k_gI hR'.1 rfl (k_cV hK' ?_), fun c0 => rest _ (if_neg c0).symm⟩)
  unfold wp_K_home
  exact k_gI hK' rfl (q_floor h1 h4 (rest _ (if_pos c0).symm))
