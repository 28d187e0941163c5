/-! tables and the runner of the class -/
def vv (s : DB) (k : Nat) : Int64 := if s.1 k = 0 then 1000000000000 else (s.2 k).toInt64
def Tb (t : Nat) (s : DB) (M : wM) : Prop := M (6, t) = some (ob 6 [vR (some (22, t)), vR (some (23, t))]) ∧ (∃ V, M (22, t) = some (al 1 32 V) ∧ ∀ k, k < 32 → V k = vv s k) ∧ ∃ C, M (23, t) = some (ai 0 8 C) ∧ ∀ k, k < 8 → C k = s.2 (32 + k)
def Rn (P hm : Int32) (g : Fn) (o : Int32) (w : Fn) (fl : Int32) (M : wM) : Prop := M (3, 0) = some (ob 3 [vR (some (6, 0)), vI P, vR (some (6, 1)), vR (some (24, 0)), vI hm, vR (some (25, 0)), vI o, vI fl]) ∧ M (24, 0) = some (ai 0 6 g) ∧ M (25, 0) = some (ai 0 4 w)
def rE (r : Ro) : Prop := r.1 = 3 ∨ r.1 = 24 ∨ r.1 = 25 ∨ ((r.1 = 22 ∨ r.1 = 23) ∧ r.2 = 0)
def offE (M M' : wM) : Prop := ∀ r : Ro, ¬ rE r → M' r = M r
theorem offE_rf {M : wM} : offE M M := fun _ _ => rfl
theorem offE_tr {M M1 M2 : wM} (h : offE M M1) (g : offE M1 M2) : offE M M2 := fun r hr => (g r hr).trans (h r hr)
theorem offE_up {M M' : wM} {r : Ro} {e : AE} (h : offE M M') (hr : rE r) : offE M (up M' r e) := fun q hq => by
  rw [up_n (fun z : q = r => hq (by rw [z]; exact hr))]
  exact h q hq
theorem i64_ne (h : Int32) : ¬ h.toInt64 = 1000000000000 := by
  intro e
  have h1 : h.toInt64.toInt = h.toInt := Int32.toInt_toInt64 h
  rw [e] at h1
  have h2 := Int32.toInt_lt h
  have h3 : (1000000000000 : Int64).toInt = 1000000000000 := by decide
  rw [h3] at h1
  omega
theorem vv_none {s : DB} {k : Nat} : vv s k = 1000000000000 ↔ s.1 k = 0 := by
  unfold vv
  by_cases h : s.1 k = 0
  · rw [if_pos h]
    exact ⟨fun _ => h, fun _ => rfl⟩
  · rw [if_neg h]
    exact ⟨fun e => absurd e (i64_ne _), fun e => absurd e h⟩
theorem lg0 {x y : Int64} : lg_cmp x y = 0 ↔ x = y := by
  unfold lg_cmp
  by_cases h1 : x > y
  · rw [if_pos h1]
    exact ⟨fun h => absurd h (by decide), fun h => absurd (show y < y from h ▸ h1) Int64.lt_irrefl⟩
  · rw [if_neg h1]
    by_cases h2 : x = y
    · rw [if_pos h2]
      exact ⟨fun _ => h2, fun _ => rfl⟩
    · rw [if_neg h2]
      exact ⟨fun h => absurd h (by decide), fun h => absurd h h2⟩
theorem q_within {post : Int32 → wM → Prop} {x b : Int32} {M : wM} (h0 : x < 0 ∨ b ≤ x → post 0 M) (h1 : ¬ (x < 0 ∨ b ≤ x) → post 1 M) : wp_S_isWithin post x b M := by
  unfold wp_S_isWithin wp_S_isWithin_13 wp_S_isWithin_14
  exact ⟨fun c => ⟨Or.inl rfl, h0 (Or.inl c)⟩, fun c => ⟨fun d => ⟨Or.inl rfl, h0 (Or.inr d)⟩, fun d => ⟨Or.inr rfl, h1 (fun z => z.elim c d)⟩⟩⟩
section RUN
variable {P hm mu q : Int32} {g w : Fn} {o fl : Int32} {s : DB} {M : wM}
theorem q_reach {post : Int32 → wM → Prop} {key : Int32} (hR : Rn P hm g o w fl M) (hP : ¬ P = 0) (hhm : hm = if mu = 0 then q else -1) (hq : ¬ q = -1) (h0 : fr mu P q key → post 0 M) (h1 : ¬ fr mu P q key → post 1 M) : wp_R_isReachable post (some (3, 0)) key M := by
  unfold wp_R_isReachable wp_R_isReachable_31 wp_R_isReachable_35 wp_R_isReachable_36
  refine ⟨fun c => ⟨Or.inl rfl, h0 (Or.inl c)⟩, fun c => ⟨fun d => ⟨Or.inl rfl, h0 (Or.inr (Or.inl (Int32.not_lt.mpr d)))⟩, fun d => k_gI hR.1 rfl ⟨fun e => ⟨Or.inr rfl, h1 (fun f => ?_)⟩, fun e => k_gI hR.1 rfl ⟨hP, k_gI hR.1 rfl ⟨fun f => ⟨Or.inl rfl, h0 (Or.inr (Or.inr ⟨?_, ?_⟩))⟩, fun f => ⟨Or.inr rfl, h1 (fun z => ?_)⟩⟩⟩⟩⟩⟩
  · have hm0 : ¬ mu = 0 := fun z => by
      rw [if_pos z] at hhm
      exact hq (hhm ▸ e)
    rcases f with f | f | f
    · exact c f
    · exact d (Int32.not_lt.mp f)
    · exact hm0 f.1
  · exact Decidable.byContradiction fun z => e (by rw [if_neg z] at hhm; exact hhm)
  · have hm0 : mu = 0 := Decidable.byContradiction fun z => e (by rw [if_neg z] at hhm; exact hhm)
    rw [if_pos hm0] at hhm
    rw [← hhm]
    exact f
  · have hm0 : mu = 0 := Decidable.byContradiction fun z => e (by rw [if_neg z] at hhm; exact hhm)
    rw [if_pos hm0] at hhm
    rcases z with z | z | z
    · exact c z
    · exact d (Int32.not_lt.mp z)
    · exact z.2 (hhm ▸ f)
theorem fr_key {key : Int32} (h : ¬ fr mu P q key) : key = nI (ix key) ∧ ix key < 32 := by
  refine ⟨?_, (fr_in h).2⟩
  have h1 : ¬ key < 0 := fun z => h (Or.inl z)
  obtain ⟨j, hj, rfl⟩ := nI_of h1
  rw [ix_nI hj]
theorem q_pres {post : Int32 → wM → Prop} {key : Int32} (hR : Rn P hm g o w fl M) (hT : Tb 0 s M) (hP : ¬ P = 0) (hhm : hm = if mu = 0 then q else -1) (hq : ¬ q = -1) (h0 : (fr mu P q key ∨ s.1 (ix key) = 0) → post 0 M) (h1 : ¬ (fr mu P q key ∨ s.1 (ix key) = 0) → post 1 M) : wp_R_isPresent post (some (3, 0)) key M := by
  unfold wp_R_isPresent wp_R_isPresent_28 wp_R_isPresent_29
  refine k_cV hR.1 (q_reach hR hP hhm hq (fun f => ⟨fun _ => ⟨Or.inl rfl, h0 (Or.inl f)⟩, fun z => absurd rfl z⟩) (fun f => ⟨fun z => absurd z (by decide), fun _ => ?_⟩))
  obtain ⟨hT1, ⟨V, hV, hVv⟩, -⟩ := hT
  obtain ⟨ek, hk⟩ := fr_key f
  refine k_gR hR.1 rfl (k_gR hT1 rfl (k_lL hV ek hk (by decide) ⟨fun z => ⟨Or.inl rfl, h0 (Or.inr ?_)⟩, fun z => ⟨Or.inr rfl, h1 (fun y => ?_)⟩⟩))
  · rw [lg0, hVv _ hk] at z
    exact vv_none.mp z
  · rcases y with y | y
    · exact f y
    · exact z (lg0.mpr (by rw [hVv _ hk]; exact vv_none.mpr y))
/-- the table with one row written -/
theorem Tb_row {t k : Nat} {tv hv : Int32} {V : Nat → Int64} {v : Int64} (hT : Tb t s M) (hk : k < 32) (hV : M (22, t) = some (al 1 32 V)) (hVv : ∀ k, k < 32 → V k = vv s k) (he : v = if tv = 0 then 1000000000000 else hv.toInt64) : Tb t (upd s.1 k tv, upd s.2 k hv) (up M (22, t) (al 1 32 (vp_updL V k v))) := by
  obtain ⟨h1, -, C, hC, hCc⟩ := hT
  refine ⟨(up_n (rne (by decide))).trans h1, ⟨_, up_s, fun j hj => ?_⟩, C, (up_n (rne (by decide))).trans hC, fun j hj => ?_⟩
  · by_cases e : j = k
    · subst e
      simp [vp_updL, vv, upd, he]
    · simp only [vp_updL, e, reduceIte, vv, upd]
      rw [hVv j hj]
      rfl
  · rw [hCc j hj]
    have : ¬ 32 + j = k := by omega
    simp [upd, this]
theorem Rn_off {M' : wM} (h : Rn P hm g o w fl M) (h3 : M' (3, 0) = M (3, 0)) (h24 : M' (24, 0) = M (24, 0)) (h25 : M' (25, 0) = M (25, 0)) : Rn P hm g o w fl M' := ⟨h3.trans h.1, h24.trans h.2.1, h25.trans h.2.2⟩
theorem Tb_off {t : Nat} {M' : wM} (h : Tb t s M) (h6 : M' (6, t) = M (6, t)) (h22 : M' (22, t) = M (22, t)) (h23 : M' (23, t) = M (23, t)) : Tb t s M' := by
  obtain ⟨a, ⟨V, b, b2⟩, C, c, c2⟩ := h
  exact ⟨h6.trans a, ⟨V, h22.trans b, b2⟩, C, h23.trans c, c2⟩
theorem q_write {post : Int32 → wM → Prop} {key tv hv : Int32} {v : Int64} (hR : Rn P hm g o w fl M) (hT : Tb 0 s M) (hP : ¬ P = 0) (hhm : hm = if mu = 0 then q else -1) (hq : ¬ q = -1) (he : v = if tv = 0 then 1000000000000 else hv.toInt64) (h0 : fr mu P q key → post (-1) M) (h1 : ∀ M', ¬ fr mu P q key → Rn P hm g o w fl M' → Tb 0 (upd s.1 (ix key) tv, upd s.2 (ix key) hv) M' → offE M M' → post 0 M') : wp_R_writeRow post (some (3, 0)) key v M := by
  unfold wp_R_writeRow
  refine k_cV hR.1 (q_reach hR hP hhm hq (fun f => ⟨fun z => absurd rfl z, fun _ => h0 f⟩) (fun f => ⟨fun _ => ?_, fun z => absurd z (by decide)⟩))
  obtain ⟨hT1, ⟨V, hV, hVv⟩, hC⟩ := id hT
  obtain ⟨ek, hk⟩ := fr_key f
  refine k_gR hR.1 rfl (k_gR hT1 rfl (k_sL hV ek hk (by decide) (h1 _ f ?_ (Tb_row hT hk hV hVv he) (offE_up offE_rf (Or.inr (Or.inr (Or.inr ⟨Or.inl rfl, by decide⟩)))))))
  exact Rn_off hR (up_n (rne (by decide))) (up_n (rne (by decide))) (up_n (rne (by decide)))
theorem ix_in {x : Int32} {n : Nat} (h : vp_in x n) (hn : n < 2 ^ 31) : x = nI (ix x) ∧ ix x < n := by
  obtain ⟨j, hj, rfl⟩ := vp_in_of h hn
  rw [ix_nI (by omega)]
  exact ⟨rfl, hj⟩
theorem l2i_i2l (h : Int32) : h.toInt64.toInt32 = h := by
  apply Int32.toInt_inj.mp
  rw [Int64.toInt_toInt32, Int32.toInt_toInt64]
  have h1 := Int32.toInt_lt h
  have h2 := Int32.le_toInt h
  exact Int.bmod_eq_of_le (by omega) (by omega)
theorem sk0 {op y gx : Int32} (h : ¬ op = 7) : sk op y gx = 0 := if_neg (fun z => h z.1)
theorem Rn_g {v : Int32} {k : Nat} (h : Rn P hm g o w fl M) : Rn P hm (upd g k v) o w fl (up M (24, 0) (ai 0 6 (upd g k v))) := ⟨(up_n (rne (by decide))).trans h.1, up_s, (up_n (rne (by decide))).trans h.2.2⟩
theorem Tb_g {t : Nat} {e : AE} (h : Tb t s M) : Tb t s (up M (24, 0) e) := Tb_off h (up_n (rne (by decide))) (up_n (rne (by decide))) (up_n (rne (by decide)))
theorem offE_g {M' : wM} {e : AE} (h : offE M M') : offE M (up M' (24, 0) e) := offE_up h (Or.inr (Or.inl rfl))
set_option maxHeartbeats 4000000 in
theorem q_exe {post : Int32 → wM → Prop} {op x y z : Int32} {j : Nat} (hR : Rn P hm g o w fl M) (hT : Tb 0 s M) (hS : M (5, j) = some (ob 5 [vI op, vI x, vI y, vI z])) (hok : okS op x y z) (hP : ¬ P = 0) (hhm : hm = if mu = 0 then q else -1) (hq : ¬ q = -1) (how : ∃ i : Nat, i ≤ 4 ∧ o = nI i)
    (h0 : stm mu P q op x y z g s.1 s.2 o w = none → post (-1) M)
    (h1 : ∀ r M', stm mu P q op x y z g s.1 s.2 o w = some r → Rn P hm r.1 r.2.2.2.1 r.2.2.2.2 fl M' → Tb 0 (r.2.1, r.2.2.1) M' → offE M M' → post (nI (sk op y (r.1 (ix x)))) M') : wp_R_execute post (some (3, 0)) (some (5, j)) M := by
  obtain ⟨ex, hx6⟩ := ix_in hok.2.1 (by decide)
  have gx : ∀ {K : Int32 → Prop}, K (g (ix x)) → lI M (some (24, 0)) x K := fun k => k_lI hR.2.1 ex hx6 (by decide) k
  have hy' := hok.2.2.1
  have gy : vp_in y 6 → ∀ {K : Int32 → Prop}, K (g (ix y)) → lI M (some (24, 0)) y K := fun hv {K} k => by
    obtain ⟨ey, hy6⟩ := ix_in hv (by decide)
    exact k_lI hR.2.1 ey hy6 (by decide) k
  have sx : ∀ {K : wM → Prop} {v : Int32}, K (up M (24, 0) (ai 0 6 (upd g (ix x) v))) → sI M (some (24, 0)) x v K := fun k => k_sI hR.2.1 ex hx6 (by decide) k
  have fin : ∀ {r M'}, stm mu P q op x y z g s.1 s.2 o w = some r → ¬ op = 7 → Rn P hm r.1 r.2.2.2.1 r.2.2.2.2 fl M' → Tb 0 (r.2.1, r.2.2.1) M' → offE M M' → post 0 M' := fun {r M'} a b c d e => by
    have := h1 r M' a c d e
    rw [sk0 b] at this
    exact this
  unfold wp_R_execute wp_R_execute_137 wp_R_execute_174 wp_R_execute_246 wp_R_execute_267
  refine k_gI hS rfl ?_
  rcases okS_cases hok with c | c | c | c | c | c | c | c | c | c | c
  · subst c
    have hy := hy' (by decide) (by decide) (by decide) (by decide)
    refine ⟨fun _ => ?_, fun d => absurd rfl d⟩
    unfold wp_R_readRow
    refine k_cV hR.1 (k_gR hR.1 rfl (k_gI hS rfl (gy hy (k_cV hR.1 (q_pres hR hT hP hhm hq (fun f => ⟨fun d => absurd rfl d, fun _ => h0 (if_pos f)⟩) (fun f => ⟨fun _ => ?_, fun d => absurd d (by decide)⟩))))))
    obtain ⟨hT1, ⟨V, hV, hVv⟩, -⟩ := id hT
    obtain ⟨ek, hk⟩ := fr_key (fun u => f (Or.inl u))
    refine k_gR hR.1 rfl (k_gI hS rfl (k_gR hR.1 rfl (k_gR hT1 rfl (k_lL hV ek hk (by decide) ?_))))
    have ev : (V (ix (g (ix y)))).toInt32 = s.2 (ix (g (ix y))) := by
      rw [hVv _ hk, vv, if_neg (fun u => f (Or.inr u))]
      exact l2i_i2l _
    rw [ev]
    exact sx (fin (if_neg f) (by decide) (Rn_g hR) (Tb_g hT) (offE_g offE_rf))
  · subst c
    have hy := hy' (by decide) (by decide) (by decide) (by decide)
    refine ⟨fun d => absurd d (by decide), fun _ => ⟨fun _ => ?_, fun d => absurd rfl d⟩⟩
    refine k_gR hR.1 rfl (k_gI hS rfl (gx (k_gR hR.1 rfl (k_gI hS rfl (gy hy (k_cV hR.1 (q_write (tv := 1) (hv := g (ix y)) hR hT hP hhm hq rfl (fun f => h0 (if_pos f)) (fun M' f a b d => fin (if_neg f) (by decide) a b d))))))))
  · subst c
    have hy := hy' (by decide) (by decide) (by decide) (by decide)
    refine ⟨fun d => absurd d (by decide), fun _ => ⟨fun d => absurd d (by decide), fun _ => ⟨fun _ => ?_, fun d => absurd rfl d⟩⟩⟩
    refine k_gR hR.1 rfl (k_gI hS rfl (gx (k_cV hR.1 (q_pres hR hT hP hhm hq (fun f => ⟨fun _ => ?_, fun d => absurd rfl d⟩) (fun f => ⟨fun d => absurd d (by decide), fun _ => h0 (if_pos (Or.inr (fun u => f (Or.inr u))))⟩)))))
    refine k_gR hR.1 rfl (k_gI hS rfl (gx (k_gR hR.1 rfl (k_gI hS rfl (gy hy (k_cV hR.1 (q_write (tv := 1) (hv := g (ix y)) hR hT hP hhm hq rfl (fun u => h0 (if_pos (Or.inl u))) (fun M' u a b d => by
      have nn : ¬ (fr mu P q (g (ix x)) ∨ ¬ s.1 (ix (g (ix x))) = 0) := fun v => v.elim u (fun y => y (f.resolve_left u))
      exact fin (if_neg nn) (by decide) a b d))))))))
  · subst c
    refine ⟨fun d => absurd d (by decide), fun _ => ⟨fun d => absurd d (by decide), fun _ => ⟨fun d => absurd d (by decide), fun _ => ⟨fun _ => ?_, fun d => absurd rfl d⟩⟩⟩⟩
    refine k_gR hR.1 rfl (k_gI hS rfl (gx (k_cV hR.1 (q_pres hR hT hP hhm hq (fun f => ⟨fun _ => h0 (if_pos f), fun d => absurd rfl d⟩) (fun f => ⟨fun d => absurd d (by decide), fun _ => ?_⟩)))))
    exact k_gR hR.1 rfl (k_gI hS rfl (gx (k_cV hR.1 (q_write (tv := 0) (hv := 0) hR hT hP hhm hq rfl (fun u => absurd (Or.inl u) f) (fun M' u a b d => fin (if_neg f) (by decide) a b d)))))
  · subst c
    have hy := hy' (by decide) (by decide) (by decide) (by decide)
    obtain ⟨ez, hz6⟩ := ix_in (hok.2.2.2.1 rfl) (by decide)
    refine ⟨fun d => absurd d (by decide), fun _ => ⟨fun d => absurd d (by decide), fun _ => ⟨fun d => absurd d (by decide), fun _ => ⟨fun d => absurd d (by decide), fun _ => ⟨fun _ => ?_, fun d => absurd rfl d⟩⟩⟩⟩⟩
    exact k_gR hR.1 rfl (k_gI hS rfl (k_gR hR.1 rfl (k_gI hS rfl (gy hy (k_gR hR.1 rfl (k_gI hS rfl (k_lI hR.2.1 ez hz6 (by decide) (sx (fin rfl (by decide) (Rn_g hR) (Tb_g hT) (offE_g offE_rf))))))))))
  · subst c
    refine ⟨fun d => absurd d (by decide), fun _ => ⟨fun d => absurd d (by decide), fun _ => ⟨fun d => absurd d (by decide), fun _ => ⟨fun d => absurd d (by decide), fun _ => ⟨fun d => absurd d (by decide), fun _ => ⟨fun _ => ?_, fun d => absurd rfl d⟩⟩⟩⟩⟩⟩
    exact k_gR hR.1 rfl (k_gI hS rfl (k_gI hS rfl (sx (fin rfl (by decide) (Rn_g hR) (Tb_g hT) (offE_g offE_rf)))))
  · subst c
    have hy := hy' (by decide) (by decide) (by decide) (by decide)
    refine ⟨fun d => absurd d (by decide), fun _ => ⟨fun d => absurd d (by decide), fun _ => ⟨fun d => absurd d (by decide), fun _ => ⟨fun d => absurd d (by decide), fun _ => ⟨fun d => absurd d (by decide), fun _ => ⟨fun d => absurd d (by decide), fun _ => ⟨fun _ => ?_, fun d => absurd rfl d⟩⟩⟩⟩⟩⟩⟩
    refine k_gR hR.1 rfl (k_gI hS rfl (gx (k_gR hR.1 rfl (k_gI hS rfl (gy hy ⟨fun d => fin (if_neg (Int32.not_lt.mpr d)) (by decide) hR hT offE_rf, fun d => h0 (if_pos (Int32.not_le.mp d))⟩)))))
  · subst c
    refine ⟨fun d => absurd d (by decide), fun _ => ⟨fun d => absurd d (by decide), fun _ => ⟨fun d => absurd d (by decide), fun _ => ⟨fun d => absurd d (by decide), fun _ => ⟨fun d => absurd d (by decide), fun _ => ⟨fun d => absurd d (by decide), fun _ => ⟨fun d => absurd d (by decide), fun _ => ⟨fun _ => ?_, fun d => absurd rfl d⟩⟩⟩⟩⟩⟩⟩⟩
    have h7 := h1 _ M rfl hR hT offE_rf
    refine k_gR hR.1 rfl (k_gI hS rfl (gx ⟨fun d => ?_, fun d => k_gI hS rfl ?_⟩))
    · rw [show sk 7 y (g (ix x)) = 0 from if_neg (fun u => d u.2)] at h7
      exact h7
    · rw [show sk 7 y (g (ix x)) = ix y from if_pos ⟨rfl, d⟩] at h7
      obtain ⟨u1, u7⟩ := hok.2.2.2.2 rfl
      obtain ⟨i, hi, rfl⟩ := nI_of2 (M := 7) (n := 7) (by decide) (x := y) (fun u => absurd (Int32.lt_of_lt_of_le u (Int32.le_trans (by decide : (0 : Int32) ≤ 1) u1)) Int32.lt_irrefl) u7
      rw [ix_nI (by omega)] at h7
      exact h7
  · subst c
    have hy := hy' (by decide) (by decide) (by decide) (by decide)
    refine ⟨fun d => absurd d (by decide), fun _ => ⟨fun d => absurd d (by decide), fun _ => ⟨fun d => absurd d (by decide), fun _ => ⟨fun d => absurd d (by decide), fun _ => ⟨fun d => absurd d (by decide), fun _ => ⟨fun d => absurd d (by decide), fun _ => ⟨fun d => absurd d (by decide), fun _ => ⟨fun d => absurd d (by decide), fun _ => ⟨fun _ => ?_, fun d => absurd rfl d⟩⟩⟩⟩⟩⟩⟩⟩⟩
    unfold wp_R_loadCell
    refine k_cV hR.1 (k_gR hR.1 rfl (k_gI hS rfl (gy hy (q_within (fun f => ⟨fun d => absurd rfl d, fun _ => h0 (if_pos (f.imp id Int32.not_lt.mpr))⟩) (fun f => ⟨fun _ => ?_, fun d => absurd d (by decide)⟩)))))
    have f8 : ¬ o8 (g (ix y)) := fun u => f (u.imp id Int32.not_lt.mp)
    obtain ⟨hT1, -, C, hC, hCc⟩ := id hT
    have hk8 := (o8_in f8).1
    have ek : g (ix y) = nI (ix (g (ix y))) := by
      obtain ⟨i, hi, e⟩ := nI_of (x := g (ix y)) (fun u => f (Or.inl u))
      rw [e, ix_nI hi]
    refine k_gR hR.1 rfl (k_gI hS rfl (k_gR hR.1 rfl (k_gR hT1 rfl (k_lI hC ek hk8 (by decide) ?_))))
    rw [hCc _ hk8]
    exact sx (fin (if_neg f8) (by decide) (Rn_g hR) (Tb_g hT) (offE_g offE_rf))
  · subst c
    have hy := hy' (by decide) (by decide) (by decide) (by decide)
    refine ⟨fun d => absurd d (by decide), fun _ => ⟨fun d => absurd d (by decide), fun _ => ⟨fun d => absurd d (by decide), fun _ => ⟨fun d => absurd d (by decide), fun _ => ⟨fun d => absurd d (by decide), fun _ => ⟨fun d => absurd d (by decide), fun _ => ⟨fun d => absurd d (by decide), fun _ => ⟨fun d => absurd d (by decide), fun _ => ⟨fun d => absurd d (by decide), fun _ => ⟨fun _ => ?_, fun d => absurd rfl d⟩⟩⟩⟩⟩⟩⟩⟩⟩⟩
    unfold wp_R_storeCell
    refine k_cV hR.1 (k_gR hR.1 rfl (k_gI hS rfl (gx (q_within (fun f => ⟨fun d => absurd rfl d, fun _ => h0 (if_pos (f.imp id Int32.not_lt.mpr))⟩) (fun f => ⟨fun _ => ?_, fun d => absurd d (by decide)⟩)))))
    have f8 : ¬ o8 (g (ix x)) := fun u => f (u.imp id Int32.not_lt.mp)
    obtain ⟨hT1, ⟨V, hV, hVv⟩, C, hC, hCc⟩ := id hT
    have hk8 := (o8_in f8).1
    have ek : g (ix x) = nI (ix (g (ix x))) := by
      obtain ⟨i, hi, e⟩ := nI_of (x := g (ix x)) (fun u => f (Or.inl u))
      rw [e, ix_nI hi]
    refine k_gR hR.1 rfl (k_gR hT1 rfl (k_gR hR.1 rfl (k_gI hS rfl (gy hy (k_sI hC ek hk8 (by decide) (fin (if_neg f8) (by decide) ?_ ?_ (offE_up offE_rf (Or.inr (Or.inr (Or.inr ⟨Or.inr rfl, by decide⟩))))))))))
    · exact Rn_off hR (up_n (rne (by decide))) (up_n (rne (by decide))) (up_n (rne (by decide)))
    · refine ⟨(up_n (rne (by decide))).trans hT1, ⟨V, (up_n (rne (by decide))).trans hV, fun k hk => ?_⟩, _, up_s, fun k hk => ?_⟩
      · rw [hVv k hk]
        have : ¬ k = 32 + ix (g (ix x)) := by omega
        simp [vv, upd, this]
      · by_cases e : k = ix (g (ix x))
        · simp [upd, e]
        · have : ¬ 32 + k = 32 + ix (g (ix x)) := by omega
          simp only [upd, e, this, reduceIte]
          exact hCc k hk
  · subst c
    refine ⟨fun d => absurd d (by decide), fun _ => ⟨fun d => absurd d (by decide), fun _ => ⟨fun d => absurd d (by decide), fun _ => ⟨fun d => absurd d (by decide), fun _ => ⟨fun d => absurd d (by decide), fun _ => ⟨fun d => absurd d (by decide), fun _ => ⟨fun d => absurd d (by decide), fun _ => ⟨fun d => absurd d (by decide), fun _ => ⟨fun d => absurd d (by decide), fun _ => ⟨fun d => absurd d (by decide), fun _ => ⟨fun _ => ?_, fun d => absurd rfl d⟩⟩⟩⟩⟩⟩⟩⟩⟩⟩⟩
    unfold wp_R_putOut
    obtain ⟨i, hi, rfl⟩ := how
    refine k_gR hR.1 rfl (k_gI hS rfl (gx (k_cV hR.1 (k_gI hR.1 rfl ⟨fun d => ?_, fun d => h0 (if_pos (show nI i = 4 from by
      have : ¬ i < 4 := fun u => d (nI_lt (b := 4) u (by decide))
      rw [show i = 4 by omega]
      rfl))⟩))))
    · have hi4 : i < 4 := (nI_ltI (b := 4) (by omega) (by decide)).mp d
      have n4 : ¬ nI i = 4 := fun u => absurd ((nI_eq (b := 4) (by omega) (by decide)).mp u) (by omega)
      refine k_gR hR.1 rfl (k_gI hR.1 rfl (k_sI hR.2.2 rfl hi4 (by decide) (k_gI ((up_n (rne (by decide))).trans hR.1) rfl (k_pF (fs' := [vR (some (6, 0)), vI P, vR (some (6, 1)), vR (some (24, 0)), vI hm, vR (some (25, 0)), vI (nI i + 1), vI fl]) ((up_n (rne (by decide))).trans hR.1) (Nat.le_of_ble_eq_true rfl) rfl (fin (if_neg n4) (by decide) ⟨up_s, (up_n (rne (by decide))).trans ((up_n (rne (by decide))).trans hR.2.1), ?_⟩ ?_ (offE_up (offE_up offE_rf (Or.inr (Or.inr (Or.inl rfl)))) (Or.inl rfl)))))))
      · rw [up_n (rne (by decide)), up_s, ix_nI (by omega)]
      · exact Tb_off (Tb_off hT (up_n (rne (by decide))) (up_n (rne (by decide))) (up_n (rne (by decide)))) (up_n (rne (by decide))) (up_n (rne (by decide))) (up_n (rne (by decide)))
end RUN
