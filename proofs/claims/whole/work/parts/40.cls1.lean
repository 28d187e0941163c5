/-! the class: where each part of its heap lies -/
def dP (r : Ro) : Prop := r.1 = 2 ∨ r.1 = 5 ∨ (r.1 = 8 ∧ r.2 ≤ 5) ∨ (50 ≤ r.1 ∧ r.1 ≤ 55)
def dS (r : Ro) : Prop := r.1 = 4 ∨ (r.1 = 8 ∧ 10 ≤ r.2 ∧ r.2 ≤ 13) ∨ (60 ≤ r.1 ∧ r.1 ≤ 63)
def dG (r : Ro) : Prop := (r.1 = 8 ∧ r.2 = 20) ∨ r.1 = 70
def dC (r : Ro) : Prop := r.1 = 1 ∨ r.1 = 21
def dO (r : Ro) : Prop := r.1 = 0 ∨ r.1 = 30 ∨ r.1 = 31 ∨ r.1 = 32 ∨ r.1 = 90
def dR (r : Ro) : Prop := r.1 = 3 ∨ r.1 = 6 ∨ r.1 = 22 ∨ r.1 = 23 ∨ r.1 = 24 ∨ r.1 = 25
section OFF
variable {P l d c u : Nat} {dr : Option Nat} {dep : Nat → Bool} {mul : Fn} {sn : Nat → Nat} {so sx sy sz : Nat → Fn} {ic ml : Nat → Bool} {hm : Nat → Nat} {xo : Nat → DB → Oc} {cl tk : Nat → Nat} {q : Nat → List Nat} {sd mk : Nat → Bool} {lf : Nat → Nat} {cs : Fn} {cn : Nat → Nat} {cd cc : Nat → Bool} {cf : Fn} {co : Nat → Nat} {cw : Nat → Fn} {live base mid : DB} {M M' : wM}
theorem St_off (h : St P l d c u dr M) (o : ∀ r, dO r → M' r = M r) : St P l d c u dr M' := by
  obtain ⟨a, ⟨f1, b1, c1⟩, ⟨f2, b2, c2⟩, ⟨f3, b3, c3⟩, e⟩ := h
  exact ⟨(o _ (by unfold dO; omega)).trans a, ⟨f1, (o _ (by unfold dO; omega)).trans b1, c1⟩, ⟨f2, (o _ (by unfold dO; omega)).trans b2, c2⟩, ⟨f3, (o _ (by unfold dO; omega)).trans b3, c3⟩, (o _ (by unfold dO; omega)).trans e⟩
theorem Pr_off (h : Pr dep mul sn so sx sy sz M) (o : ∀ r, dP r → M' r = M r) : Pr dep mul sn so sx sy sz M' := by
  obtain ⟨h, j0, hj⟩ := h
  refine ⟨fun p hp => ?_, j0, fun j g => (o _ (by unfold dP; omega)).trans (hj j g)⟩
  obtain ⟨a, xs, b, e, f, g⟩ := h p hp
  refine ⟨(o _ (by unfold dP; omega)).trans a, xs, Lst_off b (o _ (by unfold dP; dsimp only; omega)) (fun w => o _ (by unfold dP; dsimp only; omega)), e, fun x hx => ?_, fun k hk => ?_⟩
  · obtain ⟨j, fs, e1, e2⟩ := f x hx
    exact ⟨j, fs, e1, (o _ (by unfold dP; omega)).trans e2⟩
  · obtain ⟨j, e1, e2⟩ := g k hk
    exact ⟨j, e1, (o _ (by unfold dP; omega)).trans e2⟩
theorem Tk_off (h : Tk P l dep mul sn so sx sy sz ic ml hm xo cl tk M) (o : ∀ r : Ro, r.1 = 7 → M' r = M r) : Tk P l dep mul sn so sx sy sz ic ml hm xo cl tk M' := by
  obtain ⟨h, t0, ht⟩ := h
  refine ⟨fun n h1 h2 => ⟨fun e => (o _ rfl).trans ((h n h1 h2).1 e), fun e => ?_⟩, t0, fun t g => (o _ rfl).trans (ht t g)⟩
  obtain ⟨p, a, b, e1, e2, r⟩ := (h n h1 h2).2 e
  exact ⟨p, a, b, e1, (o _ rfl).trans e2, r⟩
theorem Si_off (h : Si P tk q sd mk lf M) (hP : P ≤ 4) (o : ∀ r, dS r → M' r = M r) : Si P tk q sd mk lf M' := fun i hi => by
  obtain ⟨a, b⟩ := h i hi
  exact ⟨(o _ (by unfold dS; omega)).trans a, Lst_off b (o _ (by unfold dS; dsimp only; omega)) (fun w => o _ (by unfold dS; dsimp only; omega))⟩
theorem Lg_off {xs : List Ro} (h : Lst 20 xs M) (o : ∀ r, dG r → M' r = M r) : Lst 20 xs M' := Lst_off h (o _ (by unfold dG; dsimp only; omega)) (fun w => o _ (by unfold dG; dsimp only; omega))
theorem Cl_off (h : Cl cs cn cd cc cf co cw M) (o : ∀ r, dC r → M' r = M r) : Cl cs cn cd cc cf co cw M' := fun c hc => by
  obtain ⟨a, f, b, e⟩ := h c hc
  exact ⟨(o _ (by unfold dC; omega)).trans a, f, (o _ (by unfold dC; omega)).trans b, e⟩
theorem Ru_off (h : Ru P live base mid M) (o : ∀ r, dR r → M' r = M r) : Ru P live base mid M' := by
  have k : ∀ {t s}, Tb t s M → Tb t s M' := fun h => Tb_off h (o _ (by unfold dR; omega)) (o _ (by unfold dR; omega)) (o _ (by unfold dR; omega))
  obtain ⟨⟨a1, a2, a3, a4, a5, a6, a7⟩, b, ⟨s, b1⟩, b2, b3⟩ := h
  exact ⟨⟨a1, a2, a3, a4, a5, Rn_off a6 (o _ (by unfold dR; omega)) (o _ (by unfold dR; omega)) (o _ (by unfold dR; omega)), a7⟩, k b, ⟨s, k b1⟩, k b2, k b3⟩
/-! arrays of the store -/
theorem g_P {K : Option Ro → Prop} {p : Nat} (h : St P l d c u dr M) (hp : p < 6) (k : K (some (2, p))) : lR M (some (30, 0)) (nI p) K := by
  obtain ⟨-, ⟨f1, b1, c1⟩, -⟩ := h
  exact k_lR b1 rfl hp (by omega) rfl (by rw [c1 p hp]; exact k)
theorem g_S {K : Option Ro → Prop} {i : Nat} (h : St P l d c u dr M) (hP : P ≤ 4) (hi : i < P) (k : K (some (4, i))) : lR M (some (31, 0)) (nI i) K := by
  obtain ⟨-, -, ⟨f1, b1, c1⟩, -⟩ := h
  exact k_lR b1 rfl hi (by omega) rfl (by rw [c1 i hi]; exact k)
theorem g_C {K : Option Ro → Prop} {i : Nat} (h : St P l d c u dr M) (hi : i < 4) (k : K (some (1, i))) : lR M (some (32, 0)) (nI i) K := by
  obtain ⟨-, -, -, ⟨f1, b1, c1⟩, -⟩ := h
  exact k_lR b1 rfl hi (by omega) rfl (by rw [c1 i hi]; exact k)
theorem g_nS {K : Int32 → Prop} (h : St P l d c u dr M) (k : K (nI P)) : aN M (some (31, 0)) K := by
  obtain ⟨-, -, ⟨f1, b1, c1⟩, -⟩ := h
  exact k_aN b1 (by decide) k
theorem g_nC {K : Int32 → Prop} (h : St P l d c u dr M) (k : K 4) : aN M (some (32, 0)) K := by
  obtain ⟨-, -, -, ⟨f1, b1, c1⟩, -⟩ := h
  exact k_aN b1 (by decide) k
/-- isWithin(x, n) -/
theorem q_wN {post : Int32 → wM → Prop} {x : Int32} {n : Nat} (hn : n < 2 ^ 31) (h0 : (∀ j, j < n → x ≠ nI j) → post 0 M) (h1 : ∀ j, j < n → x = nI j → post 1 M) : wp_S_isWithin post x (nI n) M := by
  refine q_within (fun g => h0 (fun j hj e => ?_)) (fun g => ?_)
  · subst e
    rcases g with g | g
    · exact nI_pos (by omega) g
    · exact nI_ge hj hn g
  · obtain ⟨j, hj, rfl⟩ := nI_of (x := x) (fun z => g (Or.inl z))
    refine h1 j ?_ rfl
    rcases Nat.lt_or_ge j n with y | y
    · exact y
    · exact absurd (Or.inr (nI_le y hj)) g
/-! clients -/
def stl (d : Nat) (cs : Fn) (cn : Nat → Nat) (cd cc : Nat → Bool) : Fn := fun c => if cs c = 1 ∧ cd c = true ∧ cn c ≤ d then (if cc c = true then 2 else 3) else cs c
theorem c_settle {post : wM → Prop} {i n : Nat} {s : Int32} {dd c1 : Bool} {v4 v5 v6 : AV} (hM : M (1, i) = some (ob 1 [vI s, vI (nI n), vI (b2 dd), vI (b2 c1), v4, v5, v6])) (hn : n < 2 ^ 31) (hd : d < 2 ^ 31) (k : post (up M (1, i) (ob 1 [vI (if s = 1 ∧ dd = true ∧ n ≤ d then (if c1 = true then 2 else 3) else s), vI (nI n), vI (b2 dd), vI (b2 c1), v4, v5, v6]))) : wp_C_settle post (some (1, i)) (nI d) M := by
  have keep : ¬ (s = 1 ∧ dd = true ∧ n ≤ d) → post M := fun g => by
    rw [if_neg g, up_id hM] at k
    exact k
  unfold wp_C_settle wp_C_settle_39
  refine k_gI hM rfl ⟨fun z => keep (fun y => z y.1), fun z => k_gI hM rfl ⟨fun y => keep (fun x => ?_), fun y => k_gI hM rfl ⟨fun x => keep (fun w => nI_nlt w.2.2 hd x), fun x => k_gI hM rfl ?_⟩⟩⟩
  · rw [b2_0.mp y] at x
    exact absurd x.2.1 (by decide)
  have hdd : dd = true := by
    cases dd with
    | false => exact absurd rfl y
    | true => rfl
  have hnd : n ≤ d := Nat.not_lt.mp fun w => x (nI_lt w hn)
  rw [if_pos ⟨z, hdd, hnd⟩] at k
  unfold wp_C_settle_36 wp_C_settle_39
  refine ⟨fun w => ?_, fun w => ?_⟩
  · rw [b2_0.mp w] at k
    exact k_pF (fs' := [vI 3, vI (nI n), vI (b2 dd), vI (b2 false), v4, v5, v6]) (by rw [hM, b2_0.mp w]) (Nat.le_of_ble_eq_true rfl) rfl k
  · have : c1 = true := by
      cases c1 with
      | false => exact absurd rfl w
      | true => rfl
    rw [this] at k
    exact k_pF (fs' := [vI 2, vI (nI n), vI (b2 dd), vI (b2 true), v4, v5, v6]) (by rw [hM, this]) (Nat.le_of_ble_eq_true rfl) rfl k
theorem Cl_up {i : Nat} {v : Int32} (h : Cl cs cn cd cc cf co cw M) (hi : i < 4) : Cl (upd cs i v) cn cd cc cf co cw (up M (1, i) (ob 1 [vI v, vI (nI (cn i)), vI (b2 (cd i)), vI (b2 (cc i)), vI (cf i), vI (nI (co i)), vR (some (21, i))])) := fun c hc => by
  obtain ⟨a, f, b, e⟩ := h c hc
  by_cases z : c = i
  · subst z
    rw [upd_s]
    exact ⟨up_s, f, (up_n (rne (by decide))).trans b, e⟩
  · rw [upd_n z]
    exact ⟨(up_n (rne2 z)).trans a, f, (up_n (rne (by decide))).trans b, e⟩
theorem c_raise {post : wM → Prop} {n : Nat} (hS : St P l d c u dr M) (hC : Cl cs cn cd cc cf co cw M) (hn : n ≤ 1000) (hd : d ≤ 1000) (hcn : ∀ c, c < 4 → cn c ≤ 1000) (k : ∀ M', St P l (max d n) c u dr M' → Cl (stl (max d n) cs cn cd cc) cn cd cc cf co cw M' → (∀ r : Ro, r.1 ≠ 0 → r.1 ≠ 1 → M' r = M r) → post M') : wp_S_raiseDurable post (some (0, 0)) (nI n) M := by
  obtain ⟨s0, s1, s2, s3, s4⟩ := id hS
  have go : wp_S_raiseDurable_23 post 5 (some (0, 0)) (nI n) (some (32, 0)) 4 0 (up M (0, 0) (ob 0 [vI (nI P), vR (some (30, 0)), vR (dr.map fun p => (2, p)), vR (some (31, 0)), vR (some (32, 0)), vR (some (8, 20)), vR (some (3, 0)), vR (some (6, 2)), vI (nI c), vR (some (6, 3)), vI (nI u), vI (nI l), vI (nI (max d n))])) := by
    generalize hM1 : up M (0, 0) _ = M1
    have o1 : ∀ r : Ro, r.1 ≠ 0 → M1 r = M r := fun r hr => by rw [← hM1, up_n (fun z => hr (by rw [z]))]
    have hS1 : St P l (max d n) c u dr M1 := by
      obtain ⟨f1, b1, c1⟩ := s1
      obtain ⟨f2, b2, c2⟩ := s2
      obtain ⟨f3, b3, c3⟩ := s3
      exact ⟨by rw [← hM1, up_s], ⟨f1, (o1 _ (by decide)).trans b1, c1⟩, ⟨f2, (o1 _ (by decide)).trans b2, c2⟩, ⟨f3, (o1 _ (by decide)).trans b3, c3⟩, (o1 _ (by decide)).trans s4⟩
    have hC1 : Cl cs cn cd cc cf co cw M1 := Cl_off hC (fun r hr => o1 r (by unfold dC at hr; omega))
    have key : ∀ m i M2, i + m = 4 → St P l (max d n) c u dr M2 → Cl (fun c => if c < i then stl (max d n) cs cn cd cc c else cs c) cn cd cc cf co cw M2 → (∀ r : Ro, r.1 ≠ 1 → M2 r = M1 r) → wp_S_raiseDurable_23 post (m + 1) (some (0, 0)) (nI n) (some (32, 0)) 4 (nI i) M2 := by
      intro m
      induction m with
      | zero =>
        intro i M2 hi hS2 hC2 ho
        unfold wp_S_raiseDurable_23
        refine ⟨fun _ => k M2 hS2 (fun c hc => ?_) (fun r g1 g2 => (ho r g2).trans (o1 r g1)), fun z => absurd (nI_le (a := 4) (by omega) (by omega)) z⟩
        have := hC2 c hc
        dsimp only at this
        rw [if_pos (by omega)] at this
        exact this
      | succ m ih =>
        intro i M2 hi hS2 hC2 ho
        unfold wp_S_raiseDurable_23
        refine ⟨fun z => absurd ((nI_leI (a := 4) (by omega) (by omega)).mp z) (by omega), fun _ => g_C hS2 (by omega) (k_gI hS2.1 rfl ?_)⟩
        have h1 := (hC2 i (by omega)).1
        dsimp only at h1
        rw [if_neg (by omega)] at h1
        refine k_cV h1 (c_settle h1 (by have := hcn i (by omega); omega) (by omega) ?_)
        rw [nI_1]
        refine ih (i + 1) _ (by omega) (St_off hS2 (fun r hr => up_n (fun z => by rw [z] at hr; unfold dO at hr; dsimp only at hr; omega))) ?_ (fun r hr => (up_n (fun z => hr (by rw [z]))).trans (ho r hr))
        have := Cl_up (v := if cs i = 1 ∧ cd i = true ∧ cn i ≤ max d n then (if cc i = true then 2 else 3) else cs i) hC2 (i := i) (by omega)
        refine (show (upd (fun c => if c < i then stl (max d n) cs cn cd cc c else cs c) i (if cs i = 1 ∧ cd i = true ∧ cn i ≤ max d n then (if cc i = true then 2 else 3) else cs i)) = (fun c => if c < i + 1 then stl (max d n) cs cn cd cc c else cs c) from ?_) ▸ this
        funext j
        by_cases e : j = i
        · subst e
          rw [upd_s]
          exact (if_pos (Nat.lt_succ_self j) : (if j < j + 1 then stl (max d n) cs cn cd cc j else cs j) = _).symm
        · rw [upd_n e]
          by_cases e2 : j < i
          · rw [if_pos e2, if_pos (by omega)]
          · rw [if_neg e2, if_neg (by omega)]
    refine key 4 0 M1 (by omega) hS1 (fun c hc => ?_) (fun _ _ => rfl)
    exact hC1 c hc
  unfold wp_S_raiseDurable
  refine k_gI s0 rfl ?_
  unfold wp_Ma_max wp_Ma_max_10
  have fin : ∀ v, v = nI (max d n) → pF M (some (0, 0)) 0 12 (vI v) (fun M9 => gR M9 (some (0, 0)) 0 4 (fun a13 => aN M9 a13 (fun a18 => ∃ m, wp_S_raiseDurable_23 post m (some (0, 0)) (nI n) a13 a18 0 M9))) := fun v e => by
    subst e
    refine k_pF (fs' := [vI (nI P), vR (some (30, 0)), vR (dr.map fun p => (2, p)), vR (some (31, 0)), vR (some (32, 0)), vR (some (8, 20)), vR (some (3, 0)), vR (some (6, 2)), vI (nI c), vR (some (6, 3)), vI (nI u), vI (nI l), vI (nI (max d n))]) s0 (Nat.le_of_ble_eq_true rfl) rfl (k_gR up_s rfl ?_)
    obtain ⟨f3, b3, c3⟩ := s3
    exact k_aN ((up_n (rne (by decide))).trans b3) (by decide) ⟨5, go⟩
  refine ⟨fun z => fin _ ?_, fun z => fin _ ?_⟩
  · rw [Nat.max_eq_right (Nat.le_of_lt ((nI_ltI (by omega) (by omega)).mp z))]
  · rw [Nat.max_eq_left (Nat.not_lt.mp fun y => z (nI_lt y (by omega)))]
end OFF
