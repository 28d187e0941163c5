/-! the reference's calls: procedures and commands -/
theorem rn_ext {mu P q : Int32} {sn : Nat} {so sx sy sz so' sx' sy' sz' : Fn} (h : ∀ k, k < sn → so k = so' k ∧ sx k = sx' k ∧ sy k = sy' k ∧ sz k = sz' k) : ∀ (f k : Nat) (g T H : Fn) (o : Int32) (w : Fn), rn mu P q sn so sx sy sz f k g T H o w = rn mu P q sn so' sx' sy' sz' f k g T H o w := by
  intro f
  induction f with
  | zero => intros; rfl
  | succ f ih =>
    intro k g T H o w
    unfold rn
    by_cases hk : sn ≤ k
    · rw [if_pos hk, if_pos hk]
    · rw [if_neg hk, if_neg hk]
      obtain ⟨h1, h2, h3, h4⟩ := h k (by omega)
      rw [h1, h2, h3, h4]
      cases stm mu P q (so' k) (sx' k) (sy' k) (sz' k) g T H o w with
      | none => rfl
      | some r => exact ih _ _ _ _ _ _
theorem ex_ext {mu P q : Int32} {sn : Nat} {so sx sy sz so' sx' sy' sz' : Fn} {a b c : Int32} {T H w : Fn} (h : ∀ k, k < sn → so k = so' k ∧ sx k = sx' k ∧ sy k = sy' k ∧ sz k = sz' k) : ex mu P q sn so sx sy sz a b c T H w = ex mu P q sn so' sx' sy' sz' a b c T H w := by
  unfold ex
  rw [rn_ext h]
theorem vin {x : Int32} {n : Nat} (hn : n < 2 ^ 31) : vp_in x n ↔ ¬ (x < 0 ∨ ¬ x < nI n) := by
  unfold vp_in
  constructor
  · intro h g
    rcases g with g | g
    · exact h (Or.inl g)
    · obtain ⟨j, hj, rfl⟩ := nI_of (x := x) (fun z => h (Or.inl z))
      refine h (Or.inr ?_)
      rw [nI_clamp hj]
      exact Nat.not_lt.mp fun z => g (nI_lt z hn)
  · intro h g
    rcases g with g | g
    · exact h (Or.inl g)
    · obtain ⟨j, hj, rfl⟩ := nI_of (x := x) (fun z => h (Or.inl z))
      rw [nI_clamp hj] at g
      exact h (Or.inr (nI_nlt g hj))
theorem vin6 {x : Int32} : vp_in x 6 ↔ ¬ (x < 0 ∨ ¬ x < 6) := vin (n := 6) (by decide)
theorem f_outN {Q : Int32 → Prop} {x : Int32} {n : Nat} (hn : n < 2 ^ 31) (h1 : (∀ j, j < n → x ≠ nI j) → Q 1) (h0 : ∀ j, j < n → x = nI j → Q 0) : fw_M_outside Q x (nI n) := by
  refine f_out (fun c => h1 (fun j hj z => ?_)) (fun c => ?_)
  · subst z
    rcases c with c | c
    · exact nI_pos (by omega) c
    · exact c (nI_lt hj hn)
  · obtain ⟨j, hj, rfl⟩ := nI_of (x := x) (fun z => c (Or.inl z))
    refine h0 j ?_ rfl
    have : nI j < nI n := Decidable.byContradiction fun z => c (Or.inr z)
    exact (nI_ltI hj hn).mp this
section OPS
variable {P l d c u : Nat} {ic ml : Nat → Bool} {hm : Nat → Nat} {xo : Nat → DB → Oc} {dn : Nat → Bool} {cm : Nat → Nat → Bool} {A : RA} {F : RF} {lf : Nat → Nat} {live base : DB}
variable {dr : Option Nat} {dep : Nat → Bool} {mul : Fn} {sn : Nat → Nat} {so sx sy sz : Nat → Fn} {cs : Fn} {cn : Nat → Nat} {cf : Fn} {co : Nat → Nat} {cw : Nat → Fn}
def un (f : Nat → Nat) (k v : Nat) : Nat → Nat := fun j => if j = k then v else f j
def ub (f : Nat → Bool) (k : Nat) (v : Bool) : Nat → Bool := fun j => if j = k then v else f j
theorem un_s {f : Nat → Nat} {k v : Nat} : un f k v k = v := by simp [un]
theorem un_n {f : Nat → Nat} {k v j : Nat} (h : j ≠ k) : un f k v j = f j := by simp [un, h]
theorem ub_s {f : Nat → Bool} {k : Nat} {v : Bool} : ub f k v k = v := by simp [ub]
theorem ub_n {f : Nat → Bool} {k : Nat} {v : Bool} {j : Nat} (h : j ≠ k) : ub f k v j = f j := by simp [ub, h]
theorem f_open {Q : Int32 → RA → RF → Prop} {x m : Int32} (hm : m = 0 ∨ m = 1) (hQ : RQ dr dep mul sn so sx sy sz A F) (h0 : (∀ p, p < 6 → x = nI p → dep p = true) → Q (-1) A F) (h1 : ∀ p, p < 6 → x = nI p → dep p = false → Q 0 (upA (upA A 8 (upd (A 8) 6 m)) 9 (upd (A 9) 6 0)) (upd F 14 (nI p))) : fw_M_open Q x m A F := by
  unfold fw_M_open fw_M_open_18
  refine f_outN (n := 6) (by decide) (fun c => ⟨fun _ => h0 (fun p hp z => absurd z (c p hp)), fun z => absurd z (by decide)⟩) (fun p hp e => ⟨fun z => absurd rfl z, fun _ => ?_⟩)
  subst e
  dsimp only [flI, fsZ, fsI, fpF]
  have ep : (nI p).toNatClampNeg = p := nI_clamp (by omega)
  rw [ep, hQ.1 p hp, show (6 : Int32).toNatClampNeg = 6 by decide]
  refine ⟨vp_in_nI (show p < 6 by omega) (by decide), fun z => ⟨vp_in_nI (show 6 < 7 by decide) (by decide), hm, vp_in_nI (show 6 < 7 by decide) (by decide), ?_⟩, fun z => h0 (fun p' hp' e => ?_)⟩
  · exact h1 p hp rfl (b2_0.mp z)
  · rw [← (nI_eq (by omega) (by omega)).mp e]
    cases h : dep p with
    | false => exact absurd (b2_0.mpr h) z
    | true => rfl
theorem f_add {Q : Int32 → RA → RF → Prop} {op x y z : Int32} (hJ : JP dr dep mul sn so sx sy sz) (hQ : RQ dr dep mul sn so sx sy sz A F) (h0 : (dr = none ∨ ¬ okS op x y z) → Q (-1) A F) (h8 : ∀ p, dr = some p → okS op x y z → sn p = 8 → Q (-2) A F) (h1 : ∀ p, dr = some p → okS op x y z → sn p < 8 → Q (nI (sn p)) (upA (upA (upA (upA (upA A 10 (upd (A 10) (48 + sn p) op)) 11 (upd (A 11) (48 + sn p) x)) 12 (upd (A 12) (48 + sn p) y)) 13 (upd (A 13) (48 + sn p) z)) 9 (upd (A 9) 6 (nI (sn p + 1)))) F) : fw_M_add Q op x y z A F := by
  unfold fw_M_add fw_M_add_25
  cases hdr : dr with
  | none =>
    rw [hQ.2.2.1 hdr]
    exact ⟨fun _ => h0 (Or.inl hdr), fun c => absurd (by decide : (-1 : Int32) < 0) c⟩
  | some p =>
    obtain ⟨q1, q2, q3, q4⟩ := hQ.2.2.2 p hdr
    obtain ⟨p1, p2, p3, p4, p5⟩ := hJ.2 p hdr
    rw [q1]
    refine ⟨fun c => absurd c (nI_pos (by omega)), fun _ => ?_⟩
    have bad : ¬ okS op x y z → Q (-1) A F := fun g => h0 (Or.inr g)
    have good : okS op x y z → ∀ s0 s1 s2 s3 s4, fw_M_add_104 Q s0 s1 s2 s3 s4 A F ↔ fw_M_add_104 Q s0 s1 s2 s3 s4 A F := fun _ _ _ _ _ _ => Iff.rfl
    have good : okS op x y z → ∀ s4, fw_M_add_104 Q op x y z s4 A F := fun g s4 => by
      unfold fw_M_add_104
      dsimp only [flI, fsI]
      have e6 : (6 : Int32).toNatClampNeg = 6 := by decide
      have e48 : (48 : Int32) + nI (sn p) = nI (48 + sn p) := nI_add 48 (sn p)
      rw [e6, q3, e48]
      refine ⟨vp_in_nI (show 6 < 7 by decide) (by decide), fun c => ?_, fun c => h8 p hdr g ((nI_eq (b := 8) (by omega) (by decide)).mp c)⟩
      have hlt : sn p < 8 := by
        rcases Nat.lt_or_ge (sn p) 8 with g | g
        · exact g
        · exact absurd (by rw [show sn p = 8 by omega]; rfl) c
      have en : (nI (48 + sn p)).toNatClampNeg = 48 + sn p := nI_clamp (by omega)
      have hin : vp_in (nI (48 + sn p)) 56 := vp_in_nI (by omega) (by decide)
      rw [en, nI_1]
      exact ⟨hin, hin, hin, hin, vp_in_nI (show 6 < 7 by decide) (by decide), h1 p hdr g hlt⟩
    refine f_out (fun c => ⟨fun _ => bad (fun g => ?_), fun z => absurd z (by decide)⟩) (fun c => ⟨fun z => absurd rfl z, fun _ => ?_⟩)
    · rcases c with c | c
      · exact absurd (Int32.lt_of_lt_of_le c g.1.1) Int32.lt_irrefl
      · exact c (Int32.lt_of_le_of_lt g.1.2 (by decide))
    have hop : 0 ≤ op ∧ op ≤ 10 := by
      have c1 : ¬ op < 0 := fun z => c (Or.inl z)
      have c2 : op < 11 := Decidable.byContradiction fun z => c (Or.inr z)
      obtain ⟨j, hj, rfl⟩ := nI_of c1
      have := (nI_ltI (b := 11) hj (by decide)).mp c2
      exact ⟨nI_pos' hj, nI_le (b := 10) (by omega) (by decide)⟩
    refine f_out (fun c => ⟨fun z => absurd z (by decide), fun _ => bad (fun g => ?_)⟩) (fun c => ⟨fun _ => ?_, fun z => absurd rfl z⟩)
    · exact (vin6.mp g.2.1) c
    have hx : vp_in x 6 := vin6.mpr c
    have t85 : (¬ op = 3 → ¬ op = 5 → ¬ op = 7 → ¬ op = 10 → vp_in y 6) → (op = 4 → vp_in z 6) → ∀ s, fw_M_add_85 Q op x y z s A F := fun hy hz s => by
      unfold fw_M_add_85 fw_M_add_102
      refine ⟨fun c => good ⟨hop, hx, hy, hz, fun z => absurd z c⟩ s, fun c => ⟨fun c1 => bad (fun g => ?_), fun c1 => ⟨fun c2 => good ⟨hop, hx, hy, hz, fun _ => ⟨Int32.not_lt.mp c1, c2⟩⟩ s, fun c2 => bad (fun g => c2 (g.2.2.2.2 c).2)⟩⟩⟩
      exact absurd (Int32.lt_of_lt_of_le c1 (g.2.2.2.2 c).1) Int32.lt_irrefl
    have t70 : (¬ op = 3 → ¬ op = 5 → ¬ op = 7 → ¬ op = 10 → vp_in y 6) → ∀ s, fw_M_add_70 Q op x y z s A F := fun hy s => by
      unfold fw_M_add_70 fw_M_add_102
      refine ⟨fun c => t85 hy (fun z => absurd z c) s, fun c => f_out (fun c1 => ⟨fun _ => bad (fun g => ?_), fun z => absurd z (by decide)⟩) (fun c1 => ⟨fun z => absurd rfl z, fun _ => t85 hy (fun _ => vin6.mpr c1) s⟩)⟩
      exact (vin6.mp (g.2.2.2.1 c)) c1
    have t53 : (op = 3 ∨ op = 5 ∨ op = 7 ∨ op = 10) → fw_M_add_53 Q op x y z A F := fun h => by
      unfold fw_M_add_53 fw_M_add_54
      exact ⟨fun _ => t70 (fun a b c d => by rcases h with h | h | h | h <;> contradiction) 0, fun c => absurd rfl c⟩
    refine ⟨fun c => t53 (Or.inl c), fun n3 => ⟨fun c => t53 (Or.inr (Or.inl c)), fun n5 => ⟨fun c => t53 (Or.inr (Or.inr (Or.inl c))), fun n7 => ⟨fun c => t53 (Or.inr (Or.inr (Or.inr c))), fun n10 => ?_⟩⟩⟩⟩
    unfold fw_M_add_54 fw_M_add_102
    refine ⟨fun c => absurd c (by decide), fun _ => f_out (fun c1 => ⟨fun _ => bad (fun g => ?_), fun z => absurd z (by decide)⟩) (fun c1 => ⟨fun z => absurd rfl z, fun _ => t70 (fun _ _ _ _ => vin6.mpr c1) 1⟩)⟩
    exact (vin6.mp (g.2.2.1 n3 n5 n7 n10)) c1
/-- what deploy asks -/
def snd (mul : Fn) (sn : Nat → Nat) (so sy : Nat → Fn) (p : Nat) : Prop := 0 < sn p ∧ ∀ k, k < sn p → (so p k = 7 → sy p k ≤ nI (sn p - 1 - k)) ∧ (so p k = 9 → ¬ mul p = 0)
def dpA (p n : Nat) (f : Fn) (i : Nat) : Fn := fun j => if 8 * p ≤ j ∧ j < 8 * p + i then f (48 + (j - 8 * p)) else f j
theorem dpA_s {p n i : Nat} {f : Fn} (hp : p < 6) (hi : i < 8) : upd (dpA p n f i) (8 * p + i) (dpA p n f i (48 + i)) = dpA p n f (i + 1) := by
  funext j
  have e : dpA p n f i (48 + i) = f (48 + i) := if_neg (by omega)
  rw [e]
  unfold upd dpA
  by_cases h : j = 8 * p + i
  · subst h
    rw [if_pos rfl, if_pos (by omega), show 8 * p + i - 8 * p = i by omega]
  · rw [if_neg h]
    by_cases h2 : 8 * p ≤ j ∧ j < 8 * p + i
    · rw [if_pos h2, if_pos (by omega)]
    · rw [if_neg h2, if_neg (by omega)]
theorem upA_c {A : RA} {i j : Nat} {f g : Fn} (h : i ≠ j) : upA (upA A i f) j g = upA (upA A j g) i f := by
  funext k
  unfold upA
  by_cases h1 : k = i
  · subst h1
    simp [h]
  · simp [h1]
theorem upA_u {A : RA} {i : Nat} {f g : Fn} : upA (upA A i f) i g = upA A i g := by
  funext k
  unfold upA
  by_cases h1 : k = i
  · simp [h1]
  · simp [h1]
/-- the statements i of the draft in place p -/
def dpR (A : RA) (p i : Nat) : RA := fun k => if 10 ≤ k ∧ k ≤ 13 then dpA p 0 (A k) i else A k
theorem dpR_s {A : RA} {p i : Nat} (hp : p < 6) (hi : i < 8) : upA (upA (upA (upA (dpR A p i) 10 (upd (dpR A p i 10) (8 * p + i) (dpR A p i 10 (48 + i)))) 11 (upd (dpR A p i 11) (8 * p + i) (dpR A p i 11 (48 + i)))) 12 (upd (dpR A p i 12) (8 * p + i) (dpR A p i 12 (48 + i)))) 13 (upd (dpR A p i 13) (8 * p + i) (dpR A p i 13 (48 + i))) = dpR A p (i + 1) := by
  have e : ∀ k, 10 ≤ k → k ≤ 13 → upd (dpR A p i k) (8 * p + i) (dpR A p i k (48 + i)) = dpA p 0 (A k) (i + 1) := fun k h1 h2 => by
    have : dpR A p i k = dpA p 0 (A k) i := if_pos ⟨h1, h2⟩
    rw [this]
    exact dpA_s hp hi
  rw [e 10 (by decide) (by decide), e 11 (by decide) (by decide), e 12 (by decide) (by decide), e 13 (by decide) (by decide)]
  funext k
  by_cases h : 10 ≤ k ∧ k ≤ 13
  · rw [show dpR A p (i + 1) k = dpA p 0 (A k) (i + 1) from if_pos h]
    rcases (by omega : k = 10 ∨ k = 11 ∨ k = 12 ∨ k = 13) with rfl | rfl | rfl | rfl <;> simp [upA]
  · rw [show dpR A p (i + 1) k = A k from if_neg h]
    have h10 : k ≠ 10 := by omega
    have h11 : k ≠ 11 := by omega
    have h12 : k ≠ 12 := by omega
    have h13 : k ≠ 13 := by omega
    simp only [upA, h10, h11, h12, h13, reduceIte]
    exact if_neg h
set_option maxHeartbeats 1000000 in
theorem f_deploy {Q : Int32 → RA → RF → Prop} (hJ : JP dr dep mul sn so sx sy sz) (hQ : RQ dr dep mul sn so sx sy sz A F) (h0 : dr = none → Q (-1) A F) (h3 : ∀ p, dr = some p → ¬ snd mul sn so sy p → Q (-3) A (upd F 14 (-1))) (h1 : ∀ p, dr = some p → snd mul sn so sy p → Q 0 (upA (upA (upA (dpR A p (sn p)) 9 (upd (A 9) p (nI (sn p)))) 8 (upd (A 8) p (mul p))) 7 (upd (A 7) p 1)) (upd F 14 (-1))) : fw_M_deploy Q A F := by
  unfold fw_M_deploy
  cases hdr : dr with
  | none =>
    rw [hQ.2.2.1 hdr]
    exact ⟨fun c => absurd c (by decide), fun _ => h0 hdr⟩
  | some p =>
    obtain ⟨q1, q2, q3, q4⟩ := hQ.2.2.2 p hdr
    obtain ⟨p1, p2, p3, p4, p5⟩ := hJ.2 p hdr
    have e6 : (6 : Int32).toNatClampNeg = 6 := by decide
    have ep : (nI p).toNatClampNeg = p := nI_clamp (by omega)
    have hp7 : vp_in (nI p) 7 := vp_in_nI (by omega) (by decide)
    have h67 : vp_in (6 : Int32) 7 := vp_in_nI (show 6 < 7 by decide) (by decide)
    rw [q1]
    refine ⟨fun _ => ?_, fun c => absurd (nI_pos' (by omega)) c⟩
    dsimp only [fpF, flI]
    rw [e6, q3]
    refine ⟨h67, ?_⟩
    -- the copy
    have cp : snd mul sn so sy p → ∀ b, ∃ n, fw_M_deploy_125 Q n (nI p) (nI (sn p)) b 0 A (upd F 14 (-1)) := by
      intro hs b
      have key : ∀ m i, i + m = sn p → fw_M_deploy_125 Q (m + 1) (nI p) (nI (sn p)) b (nI i) (dpR A p i) (upd F 14 (-1)) := by
        intro m
        induction m with
        | zero =>
          intro i hi
          unfold fw_M_deploy_125
          dsimp only [fsI, flI, fsZ]
          refine ⟨fun _ => ⟨hp7, h67, hp7, ?_, vp_in_nI (show p < 6 by omega) (by decide), Or.inr rfl, ?_⟩, fun c => absurd (nI_le (by omega) (by omega)) c⟩
          · rw [e6, upA_n (by decide), show dpR A p i 8 = A 8 from if_neg (by omega), q2]
            exact p3
          · have := h1 p hdr hs
            rw [e6, ep, upA_n (by decide), upA_n (by decide), upA_n (by decide), show dpR A p i 8 = A 8 from if_neg (by omega), show dpR A p i 9 = A 9 from if_neg (by omega), show dpR A p i 7 = A 7 from if_neg (by omega), q2, show i = sn p by omega]
            exact this
        | succ m ih =>
          intro i hi
          unfold fw_M_deploy_125
          dsimp only [fsI, flI]
          have e48 : (48 : Int32) + nI i = nI (48 + i) := nI_add 48 i
          have c48 : (nI (48 + i)).toNatClampNeg = 48 + i := nI_clamp (by omega)
          have c8 : (nI (8 * p + i)).toNatClampNeg = 8 * p + i := nI_clamp (by omega)
          have v48 : vp_in (nI (48 + i)) 56 := vp_in_nI (by omega) (by decide)
          have v8 : vp_in (nI (8 * p + i)) 56 := vp_in_nI (by omega) (by decide)
          rw [e48, nI_lit8, nI_add, c48, c8, nI_1]
          refine ⟨fun c => absurd ((nI_leI (by omega) (by omega)).mp c) (by omega), fun _ => ⟨v48, v8, v48, v8, v48, v8, v48, v8, ?_⟩⟩
          have := ih (i + 1) (by omega)
          rw [← dpR_s p1 (by omega)] at this
          rw [upA_n (by decide), upA_n (by decide), upA_n (by decide), upA_n (by decide), upA_n (by decide), upA_n (by decide)]
          exact this
      have z := key (sn p) 0 (by omega)
      have e : dpR A p 0 = A := by
        funext k
        by_cases h : 10 ≤ k ∧ k ≤ 13
        · rw [show dpR A p 0 k = dpA p 0 (A k) 0 from if_pos h]
          funext j
          exact if_neg (by omega)
        · exact if_neg h
      rw [e] at z
      exact ⟨_, z⟩
    -- the look over the statements
    have look : ∀ m i b, i + m = sn p → (b = 0 ∨ b = 1) → (b = 0 ↔ (0 < sn p ∧ ∀ k, k < i → (so p k = 7 → sy p k ≤ nI (sn p - 1 - k)) ∧ (so p k = 9 → ¬ mul p = 0))) → fw_M_deploy_40 Q (m + 1) (nI p) (nI (sn p)) b (nI i) A (upd F 14 (-1)) := by
      intro m
      induction m with
      | zero =>
        intro i b hi hb hbi
        unfold fw_M_deploy_40
        refine ⟨fun _ => ⟨fun c => cp ?_ b, fun c => h3 p hdr (fun g => c (hbi.mpr ?_))⟩, fun c => absurd (nI_le (by omega) (by omega)) c⟩
        · have := hbi.mp c
          exact ⟨this.1, fun k hk => this.2 k (by omega)⟩
        · exact ⟨g.1, fun k hk => g.2 k (by omega)⟩
      | succ m ih =>
        intro i b hi hb hbi
        unfold fw_M_deploy_40 fw_M_deploy_82 fw_M_deploy_109
        dsimp only [flI]
        have e48 : (48 : Int32) + nI i = nI (48 + i) := nI_add 48 i
        have c48 : (nI (48 + i)).toNatClampNeg = 48 + i := nI_clamp (by omega)
        have v48 : vp_in (nI (48 + i)) 56 := vp_in_nI (by omega) (by decide)
        have eN : nI (sn p) - 1 - nI i = nI (sn p - 1 - i) := by
          rw [show nI (sn p) - 1 = nI (sn p - 1) from pk_sub (b := 1) (by omega), pk_sub (by omega)]
        obtain ⟨x1, x2, x3, x4⟩ := q4 i (by omega)
        rw [e48, c48, eN, x1, x3, e6, q2, nI_1]
        have next : ∀ b', (b' = 0 ∨ b' = 1) → (b' = 0 ↔ b = 0 ∧ (so p i = 7 → sy p i ≤ nI (sn p - 1 - i)) ∧ (so p i = 9 → ¬ mul p = 0)) → fw_M_deploy_40 Q (m + 1) (nI p) (nI (sn p)) b' (nI (i + 1)) A (upd F 14 (-1)) := fun b' hb' he => by
          refine ih (i + 1) b' (by omega) hb' ⟨fun z => ?_, fun z => ?_⟩
          · obtain ⟨y1, y2, y3⟩ := he.mp z
            obtain ⟨w1, w2⟩ := hbi.mp y1
            refine ⟨w1, fun k hk => ?_⟩
            by_cases e : k = i
            · subst e
              exact ⟨y2, y3⟩
            · exact w2 k (by omega)
          · exact he.mpr ⟨hbi.mpr ⟨z.1, fun k hk => z.2 k (by omega)⟩, (z.2 i (by omega)).1, (z.2 i (by omega)).2⟩
        refine ⟨fun c => absurd ((nI_leI (by omega) (by omega)).mp c) (by omega), fun _ => ⟨v48, fun c7 => ⟨v48, fun c9 => next b hb ⟨fun z => ⟨z, fun y => absurd y c7, fun y => absurd y c9⟩, fun z => z.1⟩, fun c9 => ⟨h67, fun cm => next b hb ⟨fun z => ⟨z, fun y => absurd y c7, fun _ => cm⟩, fun z => z.1⟩, fun cm => next 1 (Or.inr rfl) ⟨fun z => absurd z (by decide), fun z => absurd cm (z.2.2 c9)⟩⟩⟩, fun c7 => ⟨v48, fun cy => ⟨v48, fun c9 => next b hb ⟨fun z => ⟨z, fun _ => cy, fun y => absurd y c9⟩, fun z => z.1⟩, fun c9 => absurd (c7.symm.trans c9) (by decide)⟩, fun cy => ⟨v48, fun c9 => next 1 (Or.inr rfl) ⟨fun z => absurd z (by decide), fun z => absurd (z.2.1 c7) cy⟩, fun c9 => absurd (c7.symm.trans c9) (by decide)⟩⟩⟩⟩
    unfold fw_M_deploy_36
    refine ⟨fun c => ⟨sn p + 1, look (sn p) 0 0 (by omega) (Or.inl rfl) ⟨fun _ => ⟨?_, fun k hk => by omega⟩, fun _ => rfl⟩⟩, fun c => ⟨sn p + 1, look (sn p) 0 1 (by omega) (Or.inr rfl) ⟨fun z => absurd z (by decide), fun z => ?_⟩⟩⟩
    · rcases Nat.eq_zero_or_pos (sn p) with g | g
      · exact absurd (by rw [g]; rfl) c
      · exact g
    · exact absurd c (nI_ne0 z.1 (by omega))
end OPS
