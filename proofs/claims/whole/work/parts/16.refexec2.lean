/-- command n of procedure p with sn statements, run on the rows as they are -/
abbrev exn (A : RA) (F : RF) (n p sn : Nat) (T H w : Fn) : Int32 × Fn × Fn × Int32 × Fn := ex (mu A n) (F 0) (pq A F n) sn (pso A p) (psx A p) (psy A p) (psz A p) (A 17 (3 * n)) (A 17 (3 * n + 1)) (A 17 (3 * n + 2)) T H w
def exR (A A' : RA) (n : Nat) (r : Int32 × Fn × Fn × Int32 × Fn) : Prop := A' 20 = upd (A 20) n r.1 ∧ A' 1 = r.2.1 ∧ A' 2 = r.2.2.1 ∧ A' 21 = upd (A 21) n r.2.2.2.1 ∧ wv A' n = r.2.2.2.2 ∧ (∀ j, ¬ (4 * n ≤ j ∧ j < 4 * n + 4) → A' 22 j = A 22 j) ∧ (∀ j, 6 ≤ j → A' 32 j = 0) ∧ ∀ k, k ≠ 1 → k ≠ 2 → k ≠ 5 → k ≠ 6 → k ≠ 20 → k ≠ 21 → k ≠ 22 → k ≠ 32 → A' k = A k
theorem ex_b {mu P q : Int32} {sn : Nat} {so sx sy sz : Fn} {a b c : Int32} {T H w : Fn} (h : b01 T) : b01 (ex mu P q sn so sx sy sz a b c T H w).2.1 := by
  unfold ex
  have hb := rn_b (mu := mu) (P := P) (q := q) (sn := sn) (so := so) (sx := sx) (sy := sy) (sz := sz) 9 0 (g0 a b c) T H 0 w h
  generalize rn mu P q sn so sx sy sz 9 0 (g0 a b c) T H 0 w = r at hb ⊢
  obtain ⟨fa, T1, H1, o, w1⟩ := r
  dsimp only
  split
  · exact hb
  · exact h
theorem cpf_eq {f g h : Fn} (h1 : ∀ j, j < 40 → g j = h j) (h2 : ∀ j, 40 ≤ j → f j = h j) : cpf f g 40 = h := by
  funext j
  by_cases hj : j < 40
  · simp [cpf, hj, h1 j hj]
  · simp [cpf, hj, h2 j (by omega)]
set_option maxHeartbeats 4000000 in
theorem f_exec {Q : RA → RF → Prop} {n p sn : Nat} {A : RA} {F : RF} (hn : n < 514) (hP : ¬ F 0 = 0) (hok : okP A p sn) (hp : A 16 n = nI p) (hb : b01 (A 1)) (hz : ∀ j, 6 ≤ j → A 32 j = 0)
    (h : ∀ A', exR A A' n (exn A F n p sn (A 1) (A 2) (wv A n)) → Q A' F) : fw_M_execute Q (nI n) A F := by
  have en : (nI n).toNatClampNeg = n := nI_clamp (by omega)
  have hin : vp_in (nI n) 514 := vp_in_nI hn (by decide)
  unfold fw_M_execute
  refine f_save (fun j _ => hb j) (f_regs hn ?_)
  dsimp only [fsI, flI]
  rw [en]
  refine ⟨hin, hin, hin, ?_⟩
  generalize hG : g0 (A 17 (3 * n)) (A 17 (3 * n + 1)) (A 17 (3 * n + 2)) = G
  -- the arrays as the loop finds them
  generalize hA2 : upA (upA (upA (upA (upA A 5 (cpf (A 5) (A 1) 40)) 6 (cpf (A 6) (A 2) 40)) 32 _) 21 _) 20 _ = A2
  have e1 : A2 1 = A 1 := by rw [← hA2]; rfl
  have e2 : A2 2 = A 2 := by rw [← hA2]; rfl
  have e5 : A2 5 = cpf (A 5) (A 1) 40 := by rw [← hA2]; rfl
  have e6 : A2 6 = cpf (A 6) (A 2) 40 := by rw [← hA2]; rfl
  have e20 : A2 20 = upd (A 20) n (-1) := by rw [← hA2]; rfl
  have e21 : A2 21 = upd (A 21) n 0 := by rw [← hA2]; rfl
  have e22 : A2 22 = A 22 := by rw [← hA2]; rfl
  have e32 : A2 32 = G := by
    rw [← hA2]
    show cpf (A 32) (g0 (A 17 (3 * n)) (A 17 (3 * n + 1)) (A 17 (3 * n + 2))) 6 = G
    rw [hG]
    funext j
    by_cases hj : j < 6
    · simp [cpf, hj]
    · simp only [cpf, hj, reduceIte]
      rw [hz j (by omega), ← hG]
      simp [g0, show ¬ j = 0 by omega, show ¬ j = 1 by omega, show ¬ j = 2 by omega]
  have eo : ∀ k, k ≠ 5 → k ≠ 6 → k ≠ 32 → k ≠ 21 → k ≠ 20 → A2 k = A k := fun k h1 h2 h3 h4 h5 => by
    rw [← hA2]
    simp [upA, h1, h2, h3, h4, h5]
  have e16 := eo 16 (by decide) (by decide) (by decide) (by decide) (by decide)
  have e8 := eo 8 (by decide) (by decide) (by decide) (by decide) (by decide)
  have e9 := eo 9 (by decide) (by decide) (by decide) (by decide) (by decide)
  have e10 := eo 10 (by decide) (by decide) (by decide) (by decide) (by decide)
  have e11 := eo 11 (by decide) (by decide) (by decide) (by decide) (by decide)
  have e12 := eo 12 (by decide) (by decide) (by decide) (by decide) (by decide)
  have e13 := eo 13 (by decide) (by decide) (by decide) (by decide) (by decide)
  have e17 := eo 17 (by decide) (by decide) (by decide) (by decide) (by decide)
  have ew : wv A2 n = wv A n := by
    unfold wv
    rw [e22]
  show ∃ n', fw_M_execute_100 Q n' (nI n) (A2 16 n) 0 A2 F
  rw [e16, hp]
  refine ⟨11, ?_⟩
  obtain ⟨hp6, hs8, hs, hst⟩ := id hok
  have hl := f_loop (Q := Q) (p := p) (sn := sn) hn hP 9 0 A2 (by omega) (by omega) ⟨hp6, hs8, by rw [e9]; exact hs, fun k hk => by rw [e10, e11, e12, e13]; exact hst k hk⟩ (by rw [e16]; exact hp) (by rw [e20]; simp [upd]) ⟨0, by omega, by rw [e21]; simp only [upd, reduceIte]; exact nI_0.symm⟩
  refine hl ?_
  have q10 : pso A2 p = pso A p := by show (fun k => A2 10 (8 * p + k)) = _; rw [e10]
  have q11 : psx A2 p = psx A p := by show (fun k => A2 11 (8 * p + k)) = _; rw [e11]
  have q12 : psy A2 p = psy A p := by show (fun k => A2 12 (8 * p + k)) = _; rw [e12]
  have q13 : psz A2 p = psz A p := by show (fun k => A2 13 (8 * p + k)) = _; rw [e13]
  have z21 : A2 21 n = 0 := by rw [e21]; simp [upd]
  rw [q10, q11, q12, q13, e1, e2, e32, ew, z21]
  simp only [mu, pq]
  rw [e8, e16, e17]
  unfold exn ex at h
  rw [hG] at h
  have hhi := rn_hi (mu := A 8 (ix (A 16 n))) (P := F 0) (q := pt (A 17 (3 * n)) (F 0)) (sn := sn) (so := pso A p) (sx := psx A p) (sy := psy A p) (sz := psz A p) 9 0 G (A 1) (A 2) 0 (wv A n)
  generalize rn (A 8 (ix (A 16 n))) (F 0) (pt (A 17 (3 * n)) (F 0)) sn (pso A p) (psx A p) (psy A p) (psz A p) 9 0 G (A 1) (A 2) 0 (wv A n) = r at h hhi ⊢
  obtain ⟨fa, T1, H1, o, w1⟩ := r
  dsimp only at h hhi
  intro x3 A3 hE
  obtain ⟨b1, b2, b3, b4, b5, b6, b7, b8⟩ := hE
  dsimp only at b1 b2 b3 b4 b5
  have b20 : A3 20 = upd (A 20) n fa := by rw [b1, e20, upd_upd]
  have b21 : A3 21 = upd (A 21) n o := by rw [b4, e21, upd_upd]
  have b32 : ∀ j, 6 ≤ j → A3 32 j = 0 := fun j hj => by
    rw [b7 j hj, e32, ← hG]
    simp [g0, show ¬ j = 0 by omega, show ¬ j = 1 by omega, show ¬ j = 2 by omega]
  have b22 : ∀ j, ¬ (4 * n ≤ j ∧ j < 4 * n + 4) → A3 22 j = A 22 j := fun j hj => by rw [b6 j hj, e22]
  have bo : ∀ k, k ≠ 1 → k ≠ 2 → k ≠ 5 → k ≠ 6 → k ≠ 20 → k ≠ 21 → k ≠ 22 → k ≠ 32 → A3 k = A k := fun k h1 h2 h3 h4 h5 h6 h7 h8 => (b8 k h8 h1 h2 h5 h6 h7).trans (eo k h3 h4 h8 h6 h5)
  unfold fw_M_execute_190
  dsimp only [flI, fsI]
  rw [en]
  have f20 : A3 20 n = fa := by rw [b20]; simp [upd]
  rw [f20]
  refine ⟨hin, fun c => ⟨hin, ?_⟩, fun c => ?_⟩
  · have hneg : ¬ fa < 0 := Int32.not_lt.mpr c
    rw [if_neg hneg] at h
    have c5 : A3 5 = cpf (A 5) (A 1) 40 := (b8 5 (by decide) (by decide) (by decide) (by decide) (by decide) (by decide)).trans e5
    have c6 : A3 6 = cpf (A 6) (A 2) 40 := (b8 6 (by decide) (by decide) (by decide) (by decide) (by decide) (by decide)).trans e6
    refine f_back (fun j hj => ?_) (h _ ?_)
    · show A3 5 j = 0 ∨ A3 5 j = 1
      rw [c5, cpf_in hj]
      exact hb j
    · refine ⟨b20, ?_, ?_, ?_, b5, b22, b32, fun k h1 h2 h3 h4 h5 h6 h7 h8 => ?_⟩
      · show cpf (A3 1) (A3 5) 40 = A 1
        rw [c5, b2]
        exact cpf_eq (fun j hj => cpf_in hj) (fun j hj => (hhi j hj).1)
      · show cpf (A3 2) (A3 6) 40 = A 2
        rw [c6, b3]
        exact cpf_eq (fun j hj => cpf_in hj) (fun j hj => (hhi j hj).2)
      · show upd (A3 21) n 0 = upd (A 21) n 0
        rw [b21, upd_upd]
      · have : upA (upA (upA A3 21 (upd (A3 21) n 0)) 1 (cpf (A3 1) (A3 5) 40)) 2 (cpf (A3 2) (A3 6) 40) k = A3 k := by simp [upA, h1, h2, h6]
        exact this.trans (bo k h1 h2 h3 h4 h5 h6 h7 h8)
  · have hneg : fa < 0 := Int32.not_le.mp c
    rw [if_pos hneg] at h
    exact h _ ⟨b20, b2, b3, b21, b5, b22, b32, bo⟩
