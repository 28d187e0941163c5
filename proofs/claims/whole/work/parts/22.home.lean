/-! the remainder and the partition -/
theorem rem_int {a : Int32} {m : Nat} (h1 : 1 ≤ m) (h4 : m ≤ 4) : (a - a / nI m * nI m).toInt = a.toInt.tmod m := by
  have hm : (nI m).toInt = (m : Int) := nI_toInt (by omega)
  have ha1 := Int32.toInt_lt a
  have ha2 := Int32.le_toInt a
  have e := Int.mul_tdiv_add_tmod a.toInt m
  have r1 : 0 ≤ a.toInt → 0 ≤ a.toInt.tmod m ∧ a.toInt.tmod m < m := fun h => ⟨Int.tmod_nonneg _ h, Int.tmod_lt_of_pos _ (by omega)⟩
  have r2 : a.toInt ≤ 0 → a.toInt.tmod m ≤ 0 ∧ -(m : Int) < a.toInt.tmod m := fun h => by
    have g1 := Int.tmod_nonneg (a := -a.toInt) (m : Int) (by omega)
    have g2 := Int.tmod_lt_of_pos (-a.toInt) (b := (m : Int)) (by omega)
    rw [Int.neg_tmod] at g1 g2
    omega
  rw [Int32.toInt_sub, Int32.toInt_mul, Int32.toInt_div, hm]
  generalize a.toInt.tdiv m = d at *
  generalize a.toInt.tmod m = r at *
  have hd : -2147483648 ≤ d ∧ d ≤ 2147483647 := by
    rcases (by omega : m = 1 ∨ m = 2 ∨ m = 3 ∨ m = 4) with rfl | rfl | rfl | rfl <;> omega
  have hdm : -2147483648 ≤ d * m ∧ d * m ≤ 2147483647 := by
    rcases (by omega : m = 1 ∨ m = 2 ∨ m = 3 ∨ m = 4) with rfl | rfl | rfl | rfl <;> omega
  have e2 : d * m = m * d := Int.mul_comm _ _
  rw [Int.bmod_eq_of_le (by omega) (by omega) (n := d), Int.bmod_eq_of_le (by omega) (by omega) (n := d * m), Int.bmod_eq_of_le (by omega) (by omega)]
  omega
theorem neg_xor {a : Int32} {m : Nat} (h4 : m ≤ 4) : 0 ≤ a ^^^ nI m ↔ 0 ≤ a := by
  have h : ∀ x : Int32, 0 ≤ x ↔ x.toBitVec.msb = false := fun x => by
    rw [Int32.le_iff_toInt_le]
    show 0 ≤ x.toBitVec.toInt ↔ _
    rw [BitVec.msb_eq_toInt]
    simp
  rw [h, h]
  have : (nI m).toBitVec.msb = false := by
    rcases (by omega : m = 0 ∨ m = 1 ∨ m = 2 ∨ m = 3 ∨ m = 4) with rfl | rfl | rfl | rfl | rfl <;> decide +kernel
  rw [Int32.toBitVec_xor, BitVec.msb_xor, this]
  simp
theorem le0_int {x : Int32} : 0 ≤ x ↔ 0 ≤ x.toInt := by
  rw [Int32.le_iff_toInt_le]
  rfl
theorem pt_lt {a : Int32} {m : Nat} (h1 : 1 ≤ m) (h4 : m ≤ 4) : ∃ q, q < m ∧ pt a (nI m) = nI q := by
  have e := rem_int (a := a) h1 h4
  have hm : (nI m).toInt = (m : Int) := nI_toInt (by omega)
  have ha1 := Int32.toInt_lt a
  have ha2 := Int32.le_toInt a
  have r0 : -(m : Int) < a.toInt.tmod m ∧ a.toInt.tmod m < m := by
    refine ⟨?_, Int.tmod_lt_of_pos _ (by omega)⟩
    have g2 := Int.tmod_lt_of_pos (-a.toInt) (b := (m : Int)) (by omega)
    rw [Int.neg_tmod] at g2
    omega
  unfold pt
  generalize a - a / nI m * nI m = r at *
  by_cases c : 0 ≤ r
  · rw [if_pos c]
    rw [le0_int] at c
    refine ⟨r.toInt.toNat, by omega, Int32.toInt_inj.mp ?_⟩
    rw [nI_toInt (by omega)]
    omega
  · rw [if_neg c]
    rw [le0_int] at c
    have e3 : (r + nI m).toInt = r.toInt + m := by
      rw [Int32.toInt_add, hm]
      exact Int.bmod_eq_of_le (by omega) (by omega)
    refine ⟨(r.toInt + m).toNat, by omega, Int32.toInt_inj.mp ?_⟩
    rw [nI_toInt (by omega), e3]
    omega
theorem q_floor {a : Int32} {m : Nat} {M : wM} {post : Int32 → wM → Prop} (h1 : 1 ≤ m) (h4 : m ≤ 4) (k : post (pt a (nI m)) M) : wp_Ma_floorMod post a (nI m) M := by
  have e := rem_int (a := a) h1 h4
  unfold wp_Ma_floorMod wp_Ma_floorMod_18
  refine ⟨nI_ne0 (by omega) (by omega), fun c => ?_, fun c => ⟨fun d => ?_, fun d => ?_⟩⟩
  · rw [neg_xor h4] at c
    have : 0 ≤ a - a / nI m * nI m := by
      rw [le0_int, e]
      exact Int.tmod_nonneg _ (le0_int.mp c)
    unfold pt at k
    rw [if_pos this] at k
    exact k
  · unfold pt at k
    rw [if_pos (by rw [d]; decide)] at k
    exact k
  · rw [neg_xor h4] at c
    have : ¬ 0 ≤ a - a / nI m * nI m := fun z => by
      rw [le0_int, e] at z
      have g1 := Int.tmod_nonneg (a := -a.toInt) (m : Int) (by rw [le0_int] at c; omega)
      rw [Int.neg_tmod] at g1
      exact d (Int32.toInt_inj.mp (by rw [e]; show _ = (0 : Int); omega))
    unfold pt at k
    rw [if_neg this] at k
    exact k
