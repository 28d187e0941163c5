def stA (A A' : RA) (n : Nat) (r : Fn × Fn × Fn × Int32 × Fn) : Prop := A' 32 = r.1 ∧ A' 1 = r.2.1 ∧ A' 2 = r.2.2.1 ∧ A' 21 = upd (A 21) n r.2.2.2.1 ∧ wv A' n = r.2.2.2.2 ∧ (∀ j, ¬ (4 * n ≤ j ∧ j < 4 * n + 4) → A' 22 j = A 22 j) ∧ ∀ k, k ≠ 32 → k ≠ 1 → k ≠ 2 → k ≠ 21 → k ≠ 22 → A' k = A k
theorem upd_id {f : Fn} {k : Nat} {v : Int32} (h : f k = v) : upd f k v = f := by
  funext j
  by_cases e : j = k
  · simp [upd, e, h]
  · simp [upd, e]
theorem stA_id {A : RA} {n : Nat} : stA A A n (A 32, A 1, A 2, A 21 n, wv A n) := ⟨rfl, rfl, rfl, (upd_id rfl).symm, rfl, fun _ _ => rfl, fun _ _ _ _ _ _ => rfl⟩
theorem stA_g {A : RA} {n : Nat} {g : Fn} : stA A (upA A 32 g) n (g, A 1, A 2, A 21 n, wv A n) := ⟨rfl, rfl, rfl, (upd_id rfl).symm, rfl, fun _ _ => rfl, fun k h _ _ _ _ => by simp [upA, h]⟩
theorem stA_TH {A : RA} {n : Nat} {T H : Fn} : stA A (upA (upA A 1 T) 2 H) n (A 32, T, H, A 21 n, wv A n) := ⟨rfl, rfl, rfl, (upd_id rfl).symm, rfl, fun _ _ => rfl, fun k _ h1 h2 _ _ => by simp [upA, h1, h2]⟩
theorem f_put {Q : Int32 → RA → RF → Prop} {i : Nat} {x v y : Int32} {A : RA} {F : RF} (hi : ix x = i) (hx : vp_in x 40) (hv : v = 0 ∨ v = 1) (h : Q 1 (upA (upA A 1 (upd (A 1) i v)) 2 (upd (A 2) i y)) F) : fw_M_put Q x v y A F := by
  subst hi
  exact ⟨hx, hv, hx, h⟩
theorem f_stm0 {Q : Int32 → RA → RF → Prop} {n a : Nat} {A : RA} {F : RF} (ha : a < 56) (ho : okS (A 10 a) (A 11 a) (A 12 a) (A 13 a))
    (h0 : (A 10 a = 3 ∨ A 10 a = 5 ∨ A 10 a = 7 ∨ A 10 a = 10) → fw_M_statement_69 Q (nI n) (nI a) (A 32 (ix (A 11 a))) 0 A F)
    (h1 : ¬ (A 10 a = 3 ∨ A 10 a = 5 ∨ A 10 a = 7 ∨ A 10 a = 10) → fw_M_statement_69 Q (nI n) (nI a) (A 32 (ix (A 11 a))) (A 32 (ix (A 12 a))) A F) : fw_M_statement Q (nI n) (nI a) A F := by
  have e : (nI a).toNatClampNeg = a := nI_clamp (by omega)
  have hi : vp_in (nI a) 56 := vp_in_nI ha (by decide)
  unfold fw_M_statement fw_M_statement_54
  dsimp only [flI]
  rw [e]
  refine ⟨hi, ho.2.1, hi, fun c => h0 (Or.inl c), fun c3 => ⟨hi, fun c => h0 (Or.inr (Or.inl c)), fun c5 => ⟨hi, fun c => h0 (Or.inr (Or.inr (Or.inl c))), fun c7 => ⟨hi, fun c10 => ⟨hi, ho.2.2.1 c3 c5 c7 c10, h1 (fun g => ?_)⟩, fun c => h0 (Or.inr (Or.inr (Or.inr c)))⟩⟩⟩⟩
  rcases g with g | g | g | g
  · exact c3 g
  · exact c5 g
  · exact c7 g
  · exact c10 g
theorem f_bool {Q : Int32 → RA → RF → Prop} {v : Int32} {A : RA} {F : RF} (hv : v = 0 ∨ v = 1) (h : Q v A F) : (v = 0 ∨ v = 1) ∧ Q v A F := ⟨hv, h⟩
theorem okS_cases {op x y z : Int32} (h : okS op x y z) : op = 0 ∨ op = 1 ∨ op = 2 ∨ op = 3 ∨ op = 4 ∨ op = 5 ∨ op = 6 ∨ op = 7 ∨ op = 8 ∨ op = 9 ∨ op = 10 := by
  obtain ⟨j, hj, rfl⟩ := nI_of2 (M := 10) (n := 10) (by decide) (x := op) (fun g => by
    have := h.1.1
    exact absurd g (Int32.not_lt.mpr this)) h.1.2
  have : ∀ j, j ≤ 10 → nI j = 0 ∨ nI j = 1 ∨ nI j = 2 ∨ nI j = 3 ∨ nI j = 4 ∨ nI j = 5 ∨ nI j = 6 ∨ nI j = 7 ∨ nI j = 8 ∨ nI j = 9 ∨ nI j = 10 := by decide
  exact this j hj
set_option maxHeartbeats 4000000 in
theorem f_stm {Q : Int32 → RA → RF → Prop} {n a : Nat} {A : RA} {F : RF} (hn : n < 514) (ha : a < 56) (hP : ¬ F 0 = 0) (hp : vp_in (A 16 n) 7) (ho : okS (A 10 a) (A 11 a) (A 12 a) (A 13 a)) (hw : ∃ o, o ≤ 4 ∧ A 21 n = nI o)
    (h0 : stm (mu A n) (F 0) (pq A F n) (A 10 a) (A 11 a) (A 12 a) (A 13 a) (A 32) (A 1) (A 2) (A 21 n) (wv A n) = none → Q 0 A F)
    (h1 : ∀ r A', stm (mu A n) (F 0) (pq A F n) (A 10 a) (A 11 a) (A 12 a) (A 13 a) (A 32) (A 1) (A 2) (A 21 n) (wv A n) = some r → stA A A' n r → Q 1 A' F) : fw_M_statement Q (nI n) (nI a) A F := by
  have ea : (nI a).toNatClampNeg = a := nI_clamp (by omega)
  have en : (nI n).toNatClampNeg = n := nI_clamp (by omega)
  have hia : vp_in (nI a) 56 := vp_in_nI ha (by decide)
  have hin : vp_in (nI n) 514 := vp_in_nI hn (by decide)
  have k1 : ∀ {r A'}, stm (mu A n) (F 0) (pq A F n) (A 10 a) (A 11 a) (A 12 a) (A 13 a) (A 32) (A 1) (A 2) (A 21 n) (wv A n) = some r → stA A A' n r → Q 1 A' F := fun {r A'} => h1 r A'
  refine f_stm0 ha ho (fun c => ?_) (fun c => ?_)
  · unfold fw_M_statement_69
    dsimp only [flI]
    rw [ea]
    refine ⟨hia, ?_⟩
    rcases c with c | c | c | c
    · rw [c] at h0 k1 ⊢
      simp only [stm, reduceIte, show ¬ (3 : Int32) = 0 by decide, show ¬ (3 : Int32) = 1 by decide, show ¬ (3 : Int32) = 2 by decide, false_implies, true_implies, true_and, not_true_eq_false, not_false_eq_true, and_true] at h0 k1 ⊢
      refine f_for hn hP hp (fun f => ⟨fun _ => f_bool (Or.inl rfl) (h0 (if_pos (Or.inl f))), fun d => absurd d (by decide)⟩) (fun f => ⟨fun d => absurd rfl d, fun _ => ?_⟩)
      have hx := (fr_in f).1
      refine ⟨hx, fun d => f_bool (Or.inl rfl) (h0 (if_pos (Or.inr d))), fun d => f_put rfl hx (Or.inl rfl) ⟨fun z => absurd z (by decide), fun _ => f_bool (Or.inr rfl) (k1 (if_neg (fun g => g.elim f d)) stA_TH)⟩⟩
    · rw [c] at h0 k1 ⊢
      simp only [stm, reduceIte, show ¬ (5 : Int32) = 0 by decide, show ¬ (5 : Int32) = 1 by decide, show ¬ (5 : Int32) = 2 by decide, show ¬ (5 : Int32) = 3 by decide, show ¬ (5 : Int32) = 4 by decide, false_implies, true_implies, true_and, not_true_eq_false, not_false_eq_true, and_true] at h0 k1 ⊢
      exact ⟨hia, hia, ho.2.1, k1 rfl stA_g⟩
    · rw [c] at h0 k1 ⊢
      simp only [stm, reduceIte, show ¬ (7 : Int32) = 0 by decide, show ¬ (7 : Int32) = 1 by decide, show ¬ (7 : Int32) = 2 by decide, show ¬ (7 : Int32) = 3 by decide, show ¬ (7 : Int32) = 4 by decide, show ¬ (7 : Int32) = 5 by decide, show ¬ (7 : Int32) = 6 by decide, false_implies, true_implies, true_and, not_true_eq_false, not_false_eq_true, and_true] at h0 k1 ⊢
      exact k1 rfl stA_id
    · rw [c] at h0 k1 ⊢
      simp only [stm, reduceIte, show ¬ (10 : Int32) = 0 by decide, show ¬ (10 : Int32) = 1 by decide, show ¬ (10 : Int32) = 2 by decide, show ¬ (10 : Int32) = 3 by decide, show ¬ (10 : Int32) = 4 by decide, show ¬ (10 : Int32) = 5 by decide, show ¬ (10 : Int32) = 6 by decide, show ¬ (10 : Int32) = 7 by decide, show ¬ (10 : Int32) = 8 by decide, show ¬ (10 : Int32) = 9 by decide, false_implies, true_implies, true_and, not_true_eq_false, not_false_eq_true, and_true] at h0 k1 ⊢
      rw [en]
      obtain ⟨o, ho4, eo⟩ := hw
      refine ⟨hin, fun d => ?_, fun d => h0 (if_pos d)⟩
      have ho3 : o < 4 := by
        rcases Nat.lt_or_ge o 4 with g | g
        · exact g
        · exact absurd (by rw [eo, show o = 4 by omega]; rfl) d
      have e4 : (4 : Int32) * nI n + A 21 n = nI (4 * n + o) := by rw [eo, nI_lit4, nI_add]
      refine ⟨hin, ?_⟩
      rw [e4]
      have ex : (nI (4 * n + o)).toNatClampNeg = 4 * n + o := nI_clamp (by omega)
      dsimp only [fsI]
      rw [ex, en]
      refine ⟨vp_in_nI (by show 4 * n + o < 2056; omega) (by decide), hin, hin, k1 (if_neg d) ?_⟩
      have eix : ix (A 21 n) = o := by rw [eo]; exact nI_clamp (by omega)
      refine ⟨rfl, rfl, rfl, rfl, ?_, fun j hj => ?_, fun k _ _ _ h21 h22 => by simp [upA, h21, h22]⟩
      · funext i
        show upd (A 22) (4 * n + o) _ (4 * n + i) = upd (wv A n) (ix (A 21 n)) _ i
        rw [eix]
        by_cases hi : i = o
        · simp [upd, hi]
        · simp [upd, hi, wv]
      · show upd (A 22) (4 * n + o) _ j = A 22 j
        have : j ≠ 4 * n + o := fun g => hj ⟨by omega, by omega⟩
        simp [upd, this]
  · unfold fw_M_statement_69
    dsimp only [flI]
    rw [ea]
    refine ⟨hia, ?_⟩
    have hc3 : ¬ A 10 a = 3 := fun g => c (Or.inl g)
    have hc5 : ¬ A 10 a = 5 := fun g => c (Or.inr (Or.inl g))
    have hc7 : ¬ A 10 a = 7 := fun g => c (Or.inr (Or.inr (Or.inl g)))
    have hc10 : ¬ A 10 a = 10 := fun g => c (Or.inr (Or.inr (Or.inr g)))
    have hy := ho.2.2.1 hc3 hc5 hc7 hc10
    rcases okS_cases ho with e | e | e | e | e | e | e | e | e | e | e
    · rw [e] at h0 k1 ⊢
      simp only [stm, reduceIte, false_implies, true_implies, true_and, not_true_eq_false, not_false_eq_true, and_true] at h0 k1 ⊢
      refine f_for hn hP hp (fun f => ⟨fun _ => h0 (if_pos (Or.inl f)), fun d => absurd d (by decide)⟩) (fun f => ⟨fun d => absurd rfl d, fun _ => ?_⟩)
      have hx := (fr_in f).1
      exact ⟨hx, fun d => ⟨hia, hx, ho.2.1, k1 (if_neg (fun g => g.elim f d)) stA_g⟩, fun d => h0 (if_pos (Or.inr d))⟩
    · rw [e] at h0 k1 ⊢
      simp only [stm, reduceIte, show ¬ (1 : Int32) = 0 by decide, false_implies, true_implies, true_and, not_true_eq_false, not_false_eq_true, and_true] at h0 k1 ⊢
      refine f_for hn hP hp (fun f => ⟨fun _ => f_bool (Or.inl rfl) (h0 (if_pos f)), fun d => absurd d (by decide)⟩) (fun f => ⟨fun d => absurd rfl d, fun _ => ?_⟩)
      exact f_put rfl (fr_in f).1 (Or.inr rfl) ⟨fun z => absurd z (by decide), fun _ => f_bool (Or.inr rfl) (k1 (if_neg f) stA_TH)⟩
    · rw [e] at h0 k1 ⊢
      simp only [stm, reduceIte, show ¬ (2 : Int32) = 0 by decide, show ¬ (2 : Int32) = 1 by decide, false_implies, true_implies, true_and, not_true_eq_false, not_false_eq_true, and_true] at h0 k1 ⊢
      refine f_for hn hP hp (fun f => ⟨fun _ => f_bool (Or.inl rfl) (h0 (if_pos (Or.inl f))), fun d => absurd d (by decide)⟩) (fun f => ⟨fun d => absurd rfl d, fun _ => ?_⟩)
      have hx := (fr_in f).1
      exact ⟨hx, fun d => f_bool (Or.inl rfl) (h0 (if_pos (Or.inr d))), fun d => f_put rfl hx (Or.inr rfl) ⟨fun z => absurd z (by decide), fun _ => f_bool (Or.inr rfl) (k1 (if_neg (fun g => g.elim f (fun z => z d))) stA_TH)⟩⟩
    · exact absurd e hc3
    · have hz := ho.2.2.2.1 e
      rw [e] at h0 k1 ⊢
      simp only [stm, reduceIte, show ¬ (4 : Int32) = 0 by decide, show ¬ (4 : Int32) = 1 by decide, show ¬ (4 : Int32) = 2 by decide, show ¬ (4 : Int32) = 3 by decide, false_implies, true_implies, true_and, not_true_eq_false, not_false_eq_true, and_true] at h0 k1 ⊢
      exact ⟨hia, hia, hz, ho.2.1, k1 rfl stA_g⟩
    · exact absurd e hc5
    · rw [e] at h0 k1 ⊢
      simp only [stm, reduceIte, show ¬ (6 : Int32) = 0 by decide, show ¬ (6 : Int32) = 1 by decide, show ¬ (6 : Int32) = 2 by decide, show ¬ (6 : Int32) = 3 by decide, show ¬ (6 : Int32) = 4 by decide, show ¬ (6 : Int32) = 5 by decide, false_implies, true_implies, true_and, not_true_eq_false, not_false_eq_true, and_true] at h0 k1 ⊢
      exact ⟨fun d => f_bool (Or.inl rfl) (h0 (if_pos d)), fun d => f_bool (Or.inr rfl) (k1 (if_neg d) stA_id)⟩
    · exact absurd e hc7
    · rw [e] at h0 k1 ⊢
      simp only [stm, reduceIte, show ¬ (8 : Int32) = 0 by decide, show ¬ (8 : Int32) = 1 by decide, show ¬ (8 : Int32) = 2 by decide, show ¬ (8 : Int32) = 3 by decide, show ¬ (8 : Int32) = 4 by decide, show ¬ (8 : Int32) = 5 by decide, show ¬ (8 : Int32) = 6 by decide, show ¬ (8 : Int32) = 7 by decide, false_implies, true_implies, true_and, not_true_eq_false, not_false_eq_true, and_true] at h0 k1 ⊢
      refine f_out (fun d => ⟨fun z => absurd z (by decide), fun _ => h0 (if_pos d)⟩) (fun d => ⟨fun _ => ?_, fun z => absurd rfl z⟩)
      obtain ⟨h8, e32⟩ := o8_in d
      have ei : (nI (32 + ix (A 32 (ix (A 12 a))))).toNatClampNeg = 32 + ix (A 32 (ix (A 12 a))) := nI_clamp (by omega)
      rw [e32, ei]
      exact ⟨hia, vp_in_nI (by show _ < 40; omega) (by decide), ho.2.1, k1 (if_neg d) stA_g⟩
    · rw [e] at h0 k1 ⊢
      simp only [stm, reduceIte, show ¬ (9 : Int32) = 0 by decide, show ¬ (9 : Int32) = 1 by decide, show ¬ (9 : Int32) = 2 by decide, show ¬ (9 : Int32) = 3 by decide, show ¬ (9 : Int32) = 4 by decide, show ¬ (9 : Int32) = 5 by decide, show ¬ (9 : Int32) = 6 by decide, show ¬ (9 : Int32) = 7 by decide, show ¬ (9 : Int32) = 8 by decide, false_implies, true_implies, true_and, not_true_eq_false, not_false_eq_true, and_true] at h0 k1 ⊢
      refine f_out (fun d => ⟨fun _ => f_bool (Or.inl rfl) (h0 (if_pos d)), fun z => absurd z (by decide)⟩) (fun d => ⟨fun z => absurd rfl z, fun _ => ?_⟩)
      obtain ⟨h8, e32⟩ := o8_in d
      rw [e32]
      exact f_put (nI_clamp (by omega)) (vp_in_nI (by omega) (by decide)) (Or.inr rfl) ⟨fun z => absurd z (by decide), fun _ => f_bool (Or.inr rfl) (k1 (if_neg d) stA_TH)⟩
    · exact absurd e hc10
