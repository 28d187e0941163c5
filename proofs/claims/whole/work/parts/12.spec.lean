/-! a run of a procedure as a function: rows and cells are T (there), H (held), cells at 32 and on; g registers; o, w the output -/
abbrev Fn : Type := Nat → Int32
abbrev ix (x : Int32) : Nat := x.toNatClampNeg
/-- the partition of a command's first argument -/
def pt (a P : Int32) : Int32 := if 0 ≤ a - a / P * P then a - a / P * P else a - a / P * P + P
abbrev fr (mu P q key : Int32) : Prop := key < 0 ∨ ¬ key < 32 ∨ (mu = 0 ∧ ¬ key - key / P * P = q)
abbrev o8 (x : Int32) : Prop := x < 0 ∨ ¬ x < 8
def stm (mu P q op x y z : Int32) (g T H : Fn) (o : Int32) (w : Fn) : Option (Fn × Fn × Fn × Int32 × Fn) :=
  if op = 0 then (if fr mu P q (g (ix y)) ∨ T (ix (g (ix y))) = 0 then none else some (upd g (ix x) (H (ix (g (ix y)))), T, H, o, w))
  else if op = 1 then (if fr mu P q (g (ix x)) then none else some (g, upd T (ix (g (ix x))) 1, upd H (ix (g (ix x))) (g (ix y)), o, w))
  else if op = 2 then (if fr mu P q (g (ix x)) ∨ ¬ T (ix (g (ix x))) = 0 then none else some (g, upd T (ix (g (ix x))) 1, upd H (ix (g (ix x))) (g (ix y)), o, w))
  else if op = 3 then (if fr mu P q (g (ix x)) ∨ T (ix (g (ix x))) = 0 then none else some (g, upd T (ix (g (ix x))) 0, upd H (ix (g (ix x))) 0, o, w))
  else if op = 4 then some (upd g (ix x) (g (ix y) + g (ix z)), T, H, o, w)
  else if op = 5 then some (upd g (ix x) y, T, H, o, w)
  else if op = 6 then (if g (ix x) < g (ix y) then none else some (g, T, H, o, w))
  else if op = 7 then some (g, T, H, o, w)
  else if op = 8 then (if o8 (g (ix y)) then none else some (upd g (ix x) (H (32 + ix (g (ix y)))), T, H, o, w))
  else if op = 9 then (if o8 (g (ix x)) then none else some (g, upd T (32 + ix (g (ix x))) 1, upd H (32 + ix (g (ix x))) (g (ix y)), o, w))
  else (if o = 4 then none else some (g, T, H, o + 1, upd w (ix o) (g (ix x))))
/-- how many statements a SKIP passes over -/
def sk (op y gx : Int32) : Nat := if op = 7 ∧ gx = 0 then ix y else 0
def rn (mu P q : Int32) (sn : Nat) (so sx sy sz : Fn) : Nat → Nat → Fn → Fn → Fn → Int32 → Fn → Int32 × Fn × Fn × Int32 × Fn
  | 0, _, _, T, H, o, w => (-1, T, H, o, w)
  | f + 1, k, g, T, H, o, w => if sn ≤ k then (-1, T, H, o, w) else match stm mu P q (so k) (sx k) (sy k) (sz k) g T H o w with
    | none => (nI k, T, H, o, w)
    | some r => rn mu P q sn so sx sy sz f (k + 1 + sk (so k) (sy k) (r.1 (ix (sx k)))) r.1 r.2.1 r.2.2.1 r.2.2.2.1 r.2.2.2.2
def g0 (a b c : Int32) : Fn := fun k => if k = 0 then a else if k = 1 then b else if k = 2 then c else 0
/-- a whole command: its fault (or -1), rows and cells, how many outputs, the outputs -/
def ex (mu P q : Int32) (sn : Nat) (so sx sy sz : Fn) (a b c : Int32) (T H w : Fn) : Int32 × Fn × Fn × Int32 × Fn :=
  match rn mu P q sn so sx sy sz 9 0 (g0 a b c) T H 0 w with
  | (fa, T1, H1, o, w1) => if fa < 0 then (fa, T1, H1, o, w1) else (fa, T, H, 0, w1)
/-- a statement's operands are as add lets them in -/
def okS (op x y z : Int32) : Prop := (0 ≤ op ∧ op ≤ 10) ∧ vp_in x 6 ∧ (¬ op = 3 → ¬ op = 5 → ¬ op = 7 → ¬ op = 10 → vp_in y 6) ∧ (op = 4 → vp_in z 6) ∧ (op = 7 → 1 ≤ y ∧ y ≤ 7)
theorem fr_in {mu P q key : Int32} (h : ¬ fr mu P q key) : vp_in key 40 ∧ ix key < 32 := by
  have h1 : ¬ key < 0 := fun g => h (Or.inl g)
  have h2 : key < 32 := Decidable.byContradiction fun g => h (Or.inr (Or.inl g))
  obtain ⟨j, hj, rfl⟩ := nI_of h1
  have h3 : j < 32 := (nI_ltI hj (by decide)).mp h2
  refine ⟨vp_in_nI (by omega) (by decide), ?_⟩
  show (nI j).toNatClampNeg < 32
  rw [nI_clamp hj]
  exact h3
theorem o8_in {x : Int32} (h : ¬ o8 x) : ix x < 8 ∧ 32 + x = nI (32 + ix x) := by
  have h1 : ¬ x < 0 := fun g => h (Or.inl g)
  have h2 : x < 8 := Decidable.byContradiction fun g => h (Or.inr g)
  obtain ⟨j, hj, rfl⟩ := nI_of h1
  have h3 : j < 8 := (nI_ltI hj (by decide)).mp h2
  have e : ix (nI j) = j := nI_clamp hj
  refine ⟨by rw [e]; exact h3, ?_⟩
  rw [e, ← nI_add]
  rfl
/-! the reference's statement -/
def wv (A : RA) (n : Nat) : Fn := fun i => A 22 (4 * n + i)
theorem f_out {Q : Int32 → Prop} {x b : Int32} (h1 : x < 0 ∨ ¬ x < b → Q 1) (h0 : ¬ (x < 0 ∨ ¬ x < b) → Q 0) : fw_M_outside Q x b := by
  unfold fw_M_outside fw_M_outside_9 fw_M_outside_14
  refine ⟨fun c => ⟨Or.inr rfl, h1 (Or.inl c)⟩, fun c => ⟨fun d => ⟨Or.inl rfl, h0 (fun g => g.elim c (fun k => k d))⟩, fun d => ⟨Or.inr rfl, h1 (Or.inr d)⟩⟩⟩
theorem nI_lit3 (n : Nat) : (3 : Int32) * nI n = nI (3 * n) := pk_mul 3 n
theorem nI_lit4 (n : Nat) : (4 : Int32) * nI n = nI (4 * n) := pk_mul 4 n
theorem nI_lit8 (n : Nat) : (8 : Int32) * nI n = nI (8 * n) := pk_mul 8 n
theorem ix_nI {n : Nat} (h : n < 2 ^ 31) : ix (nI n) = n := nI_clamp h
theorem f_part {Q : Int32 → RA → RF → Prop} {n : Nat} {A : RA} {F : RF} (hn : n < 514) (hP : ¬ F 0 = 0) (h : Q (pt (A 17 (3 * n)) (F 0)) A F) : fw_M_partitionOf Q (nI n) A F := by
  unfold fw_M_partitionOf fw_M_partitionOf_28
  rw [nI_lit3]
  refine ⟨vp_in_nI (by show 3 * n < 1542; omega) (by decide), hP, ?_⟩
  have e : (nI (3 * n)).toNatClampNeg = 3 * n := nI_clamp (by omega)
  rw [e]
  unfold pt at h
  refine ⟨fun c => ?_, fun c => ?_⟩
  · rw [if_pos c] at h; exact h
  · rw [if_neg c] at h; exact h
/-- what a command is, out of the reference's arrays -/
abbrev mu (A : RA) (n : Nat) : Int32 := A 8 (ix (A 16 n))
abbrev pq (A : RA) (F : RF) (n : Nat) : Int32 := pt (A 17 (3 * n)) (F 0)
theorem f_for {Q : Int32 → RA → RF → Prop} {n : Nat} {key : Int32} {A : RA} {F : RF} (hn : n < 514) (hP : ¬ F 0 = 0) (hp : vp_in (A 16 n) 7) (h1 : fr (mu A n) (F 0) (pq A F n) key → Q 1 A F) (h0 : ¬ fr (mu A n) (F 0) (pq A F n) key → Q 0 A F) : fw_M_foreign Q (nI n) key A F := by
  have e : (nI n).toNatClampNeg = n := nI_clamp (by omega)
  unfold fw_M_foreign fw_M_foreign_37 fw_M_foreign_41 fw_M_foreign_42
  refine f_out (fun c => ⟨fun _ => ⟨Or.inr rfl, h1 (c.elim Or.inl (fun k => Or.inr (Or.inl k)))⟩, fun d => absurd d (by decide)⟩) (fun c => ⟨fun d => absurd rfl d, fun _ => ?_⟩)
  refine ⟨vp_in_nI (by show n < 514; omega) (by decide), ?_⟩
  rw [e]
  refine ⟨hp, fun d => ⟨Or.inl rfl, h0 (fun g => ?_)⟩, fun d => ⟨hP, f_part hn hP ⟨fun z => ⟨Or.inl rfl, h0 (fun g => ?_)⟩, fun z => ⟨Or.inr rfl, h1 (Or.inr (Or.inr ⟨d, z⟩))⟩⟩⟩⟩
  · rcases g with g | g | g
    · exact c (Or.inl g)
    · exact c (Or.inr g)
    · exact d g.1
  · rcases g with g | g | g
    · exact c (Or.inl g)
    · exact c (Or.inr g)
    · exact g.2 z
