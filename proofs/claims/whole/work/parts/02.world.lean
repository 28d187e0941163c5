/-! the world by roles: a role (k, i) holds nothing, or a cell: its address and what it is -/
abbrev wE : Type := Nat → Nat → Option (Nat × va_E)
def w2 (E : wE) (k i : Nat) (x : Option (Nat × va_E)) : wE := fun k' i' => if k' = k ∧ i' = i then x else E k' i'
theorem w2_s {E : wE} {k i : Nat} {x : Option (Nat × va_E)} : w2 E k i x k i = x := by simp [w2]
theorem w2_k {E : wE} {k i k' i' : Nat} {x : Option (Nat × va_E)} (h : k' ≠ k) : w2 E k i x k' i' = E k' i' := by simp [w2, h]
theorem w2_i {E : wE} {k i k' i' : Nat} {x : Option (Nat × va_E)} (h : i' ≠ i) : w2 E k i x k' i' = E k' i' := by simp [w2, h]
theorem w2_w2 {E : wE} {k i : Nat} {x y : Option (Nat × va_E)} : w2 (w2 E k i x) k i y = w2 E k i y := by
  funext a b
  by_cases h : a = k ∧ b = i
  · simp [w2, h]
  · simp [w2, h]
theorem w2_self {E : wE} {k i : Nat} {x : Option (Nat × va_E)} (h : E k i = x) : w2 E k i x = E := by
  funext a b
  by_cases g : a = k ∧ b = i
  · simp [w2, g, h]
  · simp [w2, g]
def wr (D : va_G) (cl : List vw_C) (A : Nat → Prop) (E : wE) (H : Heap) : Prop := ∃ ws : va_W, va_P D cl ws H ∧ va_D A ws ∧ (∀ k i x, E k i = some x → ∃ q : Nat, ws[q]? = some x) ∧ ∀ k i k' i' x y, E k i = some x → E k' i' = some y → x.1 = y.1 → k = k' ∧ i = i'
section WR
variable {D : va_G} {cl : List vw_C} {A : Nat → Prop} {E : wE} {H H1 : Heap} {ws : va_W}
theorem wr_set (hin : ∀ k i x, E k i = some x → ∃ q : Nat, ws[q]? = some x) (hj : ∀ k i k' i' x y, E k i = some x → E k' i' = some y → x.1 = y.1 → k = k' ∧ i = i') {k i q a : Nat} {e0 e1 : va_E} (hE : E k i = some (a, e0)) (hq : ws[q]? = some (a, e0)) (hP : va_P D cl (ws.set q (a, e1)) H1) (hD : va_D A (ws.set q (a, e1))) : wr D cl A (w2 E k i (some (a, e1))) H1 := by
  have hl : q < ws.length := (List.getElem?_eq_some_iff.mp hq).1
  refine ⟨_, hP, hD, fun k' i' x hx => ?_, fun k1 i1 k2 i2 x y hx hy hxy => ?_⟩
  · by_cases h : k' = k ∧ i' = i
    · rw [h.1, h.2, w2_s] at hx
      cases hx
      exact ⟨q, by simp [hl]⟩
    · have hx' : E k' i' = some x := by simpa [w2, h] using hx
      obtain ⟨j, hw⟩ := hin _ _ _ hx'
      refine ⟨j, ?_⟩
      rw [List.getElem?_set_ne, hw]
      intro hjq
      rw [← hjq, hq] at hw
      cases hw
      exact h (hj _ _ _ _ _ _ hx' hE rfl)
  · by_cases h1 : k1 = k ∧ i1 = i
    · rw [h1.1, h1.2, w2_s] at hx
      cases hx
      by_cases h2 : k2 = k ∧ i2 = i
      · exact ⟨h1.1.trans h2.1.symm, h1.2.trans h2.2.symm⟩
      · have hy' : E k2 i2 = some y := by simpa [w2, h2] using hy
        rw [h1.1, h1.2]
        exact hj _ _ _ _ _ _ hE hy' hxy
    · have hx' : E k1 i1 = some x := by simpa [w2, h1] using hx
      by_cases h2 : k2 = k ∧ i2 = i
      · rw [h2.1, h2.2, w2_s] at hy
        cases hy
        rw [h2.1, h2.2]
        exact hj _ _ _ _ _ _ hx' hE hxy
      · have hy' : E k2 i2 = some y := by simpa [w2, h2] using hy
        exact hj _ _ _ _ _ _ hx' hy' hxy
theorem wr_push (hin : ∀ k i x, E k i = some x → ∃ q : Nat, ws[q]? = some x) (hj : ∀ k i k' i' x y, E k i = some x → E k' i' = some y → x.1 = y.1 → k = k' ∧ i = i') {k i a : Nat} {e1 : va_E} (hP : va_P D cl (ws ++ [(a, e1)]) H1) (hD : va_D A (ws ++ [(a, e1)])) : wr D cl A (w2 E k i (some (a, e1))) H1 := by
  have hlast : (ws ++ [(a, e1)])[ws.length]? = some (a, e1) := by simp
  have hmem : ∀ k i x, E k i = some x → ∃ q : Nat, q < ws.length ∧ (ws ++ [(a, e1)])[q]? = some x := fun k i x hx => by
    obtain ⟨q, hq⟩ := hin k i x hx
    have hl := (List.getElem?_eq_some_iff.mp hq).1
    exact ⟨q, hl, by rw [List.getElem?_append_left hl]; exact hq⟩
  have hne : ∀ k i x, E k i = some x → x.1 ≠ a := fun k i x hx hxa => by
    obtain ⟨q, hl, hq⟩ := hmem k i x hx
    have := hD.1 q ws.length x (a, e1) hq hlast hxa
    omega
  refine ⟨_, hP, hD, fun k' i' x hx => ?_, fun k1 i1 k2 i2 x y hx hy hxy => ?_⟩
  · by_cases h : k' = k ∧ i' = i
    · rw [h.1, h.2, w2_s] at hx
      cases hx
      exact ⟨_, hlast⟩
    · have hx' : E k' i' = some x := by simpa [w2, h] using hx
      obtain ⟨q, -, hq⟩ := hmem _ _ _ hx'
      exact ⟨q, hq⟩
  · by_cases h1 : k1 = k ∧ i1 = i
    · by_cases h2 : k2 = k ∧ i2 = i
      · exact ⟨h1.1.trans h2.1.symm, h1.2.trans h2.2.symm⟩
      · rw [h1.1, h1.2, w2_s] at hx
        cases hx
        have hy' : E k2 i2 = some y := by simpa [w2, h2] using hy
        exact absurd hxy.symm (hne _ _ _ hy')
    · have hx' : E k1 i1 = some x := by simpa [w2, h1] using hx
      by_cases h2 : k2 = k ∧ i2 = i
      · rw [h2.1, h2.2, w2_s] at hy
        cases hy
        exact absurd hxy (hne _ _ _ hx')
      · have hy' : E k2 i2 = some y := by simpa [w2, h2] using hy
        exact hj _ _ _ _ _ _ hx' hy' hxy
/-- a role that is given up -/
theorem wr_drop {k i : Nat} (h : wr D cl A E H) : wr D cl A (w2 E k i none) H := by
  obtain ⟨ws, hP, hD, hin, hj⟩ := h
  have hx' : ∀ {k' i' x}, w2 E k i none k' i' = some x → E k' i' = some x := fun {k' i' x} hx => by
    by_cases h : k' = k ∧ i' = i
    · rw [h.1, h.2, w2_s] at hx
      cases hx
    · simpa [w2, h] using hx
  exact ⟨ws, hP, hD, fun k' i' x hx => hin _ _ _ (hx' hx), fun k1 i1 k2 i2 x y hx hy hxy => hj _ _ _ _ _ _ (hx' hx) (hx' hy) hxy⟩
theorem wr_nil : wr D cl A (fun _ _ => none) H := ⟨[], fun _ _ h => by simp at h, ⟨fun i j p q h => by simp at h, fun k q h => by simp at h⟩, fun _ _ _ h => (by cases h), fun _ _ _ _ _ _ h => (by cases h)⟩
theorem wr.inA {k i : Nat} {x : Nat × va_E} (h : wr D cl A E H) (hx : E k i = some x) : A x.1 := by
  obtain ⟨ws, hP, hD, hin, hj⟩ := h
  obtain ⟨q, hq⟩ := hin _ _ _ hx
  exact hD.2 q x hq
theorem wr.lt {k i : Nat} {x : Nat × va_E} (h : wr D cl A E H) (hx : E k i = some x) : x.1 < H.size := by
  obtain ⟨ws, hP, hD, hin, hj⟩ := h
  obtain ⟨q, hq⟩ := hin _ _ _ hx
  exact (hP q x hq).lt
theorem wr.P {k i : Nat} {x : Nat × va_E} (h : wr D cl A E H) (hx : E k i = some x) : va_P D cl [x] H := by
  obtain ⟨ws, hP, hD, hin, hj⟩ := h
  obtain ⟨q, hq⟩ := hin _ _ _ hx
  intro j y hy
  have hz : j < 1 := (List.getElem?_eq_some_iff.mp hy).1
  rw [show j = 0 by omega] at hy
  cases hy
  exact hP q x hq
/-- two roles with one address are one -/
theorem wr.one {k i k' i' a : Nat} {e e' : va_E} (h : wr D cl A E H) (h1 : E k i = some (a, e)) (h2 : E k' i' = some (a, e')) : k = k' ∧ i = i' := by
  obtain ⟨ws, hP, hD, hin, hj⟩ := h
  exact hj _ _ _ _ _ _ h1 h2 rfl
/-- an object's class, for calls and casts -/
theorem wr_recv {s : State} {tys : List (ClassId × FieldType)} {k i a ci : Nat} {q : vw_C} {fs : List Value} (hK : va_K D cl tys s) (h : wr D cl A E H) (hc : cl[ci]? = some q) (he : E k i = some (a, .inr (ci, fs))) : ∃ cell : Cell, H[a]? = some cell ∧ cell.vm.isStatics = false ∧ s.vm.findClass q.1 = some cell.cls := va_recv hK (h.P he) hc (q0 := 0) rfl
end WR
section WRR
variable {p : Program} {l : Launch} {e : Env} {R : Room} {s : State} {m : MethodId} {args : Array Value} {below : List Frame} {meth : Method} {c : Code} {H : Heap} {locs : List Loc} {cells slots : Nat} {Q : State → Prop}
variable {cc : ByteArray} {pc : Nat} {ls : Array Slot} {rest : List Value} {D : va_G} {cl : List vw_C} {A : Nat → Prop} {a : Nat} {tys : List (ClassId × FieldType)} {Ew : wE} {H0 : Heap}
theorem wr_get (hexec : p.tables.exec = Jvm.exec) (hb : c.code = cc) {own ref C : String} {T : u_T} {N ci index : Nat} {Ts : List Cond} (hts : ∀ w ∈ Ts, w.before args s = true) (hin : ∀ w ∈ u_ws C T N, w ∈ Ts) (hown : s.vm.findClass own = some m.cls) (hK : va_K D cl tys s) (hw : wr D cl A Ew H) {fs : List Value} (k_q0 i_q0 : Nat) (he : Ew k_q0 i_q0 = some (a, .inr (ci, fs))) (hc : cl[ci]? = some (C, T, N)) (k : Nat) (hk : k < N) (hlink : (Cond.fieldLink own index ref (T k).2.1 (T k).2.2.1).before args s = true) (hsame : ∀ x, s.fieldFound? (T k).1 (T k).2.1 (T k).2.2.1 = some x → s.fieldFound? ref (T k).2.1 (T k).2.2.1 = some x) {v : Value} (hv : fs[k]? = some v) (hdg : decode cc pc = .ok (.getfield index, 3)) (kk : W p l e R s m args below meth c H locs cells slots Q (F0 m (pc + 3) ls (v :: rest))) :
    W p l e R s m args below meth c H locs cells slots Q (F0 m pc ls (.ref a :: rest)) := by
  obtain ⟨ws, hP, hD, hIn, hJn⟩ := hw
  obtain ⟨q0, he'⟩ := hIn _ _ _ he
  exact va_get hexec hb hts hin hown hK hP q0 he' hc k hk hlink hsame hv hdg (kk)
theorem wr_getN (hexec : p.tables.exec = Jvm.exec) (hb : c.code = cc) {own ref C host : String} {T : u_T} {N ci index : Nat} {Ts : List Cond} (hts : ∀ w ∈ Ts, w.before args s = true) (hin : ∀ w ∈ u_ws C T N, w ∈ Ts) (hown : s.vm.findClass own = some m.cls) (hK : va_K D cl tys s) (hw : wr D cl A Ew H) {fs : List Value} (k_q0 i_q0 : Nat) (he : Ew k_q0 i_q0 = some (a, .inr (ci, fs))) (hc : cl[ci]? = some (C, T, N)) (k : Nat) (hk : k < N) (hlink : (Cond.fieldLinkNest own index ref (T k).2.1 (T k).2.2.1 host).before args s = true) (hsame : ∀ x, s.fieldFound? (T k).1 (T k).2.1 (T k).2.2.1 = some x → s.fieldFound? ref (T k).2.1 (T k).2.2.1 = some x) {v : Value} (hv : fs[k]? = some v) (hdg : decode cc pc = .ok (.getfield index, 3)) (kk : W p l e R s m args below meth c H locs cells slots Q (F0 m (pc + 3) ls (v :: rest))) :
    W p l e R s m args below meth c H locs cells slots Q (F0 m pc ls (.ref a :: rest)) := by
  obtain ⟨ws, hP, hD, hIn, hJn⟩ := hw
  obtain ⟨q0, he'⟩ := hIn _ _ _ he
  exact va_getN hexec hb hts hin hown hK hP q0 he' hc k hk hlink hsame hv hdg (kk)
theorem wr_put (hexec : p.tables.exec = Jvm.exec) (hb : c.code = cc) {own ref C : String} {T : u_T} {N ci index : Nat} {Ts : List Cond} (hts : ∀ w ∈ Ts, w.before args s = true) (hin : ∀ w ∈ u_ws C T N, w ∈ Ts) (ty0 : Nat → FieldType) (hty : ∀ k, k < N → parseFieldDescriptor (T k).2.2.1 = some (ty0 k)) (hnm : ∀ a, a < N → ∀ b, b < N → a ≠ b → (T a).2.1 ≠ (T b).2.1) (hown : s.vm.findClass own = some m.cls) (hK : va_K D cl tys s) (hw : wr D cl A Ew H) (hS0 : va_S A H0 H locs) {fs : List Value} (k_q0 i_q0 : Nat) (he : Ew k_q0 i_q0 = some (a, .inr (ci, fs))) (hc : cl[ci]? = some (C, T, N)) (k : Nat) (hk : k < N) (hlink : (Cond.fieldLink own index ref (T k).2.1 (T k).2.2.1).before args s = true) (hsame : ∀ x, s.fieldFound? (T k).1 (T k).2.1 (T k).2.2.1 = some x → s.fieldFound? ref (T k).2.1 (T k).2.2.1 = some x) (hfin : (T k).2.2.2 = false) {ty : FieldType} {v : Value} (hd : parseFieldDescriptor (T k).2.2.1 = some ty) (hn : narrow ty v = v) (hfit : fits ty v = true) (hl : k < fs.length) (hdg : decode cc pc = .ok (.putfield index, 3)) (kk : ∀ (H1 : Heap) (locs1 : List Loc), wr D cl A (w2 Ew k_q0 i_q0 (some (a, .inr (ci, fs.set k v)))) H1 → va_S A H0 H1 locs1 → W p l e R s m args below meth c H1 locs1 cells slots Q (F0 m (pc + 3) ls rest)) :
    W p l e R s m args below meth c H locs cells slots Q (F0 m pc ls (v :: .ref a :: rest)) := by
  obtain ⟨ws, hP, hD, hIn, hJn⟩ := hw
  obtain ⟨q0, he'⟩ := hIn _ _ _ he
  exact va_put hexec hb hts hin ty0 hty hnm hown hK hP hD hS0 q0 he' hc k hk hlink hsame hfin hd hn hfit hl hdg (fun H1 locs1 hP1 hD1 hS1 => kk H1 locs1 (wr_set hIn hJn he he' hP1 hD1) hS1)
theorem wr_putN (hexec : p.tables.exec = Jvm.exec) (hb : c.code = cc) {own ref C host : String} {T : u_T} {N ci index : Nat} {Ts : List Cond} (hts : ∀ w ∈ Ts, w.before args s = true) (hin : ∀ w ∈ u_ws C T N, w ∈ Ts) (ty0 : Nat → FieldType) (hty : ∀ k, k < N → parseFieldDescriptor (T k).2.2.1 = some (ty0 k)) (hnm : ∀ a, a < N → ∀ b, b < N → a ≠ b → (T a).2.1 ≠ (T b).2.1) (hown : s.vm.findClass own = some m.cls) (hK : va_K D cl tys s) (hw : wr D cl A Ew H) (hS0 : va_S A H0 H locs) {fs : List Value} (k_q0 i_q0 : Nat) (he : Ew k_q0 i_q0 = some (a, .inr (ci, fs))) (hc : cl[ci]? = some (C, T, N)) (k : Nat) (hk : k < N) (hlink : (Cond.fieldLinkNest own index ref (T k).2.1 (T k).2.2.1 host).before args s = true) (hsame : ∀ x, s.fieldFound? (T k).1 (T k).2.1 (T k).2.2.1 = some x → s.fieldFound? ref (T k).2.1 (T k).2.2.1 = some x) (hfin : (T k).2.2.2 = false) {ty : FieldType} {v : Value} (hd : parseFieldDescriptor (T k).2.2.1 = some ty) (hn : narrow ty v = v) (hfit : fits ty v = true) (hl : k < fs.length) (hdg : decode cc pc = .ok (.putfield index, 3)) (kk : ∀ (H1 : Heap) (locs1 : List Loc), wr D cl A (w2 Ew k_q0 i_q0 (some (a, .inr (ci, fs.set k v)))) H1 → va_S A H0 H1 locs1 → W p l e R s m args below meth c H1 locs1 cells slots Q (F0 m (pc + 3) ls rest)) :
    W p l e R s m args below meth c H locs cells slots Q (F0 m pc ls (v :: .ref a :: rest)) := by
  obtain ⟨ws, hP, hD, hIn, hJn⟩ := hw
  obtain ⟨q0, he'⟩ := hIn _ _ _ he
  exact va_putN hexec hb hts hin ty0 hty hnm hown hK hP hD hS0 q0 he' hc k hk hlink hsame hfin hd hn hfit hl hdg (fun H1 locs1 hP1 hD1 hS1 => kk H1 locs1 (wr_set hIn hJn he he' hP1 hD1) hS1)
theorem wr_putF (hexec : p.tables.exec = Jvm.exec) (hb : c.code = cc) {own ref C : String} {T : u_T} {N ci index : Nat} {Ts : List Cond} (hts : ∀ w ∈ Ts, w.before args s = true) (hin : ∀ w ∈ u_ws C T N, w ∈ Ts) (ty0 : Nat → FieldType) (hty : ∀ k, k < N → parseFieldDescriptor (T k).2.2.1 = some (ty0 k)) (hnm : ∀ a, a < N → ∀ b, b < N → a ≠ b → (T a).2.1 ≠ (T b).2.1) (hown : s.vm.findClass own = some m.cls) (hK : va_K D cl tys s) (hw : wr D cl A Ew H) (hS0 : va_S A H0 H locs) {fs : List Value} (k_q0 i_q0 : Nat) (he : Ew k_q0 i_q0 = some (a, .inr (ci, fs))) (hc : cl[ci]? = some (C, T, N)) (k : Nat) (hk : k < N) (hlink : (Cond.fieldLink own index ref (T k).2.1 (T k).2.2.1).before args s = true) (hsame : ∀ x, s.fieldFound? (T k).1 (T k).2.1 (T k).2.2.1 = some x → s.fieldFound? ref (T k).2.1 (T k).2.2.1 = some x) (hfin : (T k).2.2.2 = true) (hin2 : meth.name = "<init>") (hdecl : (T k).1 = own) {ty : FieldType} {v : Value} (hd : parseFieldDescriptor (T k).2.2.1 = some ty) (hn : narrow ty v = v) (hfit : fits ty v = true) (hl : k < fs.length) (hdg : decode cc pc = .ok (.putfield index, 3)) (kk : ∀ (H1 : Heap) (locs1 : List Loc), wr D cl A (w2 Ew k_q0 i_q0 (some (a, .inr (ci, fs.set k v)))) H1 → va_S A H0 H1 locs1 → W p l e R s m args below meth c H1 locs1 cells slots Q (F0 m (pc + 3) ls rest)) :
    W p l e R s m args below meth c H locs cells slots Q (F0 m pc ls (v :: .ref a :: rest)) := by
  obtain ⟨ws, hP, hD, hIn, hJn⟩ := hw
  obtain ⟨q0, he'⟩ := hIn _ _ _ he
  exact va_putF hexec hb hts hin ty0 hty hnm hown hK hP hD hS0 q0 he' hc k hk hlink hsame hfin hin2 hdecl hd hn hfit hl hdg (fun H1 locs1 hP1 hD1 hS1 => kk H1 locs1 (wr_set hIn hJn he he' hP1 hD1) hS1)
theorem wr_iald (hexec : p.tables.exec = Jvm.exec) (hb : c.code = cc) (hK : va_K D cl tys s) (hw : wr D cl A Ew H) (t0 : Nat) {cA : ClassId} {n : Nat} {f : Nat → Int32} (k_q0 i_q0 : Nat) (ha : Ew k_q0 i_q0 = some (a, .inl (cA, n, .inl f))) (ht : tys[t0]? = some (cA, .int)) {i : Int32} (hin : vp_in i n) (hdg : decode cc pc = .ok (.iaload, 1)) (kk : W p l e R s m args below meth c H locs cells slots Q (F0 m (pc + 1) ls (.int (f i.toNatClampNeg) :: rest))) :
    W p l e R s m args below meth c H locs cells slots Q (F0 m pc ls (.int i :: .ref a :: rest)) := by
  obtain ⟨ws, hP, hD, hIn, hJn⟩ := hw
  obtain ⟨q0, ha'⟩ := hIn _ _ _ ha
  exact va_iald hexec hb hK hP q0 t0 ha' ht hin hdg (kk)
theorem wr_bald (hexec : p.tables.exec = Jvm.exec) (hb : c.code = cc) (hK : va_K D cl tys s) (hw : wr D cl A Ew H) (t0 : Nat) {cA : ClassId} {n : Nat} {f : Nat → Int32} (k_q0 i_q0 : Nat) (ha : Ew k_q0 i_q0 = some (a, .inl (cA, n, .inl f))) (ht : tys[t0]? = some (cA, .byte)) {i : Int32} (hin : vp_in i n) (hdg : decode cc pc = .ok (.baload, 1)) (kk : W p l e R s m args below meth c H locs cells slots Q (F0 m (pc + 1) ls (.int (f i.toNatClampNeg) :: rest))) :
    W p l e R s m args below meth c H locs cells slots Q (F0 m pc ls (.int i :: .ref a :: rest)) := by
  obtain ⟨ws, hP, hD, hIn, hJn⟩ := hw
  obtain ⟨q0, ha'⟩ := hIn _ _ _ ha
  exact va_bald hexec hb hK hP q0 t0 ha' ht hin hdg (kk)
theorem wr_zald (hexec : p.tables.exec = Jvm.exec) (hb : c.code = cc) (hK : va_K D cl tys s) (hw : wr D cl A Ew H) (t0 : Nat) {cA : ClassId} {n : Nat} {f : Nat → Int32} (k_q0 i_q0 : Nat) (ha : Ew k_q0 i_q0 = some (a, .inl (cA, n, .inl f))) (ht : tys[t0]? = some (cA, .boolean)) {i : Int32} (hin : vp_in i n) (hdg : decode cc pc = .ok (.baload, 1)) (kk : W p l e R s m args below meth c H locs cells slots Q (F0 m (pc + 1) ls (.int (f i.toNatClampNeg) :: rest))) :
    W p l e R s m args below meth c H locs cells slots Q (F0 m pc ls (.int i :: .ref a :: rest)) := by
  obtain ⟨ws, hP, hD, hIn, hJn⟩ := hw
  obtain ⟨q0, ha'⟩ := hIn _ _ _ ha
  exact va_zald hexec hb hK hP q0 t0 ha' ht hin hdg (kk)
theorem wr_lald (hexec : p.tables.exec = Jvm.exec) (hb : c.code = cc) (hK : va_K D cl tys s) (hw : wr D cl A Ew H) (t0 : Nat) {cA : ClassId} {n : Nat} {f : Nat → Int64} (k_q0 i_q0 : Nat) (ha : Ew k_q0 i_q0 = some (a, .inl (cA, n, .inr (.inl f)))) (ht : tys[t0]? = some (cA, .long)) {i : Int32} (hin : vp_in i n) (hdg : decode cc pc = .ok (.laload, 1)) (kk : W p l e R s m args below meth c H locs cells slots Q (F0 m (pc + 1) ls (.long (f i.toNatClampNeg) :: rest))) :
    W p l e R s m args below meth c H locs cells slots Q (F0 m pc ls (.int i :: .ref a :: rest)) := by
  obtain ⟨ws, hP, hD, hIn, hJn⟩ := hw
  obtain ⟨q0, ha'⟩ := hIn _ _ _ ha
  exact va_lald hexec hb hK hP q0 t0 ha' ht hin hdg (kk)
theorem wr_iast (hexec : p.tables.exec = Jvm.exec) (hb : c.code = cc) (hK : va_K D cl tys s) (hw : wr D cl A Ew H) (hS : va_S A H0 H locs) (t0 : Nat) {cA : ClassId} {n : Nat} {f : Nat → Int32} (k_q0 i_q0 : Nat) (ha : Ew k_q0 i_q0 = some (a, .inl (cA, n, .inl f))) (ht : tys[t0]? = some (cA, .int)) {i : Int32} {x : Int32} (hin : vp_in i n) (hdg : decode cc pc = .ok (.iastore, 1)) (kk : ∀ (H1 : Heap) (locs1 : List Loc), wr D cl A (w2 Ew k_q0 i_q0 (some (a, .inl (cA, n, .inl (upd f i.toNatClampNeg x))))) H1 → va_S A H0 H1 locs1 → W p l e R s m args below meth c H1 locs1 cells slots Q (F0 m (pc + 1) ls rest)) :
    W p l e R s m args below meth c H locs cells slots Q (F0 m pc ls (.int x :: .int i :: .ref a :: rest)) := by
  obtain ⟨ws, hP, hD, hIn, hJn⟩ := hw
  obtain ⟨q0, ha'⟩ := hIn _ _ _ ha
  exact va_iast hexec hb hK hP hD hS q0 t0 ha' ht hin hdg (fun H1 locs1 hP1 hD1 hS1 => kk H1 locs1 (wr_set hIn hJn ha ha' hP1 hD1) hS1)
theorem wr_bast (hexec : p.tables.exec = Jvm.exec) (hb : c.code = cc) (hK : va_K D cl tys s) (hw : wr D cl A Ew H) (hS : va_S A H0 H locs) (t0 : Nat) {cA : ClassId} {n : Nat} {f : Nat → Int32} (k_q0 i_q0 : Nat) (ha : Ew k_q0 i_q0 = some (a, .inl (cA, n, .inl f))) (ht : tys[t0]? = some (cA, .byte)) {i : Int32} {x : Int32} (hin : vp_in i n) (hdg : decode cc pc = .ok (.bastore, 1)) (kk : ∀ (H1 : Heap) (locs1 : List Loc), wr D cl A (w2 Ew k_q0 i_q0 (some (a, .inl (cA, n, .inl (upd f i.toNatClampNeg (vp_nar .byte x)))))) H1 → va_S A H0 H1 locs1 → W p l e R s m args below meth c H1 locs1 cells slots Q (F0 m (pc + 1) ls rest)) :
    W p l e R s m args below meth c H locs cells slots Q (F0 m pc ls (.int x :: .int i :: .ref a :: rest)) := by
  obtain ⟨ws, hP, hD, hIn, hJn⟩ := hw
  obtain ⟨q0, ha'⟩ := hIn _ _ _ ha
  exact va_bast hexec hb hK hP hD hS q0 t0 ha' ht hin hdg (fun H1 locs1 hP1 hD1 hS1 => kk H1 locs1 (wr_set hIn hJn ha ha' hP1 hD1) hS1)
theorem wr_zast (hexec : p.tables.exec = Jvm.exec) (hb : c.code = cc) (hK : va_K D cl tys s) (hw : wr D cl A Ew H) (hS : va_S A H0 H locs) (t0 : Nat) {cA : ClassId} {n : Nat} {f : Nat → Int32} (k_q0 i_q0 : Nat) (ha : Ew k_q0 i_q0 = some (a, .inl (cA, n, .inl f))) (ht : tys[t0]? = some (cA, .boolean)) {i : Int32} {x : Int32} (hin : vp_in i n) (hdg : decode cc pc = .ok (.bastore, 1)) (kk : ∀ (H1 : Heap) (locs1 : List Loc), wr D cl A (w2 Ew k_q0 i_q0 (some (a, .inl (cA, n, .inl (upd f i.toNatClampNeg (vp_nar .boolean x)))))) H1 → va_S A H0 H1 locs1 → W p l e R s m args below meth c H1 locs1 cells slots Q (F0 m (pc + 1) ls rest)) :
    W p l e R s m args below meth c H locs cells slots Q (F0 m pc ls (.int x :: .int i :: .ref a :: rest)) := by
  obtain ⟨ws, hP, hD, hIn, hJn⟩ := hw
  obtain ⟨q0, ha'⟩ := hIn _ _ _ ha
  exact va_zast hexec hb hK hP hD hS q0 t0 ha' ht hin hdg (fun H1 locs1 hP1 hD1 hS1 => kk H1 locs1 (wr_set hIn hJn ha ha' hP1 hD1) hS1)
theorem wr_last (hexec : p.tables.exec = Jvm.exec) (hb : c.code = cc) (hK : va_K D cl tys s) (hw : wr D cl A Ew H) (hS : va_S A H0 H locs) (t0 : Nat) {cA : ClassId} {n : Nat} {f : Nat → Int64} (k_q0 i_q0 : Nat) (ha : Ew k_q0 i_q0 = some (a, .inl (cA, n, .inr (.inl f)))) (ht : tys[t0]? = some (cA, .long)) {i : Int32} {x : Int64} (hin : vp_in i n) (hdg : decode cc pc = .ok (.lastore, 1)) (kk : ∀ (H1 : Heap) (locs1 : List Loc), wr D cl A (w2 Ew k_q0 i_q0 (some (a, .inl (cA, n, .inr (.inl (vp_updL f i.toNatClampNeg x)))))) H1 → va_S A H0 H1 locs1 → W p l e R s m args below meth c H1 locs1 cells slots Q (F0 m (pc + 1) ls rest)) :
    W p l e R s m args below meth c H locs cells slots Q (F0 m pc ls (.long x :: .int i :: .ref a :: rest)) := by
  obtain ⟨ws, hP, hD, hIn, hJn⟩ := hw
  obtain ⟨q0, ha'⟩ := hIn _ _ _ ha
  exact va_last hexec hb hK hP hD hS q0 t0 ha' ht hin hdg (fun H1 locs1 hP1 hD1 hS1 => kk H1 locs1 (wr_set hIn hJn ha ha' hP1 hD1) hS1)
theorem wr_alen (hexec : p.tables.exec = Jvm.exec) (hb : c.code = cc) (hK : va_K D cl tys s) (hw : wr D cl A Ew H) (t0 : Nat) {cA : ClassId} {x : vp_A} (k_q0 i_q0 : Nat) (ha : Ew k_q0 i_q0 = some (a, .inl (cA, x))) {ty : FieldType} (ht : tys[t0]? = some (cA, ty)) {v : Int32} (hv : Int32.ofNat x.1 = v) (hdg : decode cc pc = .ok (.arraylength, 1)) (kk : W p l e R s m args below meth c H locs cells slots Q (F0 m (pc + 1) ls (.int v :: rest))) :
    W p l e R s m args below meth c H locs cells slots Q (F0 m pc ls (.ref a :: rest)) := by
  obtain ⟨ws, hP, hD, hIn, hJn⟩ := hw
  obtain ⟨q0, ha'⟩ := hIn _ _ _ ha
  exact va_alen hexec hb hK hP q0 t0 ha' ht hv hdg (kk)
theorem wr_aldq (hexec : p.tables.exec = Jvm.exec) (hb : c.code = cc) (hK : va_K D cl tys s) (hw : wr D cl A Ew H) (t0 : Nat) {cA : ClassId} {C : String} {n : Nat} {f : Nat → Option Nat} (k_q0 i_q0 : Nat) (ha : Ew k_q0 i_q0 = some (a, .inl (cA, n, .inr (.inr (.inr (.inr f)))))) (ht : tys[t0]? = some (cA, .object C)) {i : Int32} (hin : vp_in i n) (hdg : decode cc pc = .ok (.aaload, 1)) (kk : W p l e R s m args below meth c H locs cells slots Q (F0 m (pc + 1) ls (va_rf (f i.toNatClampNeg) :: rest))) :
    W p l e R s m args below meth c H locs cells slots Q (F0 m pc ls (.int i :: .ref a :: rest)) := by
  obtain ⟨ws, hP, hD, hIn, hJn⟩ := hw
  obtain ⟨q0, ha'⟩ := hIn _ _ _ ha
  exact va_aldq hexec hb hK hP q0 t0 ha' ht hin hdg (kk)
theorem wr_astq (hexec : p.tables.exec = Jvm.exec) (hb : c.code = cc) (hK : va_K D cl tys s) (hw : wr D cl A Ew H) (hS : va_S A H0 H locs) (t0 ci : Nat) {cA : ClassId} {r : vw_C} {n v : Nat} {vs : List Value} {f : Nat → Option Nat} (k_q0 i_q0 : Nat) (ha : Ew k_q0 i_q0 = some (a, .inl (cA, n, .inr (.inr (.inr (.inr f)))))) (ht : tys[t0]? = some (cA, .object r.1)) (k_qk i_qk : Nat) (hv : Ew k_qk i_qk = some (v, .inr (ci, vs))) (hc : cl[ci]? = some r) {i : Int32} (hin : vp_in i n) (hdg : decode cc pc = .ok (.aastore, 1)) (kk : ∀ (H1 : Heap) (locs1 : List Loc), wr D cl A (w2 Ew k_q0 i_q0 (some (a, .inl (cA, n, .inr (.inr (.inr (.inr (va_up f i.toNatClampNeg (some v))))))))) H1 → va_S A H0 H1 locs1 → W p l e R s m args below meth c H1 locs1 cells slots Q (F0 m (pc + 1) ls rest)) :
    W p l e R s m args below meth c H locs cells slots Q (F0 m pc ls (.ref v :: .int i :: .ref a :: rest)) := by
  obtain ⟨ws, hP, hD, hIn, hJn⟩ := hw
  obtain ⟨q0, ha'⟩ := hIn _ _ _ ha
  obtain ⟨qk, hv'⟩ := hIn _ _ _ hv
  exact va_astq hexec hb hK hP hD hS q0 t0 qk ci ha' ht hv' hc hin hdg (fun H1 locs1 hP1 hD1 hS1 => kk H1 locs1 (wr_set hIn hJn ha ha' hP1 hD1) hS1)
theorem wr_astqO (hexec : p.tables.exec = Jvm.exec) (hb : c.code = cc) (hK : va_K D cl tys s) (hw : wr D cl A Ew H) (hS : va_S A H0 H locs) (t0 ci : Nat) {E : String} {cA : ClassId} {r : vw_C} {n v : Nat} {vs : List Value} {f : Nat → Option Nat} (k_q0 i_q0 : Nat) (ha : Ew k_q0 i_q0 = some (a, .inl (cA, n, .inr (.inr (.inr (.inr f)))))) (ht : tys[t0]? = some (cA, .object E)) (hca : va_Nw (.castable r.1 E) s) (k_qk i_qk : Nat) (hv : Ew k_qk i_qk = some (v, .inr (ci, vs))) (hc : cl[ci]? = some r) {i : Int32} (hin : vp_in i n) (hdg : decode cc pc = .ok (.aastore, 1)) (kk : ∀ (H1 : Heap) (locs1 : List Loc), wr D cl A (w2 Ew k_q0 i_q0 (some (a, .inl (cA, n, .inr (.inr (.inr (.inr (va_up f i.toNatClampNeg (some v))))))))) H1 → va_S A H0 H1 locs1 → W p l e R s m args below meth c H1 locs1 cells slots Q (F0 m (pc + 1) ls rest)) :
    W p l e R s m args below meth c H locs cells slots Q (F0 m pc ls (.ref v :: .int i :: .ref a :: rest)) := by
  obtain ⟨ws, hP, hD, hIn, hJn⟩ := hw
  obtain ⟨q0, ha'⟩ := hIn _ _ _ ha
  obtain ⟨qk, hv'⟩ := hIn _ _ _ hv
  exact va_astqO hexec hb hK hP hD hS q0 t0 qk ci ha' ht hca hv' hc hin hdg (fun H1 locs1 hP1 hD1 hS1 => kk H1 locs1 (wr_set hIn hJn ha ha' hP1 hD1) hS1)
theorem wr_astqN (hexec : p.tables.exec = Jvm.exec) (hb : c.code = cc) (hK : va_K D cl tys s) (hw : wr D cl A Ew H) (hS : va_S A H0 H locs) (t0 : Nat) {cA : ClassId} {C : String} {n : Nat} {f : Nat → Option Nat} (k_q0 i_q0 : Nat) (ha : Ew k_q0 i_q0 = some (a, .inl (cA, n, .inr (.inr (.inr (.inr f)))))) (ht : tys[t0]? = some (cA, .object C)) {i : Int32} (hin : vp_in i n) (hdg : decode cc pc = .ok (.aastore, 1)) (kk : ∀ (H1 : Heap) (locs1 : List Loc), wr D cl A (w2 Ew k_q0 i_q0 (some (a, .inl (cA, n, .inr (.inr (.inr (.inr (va_up f i.toNatClampNeg none)))))))) H1 → va_S A H0 H1 locs1 → W p l e R s m args below meth c H1 locs1 cells slots Q (F0 m (pc + 1) ls rest)) :
    W p l e R s m args below meth c H locs cells slots Q (F0 m pc ls (.null :: .int i :: .ref a :: rest)) := by
  obtain ⟨ws, hP, hD, hIn, hJn⟩ := hw
  obtain ⟨q0, ha'⟩ := hIn _ _ _ ha
  exact va_astqN hexec hb hK hP hD hS q0 t0 ha' ht hin hdg (fun H1 locs1 hP1 hD1 hS1 => kk H1 locs1 (wr_set hIn hJn ha ha' hP1 hD1) hS1)
theorem wr_newa0 (hexec : p.tables.exec = Jvm.exec) (hb : c.code = cc) {atype : ArrayType} (harr : (Cond.arrayClass (newarray.typeOf atype)).before args s = true) {ty : FieldType} (hty : newarray.typeOf atype = ty) (hK : va_K D cl tys s) (hw : wr D cl A Ew H) (hS : va_S A H0 H locs) (hA : ∀ q, H0.size ≤ q → A q) {n : Int32} {N' : Nat} {a0 : vp_A} (ha : ∀ cA : ClassId, vp_cell cA a0 = arrV cA N' (fun _ => defaultValue ty)) (hn : ¬ n < 0) (hN : n.toNatClampNeg = N') (hbytes : N' * componentBytes ty ≤ 536870912) (hcells : cells + 1 ≤ R.cells) (hslots : slots + N' ≤ R.slots) (hdg : decode cc pc = .ok (.newarray atype, 2)) (kn jn : Nat) (kk : ∀ (q : Nat) (cA : ClassId) (H1 : Heap), va_K D cl (tys ++ [(cA, ty)]) s → wr D cl A (w2 Ew kn jn (some (q, .inl (cA, a0)))) H1 → va_S A H0 H1 locs → W p l e R s m args below meth c H1 locs (cells + 1) (slots + N') Q (F0 m (pc + 2) ls (.ref q :: rest))) :
    W p l e R s m args below meth c H locs cells slots Q (F0 m pc ls (.int n :: rest)) := by
  obtain ⟨ws, hP, hD, hIn, hJn⟩ := hw
  exact va_newa hexec hb harr hty hK hP hD hS hA ha hn hN hbytes hcells hslots hdg (fun q cA H1 hK1 hP1 hD1 hS1 => kk q cA H1 hK1 (wr_push hIn hJn hP1 hD1) hS1)
theorem wr_newq0 (hexec : p.tables.exec = Jvm.exec) (hb : c.code = cc) {own C : String} {index : Nat} (hown : s.vm.findClass own = some m.cls) (hclink : (Cond.classLink own index C).before args s = true) (hover : va_AO C s) (hK : va_K D cl tys s) (hw : wr D cl A Ew H) (hS : va_S A H0 H locs) (hA : ∀ q, H0.size ≤ q → A q) {n : Int32} {N' : Nat} (hn : ¬ n < 0) (hN : n.toNatClampNeg = N') (hbytes : N' * 4 ≤ 536870912) (hcells : cells + 1 ≤ R.cells) (hslots : slots + N' ≤ R.slots) (hdg : decode cc pc = .ok (.anewarray index, 3)) (kn jn : Nat) (kk : ∀ (q : Nat) (cA : ClassId) (H1 : Heap), va_K D cl (tys ++ [(cA, .object C)]) s → wr D cl A (w2 Ew kn jn (some (q, .inl (cA, N', .inr (.inr (.inr (.inr (fun _ => none)))))))) H1 → va_S A H0 H1 locs → W p l e R s m args below meth c H1 locs (cells + 1) (slots + N') Q (F0 m (pc + 3) ls (.ref q :: rest))) :
    W p l e R s m args below meth c H locs cells slots Q (F0 m pc ls (.int n :: rest)) := by
  obtain ⟨ws, hP, hD, hIn, hJn⟩ := hw
  exact va_newq hexec hb hown hclink hover hK hP hD hS hA hn hN hbytes hcells hslots hdg (fun q cA H1 hK1 hP1 hD1 hS1 => kk q cA H1 hK1 (wr_push hIn hJn hP1 hD1) hS1)
theorem wr_new {c0 : Code} (hexec : p.tables.exec = Jvm.exec) (hb : c0.code = cc) {own C : String} {T : u_T} {N ci index : Nat} {Ts : List Cond} (hts : ∀ w ∈ Ts, w.before args s = true) (hin : ∀ w ∈ u_ws C T N, w ∈ Ts) (ty : Nat → FieldType) (hty : ∀ k, k < N → parseFieldDescriptor (T k).2.2.1 = some (ty k)) (hown : s.vm.findClass own = some m.cls) (hcl : (Cond.classLink own index C).before args s = true) (hinst : (Cond.instantiable C N).before args s = true) (hini : (Cond.initialized C).before args s = true) (hK : va_K D cl tys s) (hw : wr D cl A Ew H) (hS : va_S A H0 H locs) (hA : ∀ q, H0.size ≤ q → A q) (hc : cl[ci]? = some (C, T, N)) {fs : List Value} (hfs : ∀ j, j < N → defaultValue (ty j) = vp_V fs j) (hcells : cells + 1 ≤ R.cells) (hslots : slots + N ≤ R.slots) (hdg : decode cc pc = .ok (.new index, 3)) (kn jn : Nat) (kk : ∀ (q : Nat) (H1 : Heap), wr D cl A (w2 Ew kn jn (some (q, .inr (ci, fs)))) H1 → va_S A H0 H1 locs → W p l e R s m args below meth c0 H1 locs (cells + 1) (slots + N) Q (F0 m (pc + 3) ls (.ref q :: rest))) :
    W p l e R s m args below meth c0 H locs cells slots Q (F0 m pc ls rest) := by
  obtain ⟨ws, hP, hD, hIn, hJn⟩ := hw
  exact va_new hexec hb hts hin ty hty hown hcl hinst hini hK hP hD hS hA hc hfs hcells hslots hdg (fun q H1 hP1 hD1 hS1 => kk q H1 (wr_push hIn hJn hP1 hD1) hS1)
theorem wr_copyi {cc : ByteArray} (hexec : p.tables.exec = Jvm.exec) (hb : c.code = cc) (hml : c.maxLocals = ls.size) {own : String} {index : Nat} (hown : s.vm.findClass own = some m.cls) (hlink : (Cond.methodLink own index arraycopyName).before args s = true) (hnat : (Cond.native arraycopyName).before args s = true) (hstat : (Cond.static arraycopyName).before args s = true) (hini : (Cond.initialized "java/lang/System").before args s = true) (hK : va_K D cl tys s) (hw : wr D cl A Ew H) (hS : va_S A H0 H locs) (t0 t1 : Nat) {a0 : Nat} {c0 c1 : ClassId} {n0 n1 : Nat} {f g : Nat → Int32} {ty : FieldType} (k_q0 i_q0 : Nat) (ha0 : Ew k_q0 i_q0 = some (a0, .inl (c0, n0, .inl f))) (k_q1 i_q1 : Nat) (ha1 : Ew k_q1 i_q1 = some (a, .inl (c1, n1, .inl g))) (ht0 : tys[t0]? = some (c0, ty)) (ht1 : tys[t1]? = some (c1, ty)) (hprim : refKind ty = false) {sp dp n : Int32} (h1 : ¬ sp < 0) (h2 : ¬ dp < 0) (h3 : ¬ n < 0) (h4 : sp.toNatClampNeg + n.toNatClampNeg ≤ n0) (h5 : dp.toNatClampNeg + n.toNatClampNeg ≤ n1) (hfit : ∀ i, i < n.toNatClampNeg → fits ty (.int (f (sp.toNatClampNeg + i))) = true) (hframes : 1 ≤ R.frames) (hlocals : (rest.map fun v => v.category).sum + (nativeFrameWords "java/lang/System" "arraycopy" 5 + 11) ≤ R.locals) (hdg : decode cc pc = .ok (.invokestatic index, 3)) (kk : ∀ (H1 : Heap) (locs1 : List Loc), wr D cl A (w2 Ew k_q1 i_q1 (some (a, .inl (c1, n1, .inl (va_cpy f g sp.toNatClampNeg dp.toNatClampNeg n.toNatClampNeg))))) H1 → va_S A H0 H1 locs1 → W p l e R s m args below meth c H1 locs1 cells slots Q (F0 m (pc + 3) ls rest)) :
    W p l e R s m args below meth c H locs cells slots Q (F0 m pc ls (.int n :: .int dp :: .ref a :: .int sp :: .ref a0 :: rest)) := by
  obtain ⟨ws, hP, hD, hIn, hJn⟩ := hw
  obtain ⟨q0, ha0'⟩ := hIn _ _ _ ha0
  obtain ⟨q1, ha1'⟩ := hIn _ _ _ ha1
  exact va_copyi hexec hb hml hown hlink hnat hstat hini hK hP hD hS q0 q1 t0 t1 ha0' ha1' ht0 ht1 hprim h1 h2 h3 h4 h5 hfit hframes hlocals hdg (fun H1 locs1 hP1 hD1 hS1 => kk H1 locs1 (wr_set hIn hJn ha1 ha1' hP1 hD1) hS1)
theorem wr_copyl {cc : ByteArray} (hexec : p.tables.exec = Jvm.exec) (hb : c.code = cc) (hml : c.maxLocals = ls.size) {own : String} {index : Nat} (hown : s.vm.findClass own = some m.cls) (hlink : (Cond.methodLink own index arraycopyName).before args s = true) (hnat : (Cond.native arraycopyName).before args s = true) (hstat : (Cond.static arraycopyName).before args s = true) (hini : (Cond.initialized "java/lang/System").before args s = true) (hK : va_K D cl tys s) (hw : wr D cl A Ew H) (hS : va_S A H0 H locs) (t0 t1 : Nat) {a0 : Nat} {c0 c1 : ClassId} {n0 n1 : Nat} {f g : Nat → Int64} {ty : FieldType} (k_q0 i_q0 : Nat) (ha0 : Ew k_q0 i_q0 = some (a0, .inl (c0, n0, .inr (.inl f)))) (k_q1 i_q1 : Nat) (ha1 : Ew k_q1 i_q1 = some (a, .inl (c1, n1, .inr (.inl g)))) (ht0 : tys[t0]? = some (c0, ty)) (ht1 : tys[t1]? = some (c1, ty)) (hprim : refKind ty = false) {sp dp n : Int32} (h1 : ¬ sp < 0) (h2 : ¬ dp < 0) (h3 : ¬ n < 0) (h4 : sp.toNatClampNeg + n.toNatClampNeg ≤ n0) (h5 : dp.toNatClampNeg + n.toNatClampNeg ≤ n1) (hfit : ∀ i, i < n.toNatClampNeg → fits ty (.long (f (sp.toNatClampNeg + i))) = true) (hframes : 1 ≤ R.frames) (hlocals : (rest.map fun v => v.category).sum + (nativeFrameWords "java/lang/System" "arraycopy" 5 + 11) ≤ R.locals) (hdg : decode cc pc = .ok (.invokestatic index, 3)) (kk : ∀ (H1 : Heap) (locs1 : List Loc), wr D cl A (w2 Ew k_q1 i_q1 (some (a, .inl (c1, n1, .inr (.inl (va_cpy f g sp.toNatClampNeg dp.toNatClampNeg n.toNatClampNeg)))))) H1 → va_S A H0 H1 locs1 → W p l e R s m args below meth c H1 locs1 cells slots Q (F0 m (pc + 3) ls rest)) :
    W p l e R s m args below meth c H locs cells slots Q (F0 m pc ls (.int n :: .int dp :: .ref a :: .int sp :: .ref a0 :: rest)) := by
  obtain ⟨ws, hP, hD, hIn, hJn⟩ := hw
  obtain ⟨q0, ha0'⟩ := hIn _ _ _ ha0
  obtain ⟨q1, ha1'⟩ := hIn _ _ _ ha1
  exact va_copyl hexec hb hml hown hlink hnat hstat hini hK hP hD hS q0 q1 t0 t1 ha0' ha1' ht0 ht1 hprim h1 h2 h3 h4 h5 hfit hframes hlocals hdg (fun H1 locs1 hP1 hD1 hS1 => kk H1 locs1 (wr_set hIn hJn ha1 ha1' hP1 hD1) hS1)
theorem wr_copyq {cc : ByteArray} (hexec : p.tables.exec = Jvm.exec) (hb : c.code = cc) (hml : c.maxLocals = ls.size) {own : String} {index : Nat} (hown : s.vm.findClass own = some m.cls) (hlink : (Cond.methodLink own index arraycopyName).before args s = true) (hnat : (Cond.native arraycopyName).before args s = true) (hstat : (Cond.static arraycopyName).before args s = true) (hini : (Cond.initialized "java/lang/System").before args s = true) (hK : va_K D cl tys s) (hw : wr D cl A Ew H) (hS : va_S A H0 H locs) (t0 t1 : Nat) {a0 : Nat} {c0 c1 : ClassId} {n0 n1 : Nat} {f g : Nat → Option Nat} {E0 E1 C : String} (k_q0 i_q0 : Nat) (ha0 : Ew k_q0 i_q0 = some (a0, .inl (c0, n0, .inr (.inr (.inr (.inr f)))))) (k_q1 i_q1 : Nat) (ha1 : Ew k_q1 i_q1 = some (a, .inl (c1, n1, .inr (.inr (.inr (.inr g)))))) (ht0 : tys[t0]? = some (c0, .object E0)) (ht1 : tys[t1]? = some (c1, .object E1)) {sp dp n : Int32} (h1 : ¬ sp < 0) (h2 : ¬ dp < 0) (h3 : ¬ n < 0) (h4 : sp.toNatClampNeg + n.toNatClampNeg ≤ n0) (h5 : dp.toNatClampNeg + n.toNatClampNeg ≤ n1) (hel : ∀ i : Nat, i < n.toNatClampNeg → ∀ y : Nat, f (sp.toNatClampNeg + i) = some y → ∃ cellV : Cell, H[y]? = some cellV ∧ cellV.vm.isStatics = false ∧ s.vm.findClass C = some cellV.cls) (hasg : ∀ comp c0 : ClassId, s.vm.findClass E1 = some comp → s.vm.findClass C = some c0 → s.vm.assignable c0 comp = true) (hframes : 1 ≤ R.frames) (hlocals : (rest.map fun v => v.category).sum + (nativeFrameWords "java/lang/System" "arraycopy" 5 + 11) ≤ R.locals) (hdg : decode cc pc = .ok (.invokestatic index, 3)) (kk : ∀ (H1 : Heap) (locs1 : List Loc), wr D cl A (w2 Ew k_q1 i_q1 (some (a, .inl (c1, n1, .inr (.inr (.inr (.inr (va_cpy f g sp.toNatClampNeg dp.toNatClampNeg n.toNatClampNeg)))))))) H1 → va_S A H0 H1 locs1 → W p l e R s m args below meth c H1 locs1 cells slots Q (F0 m (pc + 3) ls rest)) :
    W p l e R s m args below meth c H locs cells slots Q (F0 m pc ls (.int n :: .int dp :: .ref a :: .int sp :: .ref a0 :: rest)) := by
  obtain ⟨ws, hP, hD, hIn, hJn⟩ := hw
  obtain ⟨q0, ha0'⟩ := hIn _ _ _ ha0
  obtain ⟨q1, ha1'⟩ := hIn _ _ _ ha1
  exact va_copyq hexec hb hml hown hlink hnat hstat hini hK hP hD hS q0 q1 t0 t1 ha0' ha1' ht0 ht1 h1 h2 h3 h4 h5 hel hasg hframes hlocals hdg (fun H1 locs1 hP1 hD1 hS1 => kk H1 locs1 (wr_set hIn hJn ha1 ha1' hP1 hD1) hS1)
end WRR
