theorem ao_in : ∀ C ∈ aoL, Cond.arrayOver (.object C) ∈ lw_tbl := by decide +kernel
/-! the start: from the law's entry to the abstract machine, for a heap of nothing but what no method writes -/
def M00 : wM := fun r => if r = (90, 0) then some eE else if r = (91, 0) then some eM else if r = (92, 0) then some eX else none
theorem M00_cl : clM M00 := by
  intro r e h
  unfold M00 at h
  by_cases h0 : r = (90, 0)
  · rw [if_pos h0] at h
    cases h
    exact Or.inr (Or.inl ⟨h0, rfl⟩)
  · rw [if_neg h0] at h
    by_cases h1 : r = (91, 0)
    · rw [if_pos h1] at h
      cases h
      exact Or.inr (Or.inr (Or.inl ⟨h1, rfl⟩))
    · rw [if_neg h1] at h
      by_cases h2 : r = (92, 0)
      · rw [if_pos h2] at h
        cases h
        exact Or.inr (Or.inr (Or.inr ⟨h2, rfl⟩))
      · rw [if_neg h2] at h
        exact nomatch h
theorem M00_none {k i : Nat} (hk : k < 90) : M00 (k, i) = none := by
  have n0 : ((k, i) : Ro) ≠ (90, 0) := fun h => by cases h; exact absurd hk (by decide)
  have n1 : ((k, i) : Ro) ≠ (91, 0) := fun h => by cases h; exact absurd hk (by decide)
  have n2 : ((k, i) : Ro) ≠ (92, 0) := fun h => by cases h; exact absurd hk (by decide)
  unfold M00
  rw [if_neg n0, if_neg n1, if_neg n2]
set_option maxRecDepth 20000 in
theorem start_C {A : Array Value} {s : State} (hts : ∀ w ∈ lw_tbl, w.before A s = true) : ∃ D : va_G, ∀ (c : Nat) (q : vw_C), classes[c]? = some q → u_Kn s q.1 q.2.1 q.2.2 (D.1 c) (D.2 c) := by
  obtain ⟨c0, i0, k0⟩ := u_known (C := "PartitionedProcedureStore") (T := T_0) (N := 13) (n := 13) hts (fun w h => TBL_lw (in_0 w h)) (hts (.instantiable "PartitionedProcedureStore" 13) (by decide +kernel))
  obtain ⟨c1, i1, k1⟩ := u_known (C := "PartitionedProcedureStore$Client") (T := T_1) (N := 7) (n := 7) hts (fun w h => TBL_lw (in_1 w h)) (hts (.instantiable "PartitionedProcedureStore$Client" 7) (by decide +kernel))
  obtain ⟨c2, i2, k2⟩ := u_known (C := "PartitionedProcedureStore$Procedure") (T := T_2) (N := 3) (n := 3) hts (fun w h => TBL_lw (in_2 w h)) (hts (.instantiable "PartitionedProcedureStore$Procedure" 3) (by decide +kernel))
  obtain ⟨c3, i3, k3⟩ := u_known (C := "PartitionedProcedureStore$Runner") (T := T_3) (N := 8) (n := 8) hts (fun w h => TBL_lw (in_3 w h)) (hts (.instantiable "PartitionedProcedureStore$Runner" 8) (by decide +kernel))
  obtain ⟨c4, i4, k4⟩ := u_known (C := "PartitionedProcedureStore$Site") (T := T_4) (N := 4) (n := 4) hts (fun w h => TBL_lw (in_4 w h)) (hts (.instantiable "PartitionedProcedureStore$Site" 4) (by decide +kernel))
  obtain ⟨c5, i5, k5⟩ := u_known (C := "PartitionedProcedureStore$Statement") (T := T_5) (N := 4) (n := 4) hts (fun w h => TBL_lw (in_5 w h)) (hts (.instantiable "PartitionedProcedureStore$Statement" 4) (by decide +kernel))
  obtain ⟨c6, i6, k6⟩ := u_known (C := "PartitionedProcedureStore$Table") (T := T_6) (N := 2) (n := 2) hts (fun w h => TBL_lw (in_6 w h)) (hts (.instantiable "PartitionedProcedureStore$Table" 2) (by decide +kernel))
  obtain ⟨c7, i7, k7⟩ := u_known (C := "PartitionedProcedureStore$Task") (T := T_7) (N := 6) (n := 6) hts (fun w h => TBL_lw (in_7 w h)) (hts (.instantiable "PartitionedProcedureStore$Task" 6) (by decide +kernel))
  obtain ⟨c8, i8, k8⟩ := u_known (C := "java/util/ArrayList") (T := T_8) (N := 3) (n := 3) hts (fun w h => TBL_lw (in_8 w h)) (hts (.instantiable "java/util/ArrayList" 3) (by decide +kernel))
  obtain ⟨c9, i9, k9⟩ := u_known (C := "PartitionedProcedureStoreModel") (T := T_9) (N := 33) (n := 33) hts (fun w h => TBL_lw (in_9 w h)) (hts (.instantiable "PartitionedProcedureStoreModel" 33) (by decide +kernel))
  refine ⟨(fun k => [c0, c1, c2, c3, c4, c5, c6, c7, c8, c9].getD k c0, fun k => [i0, i1, i2, i3, i4, i5, i6, i7, i8, i9].getD k i0), ?_⟩
  intro k q hq
  match k, hq with
  | 0, hq => cases hq; exact k0
  | 1, hq => cases hq; exact k1
  | 2, hq => cases hq; exact k2
  | 3, hq => cases hq; exact k3
  | 4, hq => cases hq; exact k4
  | 5, hq => cases hq; exact k5
  | 6, hq => cases hq; exact k6
  | 7, hq => cases hq; exact k7
  | 8, hq => cases hq; exact k8
  | 9, hq => cases hq; exact k9
  | k + 10, hq => simp [classes] at hq
theorem arr_prim {A : Array Value} {s : State} {ty : FieldType} (h : (Cond.arrayClass ty).before A s = true) (hr : ∀ c, s.vm.findClass ("[" ++ ty.toString) = some c → va_RA s c ty) : ∃ c : ClassId, ArrOfT s c ty ∧ va_RA s c ty := by
  obtain ⟨cA, kA, comp, hf, hk, hkind⟩ := Cond.arrayClass_spec h
  exact ⟨cA, fun n z => ⟨fun k h => (by cases h), kA, hk, comp, hkind⟩, hr cA hf⟩
theorem arr_obj {A : Array Value} {s : State} {C : String} (h : (Cond.arrayOver (.object C)).before A s = true) : ∃ c : ClassId, ArrOfT s c (.object C) ∧ va_RA s c (.object C) := by
  obtain ⟨comp, c, k, h1, h2, h3, h4, h5⟩ := Cond.arrayOver_spec h
  exact ⟨c, fun n z => ⟨fun k h => (by cases h), k, h3, comp, h4⟩, k, comp, h3, h4, h1, h5⟩
set_option maxRecDepth 20000 in
theorem start_A {A : Array Value} {s : State} (hts : ∀ w ∈ lw_tbl, w.before A s = true) : ∃ dA : Nat → ClassId, ∀ (t : Nat) (ty : FieldType), aT[t]? = some ty → ArrOfT s (dA t) ty ∧ va_RA s (dA t) ty := by
  obtain ⟨c0, h0⟩ := arr_prim (hts (.arrayClass .int) (by decide +kernel)) (fun _ h => h)
  obtain ⟨c1, h1⟩ := arr_prim (hts (.arrayClass .long) (by decide +kernel)) (fun _ h => h)
  obtain ⟨c2, h2⟩ := arr_prim (hts (.arrayClass .boolean) (by decide +kernel)) (fun _ h => h)
  obtain ⟨c3, h3⟩ := arr_obj (hts (.arrayOver (.object "java/lang/Object")) (by decide +kernel))
  obtain ⟨c4, h4⟩ := arr_obj (hts (.arrayOver (.object "PartitionedProcedureStore$Procedure")) (by decide +kernel))
  obtain ⟨c5, h5⟩ := arr_obj (hts (.arrayOver (.object "PartitionedProcedureStore$Client")) (by decide +kernel))
  obtain ⟨c6, h6⟩ := arr_obj (hts (.arrayOver (.object "PartitionedProcedureStore$Site")) (by decide +kernel))
  refine ⟨fun k => [c0, c1, c2, c3, c4, c5, c6].getD k c0, ?_⟩
  intro t ty ht
  match t, ht with
  | 0, ht => cases ht; exact h0
  | 1, ht => cases ht; exact h1
  | 2, ht => cases ht; exact h2
  | 3, ht => cases ht; exact h3
  | 4, ht => cases ht; exact h4
  | 5, ht => cases ht; exact h5
  | 6, ht => cases ht; exact h6
  | t + 7, ht => simp [aT] at ht
theorem start_K {A : Array Value} {s : State} (hts : ∀ w ∈ lw_tbl, w.before A s = true) : ∃ (D : va_G) (dA : Nat → ClassId), va_K D classes (tysA dA) s := by
  obtain ⟨D, hD⟩ := start_C hts
  obtain ⟨dA, hA⟩ := start_A hts
  refine ⟨D, dA, hD, fun k q hq => ?_⟩
  unfold tysA at hq
  rw [List.getElem?_mapIdx] at hq
  cases ht : aT[k]? with
  | none => rw [ht] at hq; exact nomatch hq
  | some ty =>
    rw [ht] at hq
    cases hq
    exact hA k ty ht
set_option maxRecDepth 20000 in
theorem start_S {b : Nat} {s : State} {L : Nat} {xs : Nat → Int32} (hts : ∀ w ∈ lw_tbl, w.before #[Value.ref b] s = true) (hgv : (Jvm.Cond.and given_1 narrow_1).before #[Value.ref b] s = true) (hX : va_X b L xs s s.heap) (hbl : b < s.heap.size) : ∃ z1 z2 : Nat, gStat s.heap.size (z1, z2, b, L, xs) s := by
  have hs := flat_of_before _ hgv
  have hA : ∀ a : Nat, a < s.heap.size → ¬ wA s.heap.size a := fun a h g => absurd h (Nat.not_lt.mpr g)
  obtain ⟨t, ht, hT⟩ := va_Tof (N := 0) (f := fun _ => .null) (A := wA s.heap.size) (by decide) (hs (.arrayOf (.static gsC gsN gsD) (.object "java/lang/Object")) (by decide +kernel)) (va_eqt (hs (.eq (.length (.static gsC gsN gsD)) (.int 0)) (by decide +kernel))) (fun j hj => absurd hj (Nat.not_lt_zero _)) hA
  have hZ := va_Zref (A := wA s.heap.size) (hts (.laysStatic gsC gsN gsD) (by decide +kernel)) (hts (.initialized gsC) (by decide +kernel)) ht hA
  obtain ⟨mi, hM⟩ := va_Mi.of (hs (.isRef (.mirror gsD)) (by decide +kernel))
  refine ⟨t, mi, hZ, hT, hM, trivial, ?_, hX, hbl, hA b hbl⟩
  intro C hC
  exact hts _ (ao_in C hC)
/-- the whole, out of the law's steps -/
theorem start_W {p : Program} {e : Env} {s : State} {m : MethodId} {below : List Frame} {meth : Method} {c : Code} (l : Launch) {b L : Nat} {xs : Nat → Int32} (hp : ∀ z1 z2 b : Nat, wp_law (z1, z2, b, L, xs) (some (92, 0)) M00) (C0 : lw_At p s m meth c b L xs) : W p l e room_1 s m #[Value.ref b] below meth c s.heap [] 0 0 (lw_Z below #[Value.ref b] s) (entryFrame m ([Value.ref b] : List Value).toArray 4) := by
  obtain ⟨hx, hb, hr, hml, hown, hts, hX, hbl, hlocks, hgv⟩ := C0
  obtain ⟨D, dA, hK⟩ := start_K hts
  obtain ⟨z1, z2, hst⟩ := start_S hts hgv hX hbl
  have X : Cx p s m #[Value.ref b] meth c code 4 R_L TBL D dA s.heap.size (z1, z2, b, L, xs) := ⟨hx, hb, hml, hown, fun w h => hts w (TBL_lw h), ⟨hK, Nat.le_refl _, hst, fun w hw => va_Nw.of (nestW_tab w hw) (hts w (nestW_in w hw))⟩, hlocks⟩
  have hl := lv_entry ([.ref b]) (n := 4) (Nat.le_of_ble_eq_true rfl)
  rw [lg_entry_eq]
  have ad : ∃ ad : Ro → Nat, ad (90, 0) = z1 ∧ ad (91, 0) = z2 ∧ ad (92, 0) = b := ⟨fun r => if r = (90, 0) then z1 else if r = (91, 0) then z2 else b, by simp, by simp, by simp⟩
  obtain ⟨ad, ha⟩ := ad
  have hW : WA D dA s.heap.size (z1, z2, b, L, xs) ad M00 s.heap := by
    refine ⟨?_, M00_cl, ha, rfl, rfl, rfl⟩
    have : cW dA ad M00 = fun _ _ => none := by
      funext k i
      unfold cW
      by_cases hk : k < 90
      · rw [if_pos hk, M00_none hk]
        rfl
      · rw [if_neg hk]
    rw [this]
    exact wr_nil
  have h92 : lv1 M00 (vR (some (92, 0))) := lv1_R (e := eX) rfl
  exact sd_law_0 (ad0 := ad) (M0 := M00) X hr (hp z1 z2 b) ad s.heap [] _ (fun _ _ => rfl) sb_rf hW va_S.rf (by
    show lv_has _ 4 [(0, va_rf (some (ad (92, 0))))]
    rw [ha.2.2]
    exact hl) (fun q hq => by
      rcases List.mem_cons.mp hq with g | g
      · rw [g]
        exact h92
      · exact nomatch g) lvS_nil
