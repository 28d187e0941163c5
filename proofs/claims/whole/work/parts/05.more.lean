def fd_0 : List AV := [vI 0, vR none, vR none, vR none, vR none, vR none, vR none, vR none, vI 0, vR none, vI 0, vI 0, vI 0]
theorem fs_0 : ∀ (ad : Ro → Nat) j, j < 13 → defaultValue (ty_0 j) = vp_V (fd_0.map (cv ad)) j := by
  intro ad j hj
  rcases (show j = 0 ∨ j = 1 ∨ j = 2 ∨ j = 3 ∨ j = 4 ∨ j = 5 ∨ j = 6 ∨ j = 7 ∨ j = 8 ∨ j = 9 ∨ j = 10 ∨ j = 11 ∨ j = 12 by omega) with rfl | rfl | rfl | rfl | rfl | rfl | rfl | rfl | rfl | rfl | rfl | rfl | rfl <;> rfl
theorem fl_0 : ∀ M : wM, ∀ v ∈ fd_0, lv1 M v := by
  intro M v hv r hr
  subst hr
  simp [fd_0] at hv
def fd_1 : List AV := [vI 0, vI 0, vI 0, vI 0, vI 0, vI 0, vR none]
theorem fs_1 : ∀ (ad : Ro → Nat) j, j < 7 → defaultValue (ty_1 j) = vp_V (fd_1.map (cv ad)) j := by
  intro ad j hj
  rcases (show j = 0 ∨ j = 1 ∨ j = 2 ∨ j = 3 ∨ j = 4 ∨ j = 5 ∨ j = 6 by omega) with rfl | rfl | rfl | rfl | rfl | rfl | rfl <;> rfl
theorem fl_1 : ∀ M : wM, ∀ v ∈ fd_1, lv1 M v := by
  intro M v hv r hr
  subst hr
  simp [fd_1] at hv
def fd_2 : List AV := [vR none, vI 0, vI 0]
theorem fs_2 : ∀ (ad : Ro → Nat) j, j < 3 → defaultValue (ty_2 j) = vp_V (fd_2.map (cv ad)) j := by
  intro ad j hj
  rcases (show j = 0 ∨ j = 1 ∨ j = 2 by omega) with rfl | rfl | rfl <;> rfl
theorem fl_2 : ∀ M : wM, ∀ v ∈ fd_2, lv1 M v := by
  intro M v hv r hr
  subst hr
  simp [fd_2] at hv
def fd_3 : List AV := [vR none, vI 0, vR none, vR none, vI 0, vR none, vI 0, vI 0]
theorem fs_3 : ∀ (ad : Ro → Nat) j, j < 8 → defaultValue (ty_3 j) = vp_V (fd_3.map (cv ad)) j := by
  intro ad j hj
  rcases (show j = 0 ∨ j = 1 ∨ j = 2 ∨ j = 3 ∨ j = 4 ∨ j = 5 ∨ j = 6 ∨ j = 7 by omega) with rfl | rfl | rfl | rfl | rfl | rfl | rfl | rfl <;> rfl
theorem fl_3 : ∀ M : wM, ∀ v ∈ fd_3, lv1 M v := by
  intro M v hv r hr
  subst hr
  simp [fd_3] at hv
def fd_4 : List AV := [vR none, vI 0, vI 0, vI 0]
theorem fs_4 : ∀ (ad : Ro → Nat) j, j < 4 → defaultValue (ty_4 j) = vp_V (fd_4.map (cv ad)) j := by
  intro ad j hj
  rcases (show j = 0 ∨ j = 1 ∨ j = 2 ∨ j = 3 by omega) with rfl | rfl | rfl | rfl <;> rfl
theorem fl_4 : ∀ M : wM, ∀ v ∈ fd_4, lv1 M v := by
  intro M v hv r hr
  subst hr
  simp [fd_4] at hv
def fd_5 : List AV := [vI 0, vI 0, vI 0, vI 0]
theorem fs_5 : ∀ (ad : Ro → Nat) j, j < 4 → defaultValue (ty_5 j) = vp_V (fd_5.map (cv ad)) j := by
  intro ad j hj
  rcases (show j = 0 ∨ j = 1 ∨ j = 2 ∨ j = 3 by omega) with rfl | rfl | rfl | rfl <;> rfl
theorem fl_5 : ∀ M : wM, ∀ v ∈ fd_5, lv1 M v := by
  intro M v hv r hr
  subst hr
  simp [fd_5] at hv
def fd_6 : List AV := [vR none, vR none]
theorem fs_6 : ∀ (ad : Ro → Nat) j, j < 2 → defaultValue (ty_6 j) = vp_V (fd_6.map (cv ad)) j := by
  intro ad j hj
  rcases (show j = 0 ∨ j = 1 by omega) with rfl | rfl <;> rfl
theorem fl_6 : ∀ M : wM, ∀ v ∈ fd_6, lv1 M v := by
  intro M v hv r hr
  subst hr
  simp [fd_6] at hv
def fd_7 : List AV := [vI 0, vI 0, vR none, vI 0, vI 0, vI 0]
theorem fs_7 : ∀ (ad : Ro → Nat) j, j < 6 → defaultValue (ty_7 j) = vp_V (fd_7.map (cv ad)) j := by
  intro ad j hj
  rcases (show j = 0 ∨ j = 1 ∨ j = 2 ∨ j = 3 ∨ j = 4 ∨ j = 5 by omega) with rfl | rfl | rfl | rfl | rfl | rfl <;> rfl
theorem fl_7 : ∀ M : wM, ∀ v ∈ fd_7, lv1 M v := by
  intro M v hv r hr
  subst hr
  simp [fd_7] at hv
def fd_8 : List AV := [vR none, vI 0, vI 0]
theorem fs_8 : ∀ (ad : Ro → Nat) j, j < 3 → defaultValue (ty_8 j) = vp_V (fd_8.map (cv ad)) j := by
  intro ad j hj
  rcases (show j = 0 ∨ j = 1 ∨ j = 2 by omega) with rfl | rfl | rfl <;> rfl
theorem fl_8 : ∀ M : wM, ∀ v ∈ fd_8, lv1 M v := by
  intro M v hv r hr
  subst hr
  simp [fd_8] at hv
def fd_9 : List AV := [vI 0, vR none, vR none, vR none, vR none, vR none, vR none, vR none, vR none, vR none, vR none, vR none, vR none, vR none, vI 0, vI 0, vR none, vR none, vR none, vR none, vR none, vR none, vR none, vI 0, vI 0, vI 0, vR none, vR none, vR none, vR none, vR none, vR none, vR none]
theorem fs_9 : ∀ (ad : Ro → Nat) j, j < 33 → defaultValue (ty_9 j) = vp_V (fd_9.map (cv ad)) j := by
  intro ad j hj
  rcases (show j = 0 ∨ j = 1 ∨ j = 2 ∨ j = 3 ∨ j = 4 ∨ j = 5 ∨ j = 6 ∨ j = 7 ∨ j = 8 ∨ j = 9 ∨ j = 10 ∨ j = 11 ∨ j = 12 ∨ j = 13 ∨ j = 14 ∨ j = 15 ∨ j = 16 ∨ j = 17 ∨ j = 18 ∨ j = 19 ∨ j = 20 ∨ j = 21 ∨ j = 22 ∨ j = 23 ∨ j = 24 ∨ j = 25 ∨ j = 26 ∨ j = 27 ∨ j = 28 ∨ j = 29 ∨ j = 30 ∨ j = 31 ∨ j = 32 by omega) with rfl | rfl | rfl | rfl | rfl | rfl | rfl | rfl | rfl | rfl | rfl | rfl | rfl | rfl | rfl | rfl | rfl | rfl | rfl | rfl | rfl | rfl | rfl | rfl | rfl | rfl | rfl | rfl | rfl | rfl | rfl | rfl | rfl <;> rfl
theorem fl_9 : ∀ M : wM, ∀ v ∈ fd_9, lv1 M v := by
  intro M v hv r hr
  subst hr
  simp [fd_9] at hv
theorem nfO {C : String} {o : Option Ro} : ∀ ad : Ro → Nat, narrow (.object C) (cv ad (vR o)) = cv ad (vR o) ∧ fits (.object C) (cv ad (vR o)) = true := by
  intro ad
  cases o <;> exact ⟨rfl, rfl⟩
theorem nfA {t : FieldType} {o : Option Ro} : ∀ ad : Ro → Nat, narrow (.array t) (cv ad (vR o)) = cv ad (vR o) ∧ fits (.array t) (cv ad (vR o)) = true := by
  intro ad
  cases o <;> exact ⟨rfl, rfl⟩
theorem nfZ {x : Int32} (h : x = 0 ∨ x = 1) : ∀ ad : Ro → Nat, narrow .boolean (cv ad (vI x)) = cv ad (vI x) ∧ fits .boolean (cv ad (vI x)) = true := by
  intro ad
  rcases h with rfl | rfl <;> exact ⟨rfl, rfl⟩
theorem gI.mono {M : wM} {o : Option Ro} {ci k : Nat} {K K2 : Int32 → Prop} (h : gI M o ci k K) (f : ∀ x, K x → K2 x) : gI M o ci k K2 := by
  obtain ⟨r, fs, x, h1, h2, h3, h4⟩ := h
  exact ⟨r, fs, x, h1, h2, h3, f _ h4⟩
theorem gL.mono {M : wM} {o : Option Ro} {ci k : Nat} {K K2 : Int64 → Prop} (h : gL M o ci k K) (f : ∀ x, K x → K2 x) : gL M o ci k K2 := by
  obtain ⟨r, fs, x, h1, h2, h3, h4⟩ := h
  exact ⟨r, fs, x, h1, h2, h3, f _ h4⟩
theorem gR.mono {M : wM} {o : Option Ro} {ci k : Nat} {K K2 : Option Ro → Prop} (h : gR M o ci k K) (f : ∀ x, K x → K2 x) : gR M o ci k K2 := by
  obtain ⟨r, fs, x, h1, h2, h3, h4⟩ := h
  exact ⟨r, fs, x, h1, h2, h3, f _ h4⟩
theorem pF.mono {M : wM} {o : Option Ro} {ci k : Nat} {v : AV} {K K2 : wM → Prop} (h : pF M o ci k v K) (f : ∀ x, K x → K2 x) : pF M o ci k v K2 := by
  obtain ⟨r, fs, h1, h2, h3, h4⟩ := h
  exact ⟨r, fs, h1, h2, h3, f _ h4⟩
theorem lI.mono {M : wM} {o : Option Ro} {x : Int32} {K K2 : Int32 → Prop} (h : lI M o x K) (f : ∀ x, K x → K2 x) : lI M o x K2 := by
  obtain ⟨r, n, g, h1, h2, h3, h4⟩ := h
  exact ⟨r, n, g, h1, h2, h3, f _ h4⟩
theorem lZ.mono {M : wM} {o : Option Ro} {x : Int32} {K K2 : Int32 → Prop} (h : lZ M o x K) (f : ∀ x, K x → K2 x) : lZ M o x K2 := by
  obtain ⟨r, n, g, h1, h2, h3, h4⟩ := h
  exact ⟨r, n, g, h1, h2, h3, f _ h4⟩
theorem lL.mono {M : wM} {o : Option Ro} {x : Int32} {K K2 : Int64 → Prop} (h : lL M o x K) (f : ∀ x, K x → K2 x) : lL M o x K2 := by
  obtain ⟨r, n, g, h1, h2, h3, h4⟩ := h
  exact ⟨r, n, g, h1, h2, h3, f _ h4⟩
theorem lR.mono {M : wM} {o : Option Ro} {x : Int32} {K K2 : Option Ro → Prop} (h : lR M o x K) (f : ∀ x, K x → K2 x) : lR M o x K2 := by
  obtain ⟨r, t, n, g, C, h1, h2, h3, h4, h5⟩ := h
  exact ⟨r, t, n, g, C, h1, h2, h3, h4, f _ h5⟩
theorem sI.mono {M : wM} {o : Option Ro} {x : Int32} {v : Int32} {K K2 : wM → Prop} (h : sI M o x v K) (f : ∀ x, K x → K2 x) : sI M o x v K2 := by
  obtain ⟨r, n, g, h1, h2, h3, h4⟩ := h
  exact ⟨r, n, g, h1, h2, h3, f _ h4⟩
theorem sZ.mono {M : wM} {o : Option Ro} {x : Int32} {v : Int32} {K K2 : wM → Prop} (h : sZ M o x v K) (f : ∀ x, K x → K2 x) : sZ M o x v K2 := by
  obtain ⟨r, n, g, h1, h2, h3, h4⟩ := h
  exact ⟨r, n, g, h1, h2, h3, f _ h4⟩
theorem sL.mono {M : wM} {o : Option Ro} {x : Int32} {v : Int64} {K K2 : wM → Prop} (h : sL M o x v K) (f : ∀ x, K x → K2 x) : sL M o x v K2 := by
  obtain ⟨r, n, g, h1, h2, h3, h4⟩ := h
  exact ⟨r, n, g, h1, h2, h3, f _ h4⟩
theorem sR.mono {M : wM} {o : Option Ro} {x : Int32} {v : Option Ro} {K K2 : wM → Prop} (h : sR M o x v K) (f : ∀ x, K x → K2 x) : sR M o x v K2 := by
  obtain ⟨r, t, n, g, C, h1, h2, h3, h4, h5, h6⟩ := h
  exact ⟨r, t, n, g, C, h1, h2, h3, h4, h5, f _ h6⟩
theorem aN.mono {M : wM} {o : Option Ro} {K K2 : Int32 → Prop} (h : aN M o K) (f : ∀ x, K x → K2 x) : aN M o K2 := by
  obtain ⟨r, t, n, g, h1, h2, h3, h4⟩ := h
  exact ⟨r, t, n, g, h1, h2, h3, f _ h4⟩
theorem nA.mono {M : wM} {x : Int32} {bd : Nat} {e : Nat → AE} {K K2 : Option Ro → wM → Prop} (h : nA M x bd e K) (f : ∀ x y, K x y → K2 x y) : nA M x bd e K2 := by
  obtain ⟨h1, h2, r, h3, h4, h5⟩ := h
  exact ⟨h1, h2, r, h3, h4, f _ _ h5⟩
theorem nO.mono {M : wM} {ci : Nat} {fs : List AV} {K K2 : Option Ro → wM → Prop} (h : nO M ci fs K) (f : ∀ x y, K x y → K2 x y) : nO M ci fs K2 := by
  obtain ⟨r, h3, h4, h5⟩ := h
  exact ⟨r, h3, h4, f _ _ h5⟩
theorem cpI.mono {M : wM} {o1 o2 : Option Ro} {sp dp n : Int32} {K K2 : wM → Prop} (h : cpI M o1 sp o2 dp n K) (f : ∀ x, K x → K2 x) : cpI M o1 sp o2 dp n K2 := by
  obtain ⟨r1, r2, n1, n2, a, b, h1, h2, h3, h4, h5, h6, h7, h8, h9, h10, h11, h12⟩ := h
  exact ⟨r1, r2, n1, n2, a, b, h1, h2, h3, h4, h5, h6, h7, h8, h9, h10, h11, f _ h12⟩
theorem cpL.mono {M : wM} {o1 o2 : Option Ro} {sp dp n : Int32} {K K2 : wM → Prop} (h : cpL M o1 sp o2 dp n K) (f : ∀ x, K x → K2 x) : cpL M o1 sp o2 dp n K2 := by
  obtain ⟨r1, r2, n1, n2, a, b, h1, h2, h3, h4, h5, h6, h7, h8, h9, h10, h11, h12⟩ := h
  exact ⟨r1, r2, n1, n2, a, b, h1, h2, h3, h4, h5, h6, h7, h8, h9, h10, h11, f _ h12⟩
theorem cpR.mono {M : wM} {o1 o2 : Option Ro} {sp dp n : Int32} {K K2 : wM → Prop} (h : cpR M o1 sp o2 dp n K) (f : ∀ x, K x → K2 x) : cpR M o1 sp o2 dp n K2 := by
  obtain ⟨r1, r2, t1, t2, n1, n2, ci, a, b, q, E1, E2, h1, h2, h3, h4, h5, h6, h7, h8, h9, h10, h11, h12, h13, h14, h15, h16, h17⟩ := h
  exact ⟨r1, r2, t1, t2, n1, n2, ci, a, b, q, E1, E2, h1, h2, h3, h4, h5, h6, h7, h8, h9, h10, h11, h12, h13, h14, h15, h16, f _ h17⟩
