/-! abstract values: ints, longs, references to roles; abstract cells; the abstract heap -/
abbrev Ro : Type := Nat × Nat
/-- addresses that no method writes: the empty array, the class object, the script (its length, its ints) -/
abbrev ZT : Type := Nat × Nat × Nat × Nat × (Nat → Int32)
abbrev AV : Type := Int32 ⊕ Int64 ⊕ Option Ro
abbrev AC : Type := (Nat → Int32) ⊕ (Nat → Int64) ⊕ (Nat → Option Ro)
abbrev AE : Type := (Nat × List AV) ⊕ (Nat × Nat × AC)
abbrev wM : Type := Ro → Option AE
abbrev vI (x : Int32) : AV := Sum.inl x
abbrev vL (x : Int64) : AV := Sum.inr (Sum.inl x)
abbrev vR (x : Option Ro) : AV := Sum.inr (Sum.inr x)
abbrev ob (ci : Nat) (fs : List AV) : AE := Sum.inl (ci, fs)
abbrev ai (t n : Nat) (f : Nat → Int32) : AE := Sum.inr (t, n, Sum.inl f)
abbrev al (t n : Nat) (f : Nat → Int64) : AE := Sum.inr (t, n, Sum.inr (Sum.inl f))
abbrev ar (t n : Nat) (f : Nat → Option Ro) : AE := Sum.inr (t, n, Sum.inr (Sum.inr f))
def up (M : wM) (r : Ro) (e : AE) : wM := fun q => if q = r then some e else M q
theorem up_s {M : wM} {r : Ro} {e : AE} : up M r e r = some e := by simp [up]
theorem up_n {M : wM} {r q : Ro} {e : AE} (h : q ≠ r) : up M r e q = M q := by simp [up, h]
theorem up_up {M : wM} {r : Ro} {e e' : AE} : up (up M r e) r e' = up M r e' := by
  funext q
  by_cases h : q = r <;> simp [up, h]
theorem up_id {M : wM} {r : Ro} {e : AE} (h : M r = some e) : up M r e = M := by
  funext q
  by_cases g : q = r
  · rw [g, up_s, h]
  · rw [up_n g]
theorem up_ex {M : wM} {r q : Ro} {e e' : AE} (h : q ≠ r) : up (up M r e) q e' = up (up M q e') r e := by
  funext z
  by_cases g : z = r
  · have : z ≠ q := fun k => h (k.symm.trans g)
    rw [up_n this, g, up_s, up_s]
  · by_cases g2 : z = q
    · rw [g2, up_s, up_n h, up_s]
    · rw [up_n g2, up_n g, up_n g, up_n g2]
def cv (ad : Ro → Nat) (v : AV) : Value := match v with
  | .inl x => .int x
  | .inr (.inl x) => .long x
  | .inr (.inr r) => va_rf (r.map ad)
def acat (v : AV) : Nat := match v with
  | .inl _ => 1
  | .inr (.inl _) => 2
  | .inr (.inr _) => 1
theorem cv_cat (ad : Ro → Nat) (v : AV) : (cv ad v).category = acat v := by
  rcases v with x | x | r
  · rfl
  · rfl
  · cases r <;> rfl
def cvA (ad : Ro → Nat) (f : AC) : (Nat → Int32) ⊕ (Nat → Int64) ⊕ (Nat → UInt32) ⊕ (Nat → UInt64) ⊕ (Nat → Option Nat) := match f with
  | .inl f => .inl f
  | .inr (.inl f) => .inr (.inl f)
  | .inr (.inr f) => .inr (.inr (.inr (.inr (fun j => (f j).map ad))))
def cvE (dA : Nat → ClassId) (ad : Ro → Nat) (e : AE) : va_E := match e with
  | .inl o => .inr (o.1, o.2.map (cv ad))
  | .inr a => .inl (dA a.1, a.2.1, cvA ad a.2.2)
def cW (dA : Nat → ClassId) (ad : Ro → Nat) (M : wM) : wE := fun k i => if k < 90 then (M (k, i)).map (fun e => (ad (k, i), cvE dA ad e)) else none
/-- a reference is to a role that is there -/
def lv1 (M : wM) (v : AV) : Prop := ∀ r, v = vR (some r) → M r ≠ none
def okE (M : wM) (e : AE) : Prop := match e with
  | .inl o => ∀ v ∈ o.2, lv1 M v
  | .inr a => a.1 < aT.length ∧ match a.2.2 with
    | .inl _ => True
    | .inr (.inl _) => True
    | .inr (.inr f) => ∀ j, lv1 M (vR (f j))
def eE : AE := ar 3 0 (fun _ => none)
def eM : AE := ai 99 0 (fun _ => 0)
def eX : AE := ai 98 0 (fun _ => 0)
def clM (M : wM) : Prop := ∀ r e, M r = some e → (okE M e ∧ r.1 < 90) ∨ (r = (90, 0) ∧ e = eE) ∨ (r = (91, 0) ∧ e = eM) ∨ (r = (92, 0) ∧ e = eX)
def wA (B : Nat) : Nat → Prop := fun q => B ≤ q
def WA (D : va_G) (dA : Nat → ClassId) (B : Nat) (zE : ZT) (ad : Ro → Nat) (M : wM) (H : Heap) : Prop := wr D classes (wA B) (cW dA ad M) H ∧ clM M ∧ (ad (90, 0) = zE.1 ∧ ad (91, 0) = zE.2.1 ∧ ad (92, 0) = zE.2.2.1) ∧ (M (90, 0) = some eE ∧ M (91, 0) = some eM ∧ M (92, 0) = some eX)
def tysA (dA : Nat → ClassId) : List (ClassId × FieldType) := aT.mapIdx (fun t ty => (dA t, ty))
theorem tysA_at {dA : Nat → ClassId} {t : Nat} {ty : FieldType} (h : aT[t]? = some ty) : (tysA dA)[t]? = some (dA t, ty) := by
  unfold tysA
  rw [List.getElem?_mapIdx, h]
  rfl
def xt (M : wM) (ad ad' : Ro → Nat) : Prop := ∀ r, M r ≠ none → ad' r = ad r
def sb (M M' : wM) : Prop := ∀ r, M r ≠ none → M' r ≠ none
theorem sb_rf {M : wM} : sb M M := fun _ h => h
theorem sb_up {M M' : wM} {r : Ro} {e : AE} (h : sb M M') : sb M (up M' r e) := fun q hq => by
  by_cases g : q = r
  · rw [g, up_s]
    exact fun k => nomatch k
  · rw [up_n g]
    exact h q hq
theorem sb_up1 {M : wM} {r : Ro} {e : AE} : sb M (up M r e) := sb_up sb_rf
theorem sb_tr {M M1 M2 : wM} (h : sb M M1) (h1 : sb M1 M2) : sb M M2 := fun q hq => h1 q (h q hq)
theorem lv1_I {M : wM} {x : Int32} : lv1 M (vI x) := fun _ h => nomatch h
theorem lv1_L {M : wM} {x : Int64} : lv1 M (vL x) := fun _ h => nomatch h
theorem lv1_N {M : wM} : lv1 M (vR none) := fun _ h => nomatch h
theorem lv1_R {M : wM} {r : Ro} {e : AE} (h : M r = some e) : lv1 M (vR (some r)) := fun q hq => by
  cases hq
  rw [h]
  exact fun k => nomatch k
theorem lv1.sb {M M' : wM} {v : AV} (h : lv1 M v) (hs : sb M M') : lv1 M' v := fun r hr => hs r (h r hr)
theorem okE.sb {M M' : wM} {e : AE} (h : okE M e) (hs : sb M M') : okE M' e := by
  rcases e with x | ⟨t, n, f | f | f⟩
  · exact fun v hv => (h v hv).sb hs
  · exact h
  · exact h
  · exact ⟨h.1, fun j => (h.2 j).sb hs⟩
theorem clM.up {M : wM} {r : Ro} {e : AE} (h : clM M) (hr : r.1 < 90) (he : okE (up M r e) e) : clM (up M r e) := fun q x hq => by
  by_cases g : q = r
  · rw [g, up_s] at hq
    cases hq
    exact Or.inl ⟨he, g ▸ hr⟩
  · rw [up_n g] at hq
    rcases h q x hq with k | k
    · exact Or.inl ⟨k.1.sb sb_up1, k.2⟩
    · exact Or.inr k
theorem clM.ok {M : wM} {r : Ro} {e : AE} (h : clM M) (hM : M r = some e) (hr : r.1 < 90) : okE M e := by
  rcases h r e hM with k | k | k | k
  · exact k.1
  · rw [k.1] at hr
    exact absurd hr (by decide)
  · rw [k.1] at hr
    exact absurd hr (by decide)
  · rw [k.1] at hr
    exact absurd hr (by decide)
theorem clM.okO {M : wM} {r : Ro} {ci : Nat} {fs : List AV} (h : clM M) (hM : M r = some (ob ci fs)) : okE M (ob ci fs) ∧ r.1 < 90 := by
  rcases h r _ hM with k | k | k | k
  · exact k
  · exact nomatch k.2
  · exact nomatch k.2
  · exact nomatch k.2
theorem cv_xt {M : wM} {ad ad' : Ro → Nat} (hx : xt M ad ad') {v : AV} (hv : lv1 M v) : cv ad' v = cv ad v := by
  rcases v with x | x | r
  · rfl
  · rfl
  · cases r with
    | none => rfl
    | some r => show va_rf (some (ad' r)) = va_rf (some (ad r)); rw [hx r (hv r rfl)]
theorem cvs_xt {M : wM} {ad ad' : Ro → Nat} (hx : xt M ad ad') {st : List AV} (hv : ∀ v ∈ st, lv1 M v) : st.map (cv ad') = st.map (cv ad) := List.map_congr_left (fun v h => cv_xt hx (hv v h))
theorem cvE_xt {dA : Nat → ClassId} {M : wM} {ad ad' : Ro → Nat} (hx : xt M ad ad') {e : AE} (h : okE M e) : cvE dA ad' e = cvE dA ad e := by
  rcases e with o | ⟨t, n, f | f | f⟩
  · show Sum.inr (o.1, o.2.map (cv ad')) = Sum.inr (o.1, o.2.map (cv ad))
    rw [cvs_xt hx h]
  · rfl
  · rfl
  · show Sum.inl (dA t, n, Sum.inr (Sum.inr (Sum.inr (Sum.inr (fun j => (f j).map ad'))))) = Sum.inl (dA t, n, Sum.inr (Sum.inr (Sum.inr (Sum.inr (fun j => (f j).map ad)))))
    have : (fun j => (f j).map ad') = fun j => (f j).map ad := funext fun j => by
      cases hj : f j with
      | none => rfl
      | some r => show some (ad' r) = some (ad r); rw [hx r (h.2 j r (by rw [hj]))]
    rw [this]
theorem cW_at {dA : Nat → ClassId} {ad : Ro → Nat} {M : wM} {r : Ro} {e : AE} (hr : r.1 < 90) (h : M r = some e) : cW dA ad M r.1 r.2 = some (ad r, cvE dA ad e) := by
  unfold cW
  rw [if_pos hr]
  show (M r).map _ = _
  rw [h]
  rfl
theorem cW_up {dA : Nat → ClassId} {ad : Ro → Nat} {M : wM} {r : Ro} {e : AE} (hr : r.1 < 90) : w2 (cW dA ad M) r.1 r.2 (some (ad r, cvE dA ad e)) = cW dA ad (up M r e) := by
  funext k i
  by_cases h : k = r.1 ∧ i = r.2
  · rw [h.1, h.2, w2_s, cW_at hr up_s]
  · have hn : (k, i) ≠ r := fun q => h ⟨congrArg Prod.fst q, congrArg Prod.snd q⟩
    simp [w2, h, cW, up_n hn]
/-- a new cell at q: the roles' addresses with one more -/
def adN (ad : Ro → Nat) (r : Ro) (q : Nat) : Ro → Nat := fun z => if z = r then q else ad z
theorem adN_xt {M : wM} {ad : Ro → Nat} {r : Ro} {q : Nat} (h : M r = none) : xt M ad (adN ad r q) := fun z hz => by
  unfold adN
  rw [if_neg (fun k : z = r => hz (by rw [k]; exact h))]
theorem adN_s {ad : Ro → Nat} {r : Ro} {q : Nat} : adN ad r q r = q := by simp [adN]
theorem cW_new {dA : Nat → ClassId} {ad : Ro → Nat} {M : wM} {r : Ro} {q : Nat} {e : AE} (hc : clM M) (hn : M r = none) (hr : r.1 < 90) : w2 (cW dA ad M) r.1 r.2 (some (q, cvE dA (adN ad r q) e)) = cW dA (adN ad r q) (up M r e) := by
  funext k i
  by_cases h : k = r.1 ∧ i = r.2
  · rw [h.1, h.2, w2_s, cW_at hr up_s, adN_s]
  · have hne : (k, i) ≠ r := fun q => h ⟨congrArg Prod.fst q, congrArg Prod.snd q⟩
    unfold w2 cW
    rw [if_neg h, up_n hne]
    by_cases hk : k < 90
    · rw [if_pos hk, if_pos hk]
      cases hm : M (k, i) with
      | none => rfl
      | some x =>
        show some (ad (k, i), cvE dA ad x) = some (adN ad r q (k, i), cvE dA (adN ad r q) x)
        rw [cvE_xt (adN_xt hn) (hc.ok hm hk), adN_xt hn (k, i) (by rw [hm]; exact fun z => nomatch z)]
    · rw [if_neg hk, if_neg hk]
def lvL (M : wM) (lv : List (Nat × AV)) : Prop := ∀ q ∈ lv, lv1 M q.2
def lvS (M : wM) (st : List AV) : Prop := ∀ v ∈ st, lv1 M v
theorem lvS.hd {M : wM} {v : AV} {st : List AV} (h : lvS M (v :: st)) : lv1 M v := h v List.mem_cons_self
theorem lvS.tl {M : wM} {v : AV} {st : List AV} (h : lvS M (v :: st)) : lvS M st := fun x hx => h x (List.mem_cons_of_mem _ hx)
theorem lvS.cn {M : wM} {v : AV} {st : List AV} (h : lvS M st) (hv : lv1 M v) : lvS M (v :: st) := fun x hx => by
  rcases List.mem_cons.mp hx with rfl | hx
  · exact hv
  · exact h x hx
theorem lvS.ni {M : wM} {x : Int32} {st : List AV} (h : lvS M st) : lvS M (vI x :: st) := h.cn lv1_I
theorem lvS.nl {M : wM} {x : Int64} {st : List AV} (h : lvS M st) : lvS M (vL x :: st) := h.cn lv1_L
theorem lvS.sb {M M' : wM} {st : List AV} (h : lvS M st) (hs : sb M M') : lvS M' st := fun v hv => (h v hv).sb hs
theorem lvL.sb {M M' : wM} {lv : List (Nat × AV)} (h : lvL M lv) (hs : sb M M') : lvL M' lv := fun v hv => (h v hv).sb hs
theorem lvS_nil {M : wM} : lvS M [] := fun _ h => nomatch h
theorem lvS_of {M : wM} {st : List AV} (hd : ∀ v ∈ st, lv1 M v) : lvS M st := hd
abbrev cvL (ad : Ro → Nat) (lv : List (Nat × AV)) : List (Nat × Value) := lv.map fun q => (q.1, cv ad q.2)
theorem cvL_at {ad : Ro → Nat} {lv : List (Nat × AV)} {j i : Nat} {v : AV} (h : lv[j]? = some (i, v)) : (cvL ad lv)[j]? = some (i, cv ad v) := by
  rw [List.getElem?_map, h]
  rfl
theorem cvL_xt {M : wM} {ad ad' : Ro → Nat} (hx : xt M ad ad') {lv : List (Nat × AV)} (hv : lvL M lv) : cvL ad' lv = cvL ad lv := List.map_congr_left (fun q h => by rw [cv_xt hx (hv q h)])
theorem cvL_f1 {ad : Ro → Nat} {lv : List (Nat × AV)} {i : Nat} : (cvL ad lv).filter (fun q => !(q.1 == i) && !(q.1 + 1 == i && q.2.category == 2)) = cvL ad (lv.filter (fun q => !(q.1 == i) && !(q.1 + 1 == i && acat q.2 == 2))) := by
  rw [List.filter_map]
  congr 1
  congr 1
  funext q
  simp only [Function.comp, cv_cat]
theorem cvL_f2 {ad : Ro → Nat} {lv : List (Nat × AV)} {i : Nat} : (cvL ad lv).filter (fun q => !(q.1 == i) && (!(q.1 == i + 1) && !(q.1 + 1 == i && q.2.category == 2))) = cvL ad (lv.filter (fun q => !(q.1 == i) && (!(q.1 == i + 1) && !(q.1 + 1 == i && acat q.2 == 2)))) := by
  rw [List.filter_map]
  congr 1
  congr 1
  funext q
  simp only [Function.comp, cv_cat]
theorem lvL_st {M : wM} {lv lvn : List (Nat × AV)} {i : Nat} {v : AV} {g : Nat × AV → Bool} (h : lvL M lv) (hv : lv1 M v) (hl : (i, v) :: lv.filter g = lvn) : lvL M lvn := by
  subst hl
  intro q hq
  rcases List.mem_cons.mp hq with rfl | hq
  · exact hv
  · exact h q (List.mem_filter.mp hq).1
/-- the static empty array of lists -/
def gsC : String := "java/util/ArrayList"
def gsN : String := "DEFAULTCAPACITY_EMPTY_ELEMENTDATA"
def gsD : String := "[Ljava/lang/Object;"
def gStat (B : Nat) (zE : ZT) (s : State) : Prop := va_Z gsC gsN gsD (.ref zE.1) (wA B) s s.heap ∧ va_T (.object "java/lang/Object") zE.1 0 (fun _ => .null) (wA B) s s.heap ∧ va_Mi gsD zE.2.1 s ∧ True ∧ (∀ C ∈ aoL, va_AO C s) ∧ va_X zE.2.2.1 zE.2.2.2.1 zE.2.2.2.2 s s.heap ∧ zE.2.2.1 < s.heap.size ∧ ¬ wA B zE.2.2.1
theorem gStat_call {B : Nat} {zE : ZT} {s U : State} {H : Heap} {locs : List Loc} (h : gStat B zE s) (hS : va_S (wA B) s.heap H locs) (hU : U.heap = H) (hW : s.WarmedH U.vm) : gStat B zE U := by
  subst hU
  exact ⟨va_Z.moved hW.alike (h.1.kept hS.2.1), va_T.moved hW.alike (h.2.1.kept hS.2.1), va_Mi.moved hW.alike h.2.2.1, h.2.2.2.1, fun C hC => va_AO.moved hW.alike (h.2.2.2.2.1 C hC), va_X.moved hW.alike (h.2.2.2.2.2.1.kept (hS.2.1 _ h.2.2.2.2.2.2.1 h.2.2.2.2.2.2.2)), Nat.lt_of_lt_of_le h.2.2.2.2.2.2.1 hS.1, h.2.2.2.2.2.2.2⟩
theorem gStat_blind {B : Nat} {zE : ZT} {U : State} (h : gStat B zE U) (a : Array Value) (g : JFrame) (mk : MethodId) : gStat B zE (U.calling g mk a) := ⟨va_Z.moved (u := U) (U := U.calling g mk a) (Vm.Alike.refl U.vm) h.1, va_T.moved (u := U) (U := U.calling g mk a) (Vm.Alike.refl U.vm) h.2.1, va_Mi.moved (u := U) (U := U.calling g mk a) (Vm.Alike.refl U.vm) h.2.2.1, h.2.2.2.1, fun C hC => va_AO.moved (u := U) (U := U.calling g mk a) (Vm.Alike.refl U.vm) (h.2.2.2.2.1 C hC), va_X.moved (u := U) (U := U.calling g mk a) (Vm.Alike.refl U.vm) h.2.2.2.2.2.1, h.2.2.2.2.2.2.1, h.2.2.2.2.2.2.2⟩
theorem gStat_out {B : Nat} {zE : ZT} {s : State} (h : gStat B zE s) : ¬ wA B zE.1 := h.2.1.out
/-- what a state must hold beside the roles: the classes, the static array, the words of nests and casts -/
def gP (D : va_G) (dA : Nat → ClassId) (B : Nat) (zE : ZT) (s : State) : Prop := va_K D classes (tysA dA) s ∧ B ≤ s.heap.size ∧ gStat B zE s ∧ ∀ w ∈ nestW, va_Nw w s
theorem nest_warm {s U : State} (hW : s.WarmedH U.vm) {w : Cond} (hw : nestOk w = true) (h : va_Nw w s) : va_Nw w U := by
  cases w <;> first | (simp [nestOk] at hw; done) | exact va_Nw.warmF hW h | exact va_Nw.warmM hW h | exact va_Nw.warmC hW h | exact va_Nw.warmD hW h
theorem gP.call {D : va_G} {dA : Nat → ClassId} {B : Nat} {zE : ZT} {s U : State} {H : Heap} {locs : List Loc} (h : gP D dA B zE s) (hS : va_S (wA B) s.heap H locs) (hU : U.heap = H) (hW : s.WarmedH U.vm) : gP D dA B zE U := by
  obtain ⟨hK, hB, hst, hN⟩ := h
  refine ⟨va_K.moved hW.alike hK, ?_, gStat_call hst hS hU hW, fun w hw => nest_warm hW (nestW_ok w hw) (hN w hw)⟩
  rw [hU]
  exact Nat.le_trans hB hS.1
theorem gP.blind {D : va_G} {dA : Nat → ClassId} {B : Nat} {zE : ZT} {U : State} (h : gP D dA B zE U) (a : Array Value) (g : JFrame) (mk : MethodId) : gP D dA B zE (U.calling g mk a) := by
  obtain ⟨hK, hB, hst, hN⟩ := h
  exact ⟨va_K.moved (u := U) (U := U.calling g mk a) (Vm.Alike.refl U.vm) hK, hB, gStat_blind hst a g mk, fun w hw => va_Nw.same (nestW_tab w hw) (rfl : U.vm = (U.calling g mk a).vm) (hN w hw)⟩
def Cx (p : Program) (s : State) (m : MethodId) (args : Array Value) (meth : Method) (c : Code) (cc : ByteArray) (nL : Nat) (own : String) (Ts : List Cond) (D : va_G) (dA : Nat → ClassId) (B : Nat) (zE : ZT) : Prop :=
  p.tables.exec = Jvm.exec ∧ c.code = cc ∧ c.maxLocals = nL ∧ s.vm.findClass own = some m.cls ∧ (∀ w ∈ Ts, w.before args s = true) ∧ gP D dA B zE s ∧ meth.locks = false
def AW (p : Program) (l : Launch) (e : Env) (R : Room) (s : State) (m : MethodId) (args : Array Value) (below : List Frame) (meth : Method) (c : Code) (Q : State → Prop) (D : va_G) (dA : Nat → ClassId) (B : Nat) (zE : ZT) (nL : Nat) (ad0 : Ro → Nat) (M0 M : wM) (cells slots pc : Nat) (lv : List (Nat × AV)) (st : List AV) : Prop :=
  ∀ (ad : Ro → Nat) (H : Heap) (locs : List Loc) (ls : Array Slot), xt M0 ad0 ad → sb M0 M → WA D dA B zE ad M H → va_S (wA B) s.heap H locs → lv_has ls nL (cvL ad lv) → lvL M lv → lvS M st → W p l e R s m args below meth c H locs cells slots Q (F0 m pc ls (st.map (cv ad)))
section AWR
variable {p : Program} {l : Launch} {e : Env} {R : Room} {s : State} {m : MethodId} {args : Array Value} {below : List Frame} {meth : Method} {c : Code} {Q : State → Prop} {D : va_G} {dA : Nat → ClassId} {B : Nat} {zE : ZT} {nL : Nat} {ad0 : Ro → Nat} {M0 M : wM} {cells slots pc : Nat} {lv lvn : List (Nat × AV)} {st : List AV} {cc : ByteArray} {own : String} {Ts : List Cond}

theorem aw_iconst (X : Cx p s m args meth c cc nL own Ts D dA B zE) {n : Int} (v : Int32) (hv : Int32.ofInt n = v) (hd : decode cc pc = .ok (.iconst n, 1)) (k : AW p l e R s m args below meth c Q D dA B zE nL ad0 M0 M cells slots (pc + 1) lv (vI v :: st)) : AW p l e R s m args below meth c Q D dA B zE nL ad0 M0 M cells slots pc lv (st) :=
  fun ad H locs ls h1 h2 h3 h4 h5 h6 h7 => lv_iconst X.1 X.2.1 hd hv (k ad H locs ls h1 h2 h3 h4 h5 h6 h7.ni)
theorem aw_bipush (X : Cx p s m args meth c cc nL own Ts D dA B zE) {n : Int} (v : Int32) (hv : (Int8.ofInt n).toInt32 = v) (hd : decode cc pc = .ok (.bipush n, 2)) (k : AW p l e R s m args below meth c Q D dA B zE nL ad0 M0 M cells slots (pc + 2) lv (vI v :: st)) : AW p l e R s m args below meth c Q D dA B zE nL ad0 M0 M cells slots pc lv (st) :=
  fun ad H locs ls h1 h2 h3 h4 h5 h6 h7 => lv_bipush X.1 X.2.1 hd hv (k ad H locs ls h1 h2 h3 h4 h5 h6 h7.ni)
theorem aw_sipush (X : Cx p s m args meth c cc nL own Ts D dA B zE) {n : Int} (v : Int32) (hv : (Int16.ofInt n).toInt32 = v) (hd : decode cc pc = .ok (.sipush n, 3)) (k : AW p l e R s m args below meth c Q D dA B zE nL ad0 M0 M cells slots (pc + 3) lv (vI v :: st)) : AW p l e R s m args below meth c Q D dA B zE nL ad0 M0 M cells slots pc lv (st) :=
  fun ad H locs ls h1 h2 h3 h4 h5 h6 h7 => lv_sipush X.1 X.2.1 hd hv (k ad H locs ls h1 h2 h3 h4 h5 h6 h7.ni)
theorem aw_lconst (X : Cx p s m args meth c cc nL own Ts D dA B zE) {n : Fin 2} (v : Int64) (hv : Int64.ofNat (n : Nat) = v) (hd : decode cc pc = .ok (.lconst n, 1)) (k : AW p l e R s m args below meth c Q D dA B zE nL ad0 M0 M cells slots (pc + 1) lv (vL v :: st)) : AW p l e R s m args below meth c Q D dA B zE nL ad0 M0 M cells slots pc lv (st) :=
  fun ad H locs ls h1 h2 h3 h4 h5 h6 h7 => lv_lconst X.1 X.2.1 hd hv (k ad H locs ls h1 h2 h3 h4 h5 h6 h7.nl)
theorem aw_null (X : Cx p s m args meth c cc nL own Ts D dA B zE)  (hd : decode cc pc = .ok (.aconst_null, 1)) (k : AW p l e R s m args below meth c Q D dA B zE nL ad0 M0 M cells slots (pc + 1) lv (vR none :: st)) : AW p l e R s m args below meth c Q D dA B zE nL ad0 M0 M cells slots pc lv (st) :=
  fun ad H locs ls h1 h2 h3 h4 h5 h6 h7 => lv_null X.1 X.2.1 hd (k ad H locs ls h1 h2 h3 h4 h5 h6 (h7.cn lv1_N))
theorem aw_iadd (X : Cx p s m args meth c cc nL own Ts D dA B zE) {x y : Int32} (hd : decode cc pc = .ok (.iadd, 1)) (k : AW p l e R s m args below meth c Q D dA B zE nL ad0 M0 M cells slots (pc + 1) lv (vI (x + y) :: st)) : AW p l e R s m args below meth c Q D dA B zE nL ad0 M0 M cells slots pc lv (vI y :: vI x :: st) :=
  fun ad H locs ls h1 h2 h3 h4 h5 h6 h7 => lv_iadd X.1 X.2.1 hd (k ad H locs ls h1 h2 h3 h4 h5 h6 h7.tl.tl.ni)
theorem aw_isub (X : Cx p s m args meth c cc nL own Ts D dA B zE) {x y : Int32} (hd : decode cc pc = .ok (.isub, 1)) (k : AW p l e R s m args below meth c Q D dA B zE nL ad0 M0 M cells slots (pc + 1) lv (vI (x - y) :: st)) : AW p l e R s m args below meth c Q D dA B zE nL ad0 M0 M cells slots pc lv (vI y :: vI x :: st) :=
  fun ad H locs ls h1 h2 h3 h4 h5 h6 h7 => lv_isub X.1 X.2.1 hd (k ad H locs ls h1 h2 h3 h4 h5 h6 h7.tl.tl.ni)
theorem aw_imul (X : Cx p s m args meth c cc nL own Ts D dA B zE) {x y : Int32} (hd : decode cc pc = .ok (.imul, 1)) (k : AW p l e R s m args below meth c Q D dA B zE nL ad0 M0 M cells slots (pc + 1) lv (vI (x * y) :: st)) : AW p l e R s m args below meth c Q D dA B zE nL ad0 M0 M cells slots pc lv (vI y :: vI x :: st) :=
  fun ad H locs ls h1 h2 h3 h4 h5 h6 h7 => lv_imul X.1 X.2.1 hd (k ad H locs ls h1 h2 h3 h4 h5 h6 h7.tl.tl.ni)
theorem aw_iand (X : Cx p s m args meth c cc nL own Ts D dA B zE) {x y : Int32} (hd : decode cc pc = .ok (.iand, 1)) (k : AW p l e R s m args below meth c Q D dA B zE nL ad0 M0 M cells slots (pc + 1) lv (vI (x &&& y) :: st)) : AW p l e R s m args below meth c Q D dA B zE nL ad0 M0 M cells slots pc lv (vI y :: vI x :: st) :=
  fun ad H locs ls h1 h2 h3 h4 h5 h6 h7 => lv_iand X.1 X.2.1 hd (k ad H locs ls h1 h2 h3 h4 h5 h6 h7.tl.tl.ni)
theorem aw_ior (X : Cx p s m args meth c cc nL own Ts D dA B zE) {x y : Int32} (hd : decode cc pc = .ok (.ior, 1)) (k : AW p l e R s m args below meth c Q D dA B zE nL ad0 M0 M cells slots (pc + 1) lv (vI (x ||| y) :: st)) : AW p l e R s m args below meth c Q D dA B zE nL ad0 M0 M cells slots pc lv (vI y :: vI x :: st) :=
  fun ad H locs ls h1 h2 h3 h4 h5 h6 h7 => lv_ior X.1 X.2.1 hd (k ad H locs ls h1 h2 h3 h4 h5 h6 h7.tl.tl.ni)
theorem aw_ixor (X : Cx p s m args meth c cc nL own Ts D dA B zE) {x y : Int32} (hd : decode cc pc = .ok (.ixor, 1)) (k : AW p l e R s m args below meth c Q D dA B zE nL ad0 M0 M cells slots (pc + 1) lv (vI (x ^^^ y) :: st)) : AW p l e R s m args below meth c Q D dA B zE nL ad0 M0 M cells slots pc lv (vI y :: vI x :: st) :=
  fun ad H locs ls h1 h2 h3 h4 h5 h6 h7 => lv_ixor X.1 X.2.1 hd (k ad H locs ls h1 h2 h3 h4 h5 h6 h7.tl.tl.ni)
theorem aw_ishl (X : Cx p s m args meth c cc nL own Ts D dA B zE) {x y : Int32} (hd : decode cc pc = .ok (.ishl, 1)) (k : AW p l e R s m args below meth c Q D dA B zE nL ad0 M0 M cells slots (pc + 1) lv (vI (x <<< (y &&& 31)) :: st)) : AW p l e R s m args below meth c Q D dA B zE nL ad0 M0 M cells slots pc lv (vI y :: vI x :: st) :=
  fun ad H locs ls h1 h2 h3 h4 h5 h6 h7 => lv_ishl X.1 X.2.1 hd (k ad H locs ls h1 h2 h3 h4 h5 h6 h7.tl.tl.ni)
theorem aw_ishr (X : Cx p s m args meth c cc nL own Ts D dA B zE) {x y : Int32} (hd : decode cc pc = .ok (.ishr, 1)) (k : AW p l e R s m args below meth c Q D dA B zE nL ad0 M0 M cells slots (pc + 1) lv (vI (x >>> (y &&& 31)) :: st)) : AW p l e R s m args below meth c Q D dA B zE nL ad0 M0 M cells slots pc lv (vI y :: vI x :: st) :=
  fun ad H locs ls h1 h2 h3 h4 h5 h6 h7 => lv_ishr X.1 X.2.1 hd (k ad H locs ls h1 h2 h3 h4 h5 h6 h7.tl.tl.ni)
theorem aw_ladd (X : Cx p s m args meth c cc nL own Ts D dA B zE) {x y : Int64} (hd : decode cc pc = .ok (.ladd, 1)) (k : AW p l e R s m args below meth c Q D dA B zE nL ad0 M0 M cells slots (pc + 1) lv (vL (x + y) :: st)) : AW p l e R s m args below meth c Q D dA B zE nL ad0 M0 M cells slots pc lv (vL y :: vL x :: st) :=
  fun ad H locs ls h1 h2 h3 h4 h5 h6 h7 => lv_ladd X.1 X.2.1 hd (k ad H locs ls h1 h2 h3 h4 h5 h6 h7.tl.tl.nl)
theorem aw_lsub (X : Cx p s m args meth c cc nL own Ts D dA B zE) {x y : Int64} (hd : decode cc pc = .ok (.lsub, 1)) (k : AW p l e R s m args below meth c Q D dA B zE nL ad0 M0 M cells slots (pc + 1) lv (vL (x - y) :: st)) : AW p l e R s m args below meth c Q D dA B zE nL ad0 M0 M cells slots pc lv (vL y :: vL x :: st) :=
  fun ad H locs ls h1 h2 h3 h4 h5 h6 h7 => lv_lsub X.1 X.2.1 hd (k ad H locs ls h1 h2 h3 h4 h5 h6 h7.tl.tl.nl)
theorem aw_lmul (X : Cx p s m args meth c cc nL own Ts D dA B zE) {x y : Int64} (hd : decode cc pc = .ok (.lmul, 1)) (k : AW p l e R s m args below meth c Q D dA B zE nL ad0 M0 M cells slots (pc + 1) lv (vL (x * y) :: st)) : AW p l e R s m args below meth c Q D dA B zE nL ad0 M0 M cells slots pc lv (vL y :: vL x :: st) :=
  fun ad H locs ls h1 h2 h3 h4 h5 h6 h7 => lv_lmul X.1 X.2.1 hd (k ad H locs ls h1 h2 h3 h4 h5 h6 h7.tl.tl.nl)
theorem aw_land (X : Cx p s m args meth c cc nL own Ts D dA B zE) {x y : Int64} (hd : decode cc pc = .ok (.land, 1)) (k : AW p l e R s m args below meth c Q D dA B zE nL ad0 M0 M cells slots (pc + 1) lv (vL (x &&& y) :: st)) : AW p l e R s m args below meth c Q D dA B zE nL ad0 M0 M cells slots pc lv (vL y :: vL x :: st) :=
  fun ad H locs ls h1 h2 h3 h4 h5 h6 h7 => lv_land X.1 X.2.1 hd (k ad H locs ls h1 h2 h3 h4 h5 h6 h7.tl.tl.nl)
theorem aw_lor (X : Cx p s m args meth c cc nL own Ts D dA B zE) {x y : Int64} (hd : decode cc pc = .ok (.lor, 1)) (k : AW p l e R s m args below meth c Q D dA B zE nL ad0 M0 M cells slots (pc + 1) lv (vL (x ||| y) :: st)) : AW p l e R s m args below meth c Q D dA B zE nL ad0 M0 M cells slots pc lv (vL y :: vL x :: st) :=
  fun ad H locs ls h1 h2 h3 h4 h5 h6 h7 => lv_lor X.1 X.2.1 hd (k ad H locs ls h1 h2 h3 h4 h5 h6 h7.tl.tl.nl)
theorem aw_lxor (X : Cx p s m args meth c cc nL own Ts D dA B zE) {x y : Int64} (hd : decode cc pc = .ok (.lxor, 1)) (k : AW p l e R s m args below meth c Q D dA B zE nL ad0 M0 M cells slots (pc + 1) lv (vL (x ^^^ y) :: st)) : AW p l e R s m args below meth c Q D dA B zE nL ad0 M0 M cells slots pc lv (vL y :: vL x :: st) :=
  fun ad H locs ls h1 h2 h3 h4 h5 h6 h7 => lv_lxor X.1 X.2.1 hd (k ad H locs ls h1 h2 h3 h4 h5 h6 h7.tl.tl.nl)
theorem aw_irem (X : Cx p s m args meth c cc nL own Ts D dA B zE) {x y : Int32} (hne : ¬ y = 0) (hd : decode cc pc = .ok (.irem, 1)) (k : AW p l e R s m args below meth c Q D dA B zE nL ad0 M0 M cells slots (pc + 1) lv (vI (x - x / y * y) :: st)) : AW p l e R s m args below meth c Q D dA B zE nL ad0 M0 M cells slots pc lv (vI y :: vI x :: st) :=
  fun ad H locs ls h1 h2 h3 h4 h5 h6 h7 => lv_irem X.1 X.2.1 hd hne (k ad H locs ls h1 h2 h3 h4 h5 h6 h7.tl.tl.ni)
theorem aw_idiv (X : Cx p s m args meth c cc nL own Ts D dA B zE) {x y : Int32} (hne : ¬ y = 0) (hd : decode cc pc = .ok (.idiv, 1)) (k : AW p l e R s m args below meth c Q D dA B zE nL ad0 M0 M cells slots (pc + 1) lv (vI (x / y) :: st)) : AW p l e R s m args below meth c Q D dA B zE nL ad0 M0 M cells slots pc lv (vI y :: vI x :: st) :=
  fun ad H locs ls h1 h2 h3 h4 h5 h6 h7 => lv_idiv X.1 X.2.1 hd hne (k ad H locs ls h1 h2 h3 h4 h5 h6 h7.tl.tl.ni)
theorem aw_ineg (X : Cx p s m args meth c cc nL own Ts D dA B zE) {x : Int32} (hd : decode cc pc = .ok (.ineg, 1)) (k : AW p l e R s m args below meth c Q D dA B zE nL ad0 M0 M cells slots (pc + 1) lv (vI (-x) :: st)) : AW p l e R s m args below meth c Q D dA B zE nL ad0 M0 M cells slots pc lv (vI x :: st) :=
  fun ad H locs ls h1 h2 h3 h4 h5 h6 h7 => lv_ineg X.1 X.2.1 hd (k ad H locs ls h1 h2 h3 h4 h5 h6 h7.tl.ni)
theorem aw_iushr (X : Cx p s m args meth c cc nL own Ts D dA B zE) {x y : Int32} (hd : decode cc pc = .ok (.iushr, 1)) (k : AW p l e R s m args below meth c Q D dA B zE nL ad0 M0 M cells slots (pc + 1) lv (vI (x.toUInt32 >>> (y.toUInt32 &&& Int32.toUInt32 31)).toInt32 :: st)) : AW p l e R s m args below meth c Q D dA B zE nL ad0 M0 M cells slots pc lv (vI y :: vI x :: st) :=
  fun ad H locs ls h1 h2 h3 h4 h5 h6 h7 => lv_iushr X.1 X.2.1 hd rfl (k ad H locs ls h1 h2 h3 h4 h5 h6 h7.tl.tl.ni)
theorem aw_i2l (X : Cx p s m args meth c cc nL own Ts D dA B zE) {x : Int32} (hd : decode cc pc = .ok (.i2l, 1)) (k : AW p l e R s m args below meth c Q D dA B zE nL ad0 M0 M cells slots (pc + 1) lv (vL x.toInt64 :: st)) : AW p l e R s m args below meth c Q D dA B zE nL ad0 M0 M cells slots pc lv (vI x :: st) :=
  fun ad H locs ls h1 h2 h3 h4 h5 h6 h7 => lv_i2l X.1 X.2.1 hd rfl (k ad H locs ls h1 h2 h3 h4 h5 h6 h7.tl.nl)
theorem aw_l2i (X : Cx p s m args meth c cc nL own Ts D dA B zE) {x : Int64} (hd : decode cc pc = .ok (.l2i, 1)) (k : AW p l e R s m args below meth c Q D dA B zE nL ad0 M0 M cells slots (pc + 1) lv (vI x.toInt32 :: st)) : AW p l e R s m args below meth c Q D dA B zE nL ad0 M0 M cells slots pc lv (vL x :: st) :=
  fun ad H locs ls h1 h2 h3 h4 h5 h6 h7 => lv_l2i X.1 X.2.1 hd rfl (k ad H locs ls h1 h2 h3 h4 h5 h6 h7.tl.ni)
theorem aw_i2b (X : Cx p s m args meth c cc nL own Ts D dA B zE) {x : Int32} (hd : decode cc pc = .ok (.i2b, 1)) (k : AW p l e R s m args below meth c Q D dA B zE nL ad0 M0 M cells slots (pc + 1) lv (vI x.toInt8.toInt32 :: st)) : AW p l e R s m args below meth c Q D dA B zE nL ad0 M0 M cells slots pc lv (vI x :: st) :=
  fun ad H locs ls h1 h2 h3 h4 h5 h6 h7 => lv_i2b X.1 X.2.1 hd rfl (k ad H locs ls h1 h2 h3 h4 h5 h6 h7.tl.ni)
theorem aw_lcmp (X : Cx p s m args meth c cc nL own Ts D dA B zE) {x y : Int64} (hd : decode cc pc = .ok (.lcmp, 1)) (k : AW p l e R s m args below meth c Q D dA B zE nL ad0 M0 M cells slots (pc + 1) lv (vI (lg_cmp x y) :: st)) : AW p l e R s m args below meth c Q D dA B zE nL ad0 M0 M cells slots pc lv (vL y :: vL x :: st) :=
  fun ad H locs ls h1 h2 h3 h4 h5 h6 h7 => W.lcmp X.1 X.2.1 hd (k ad H locs ls h1 h2 h3 h4 h5 h6 h7.tl.tl.ni)
theorem aw_dup (X : Cx p s m args meth c cc nL own Ts D dA B zE) {v : AV} (hv : acat v = 1) (hd : decode cc pc = .ok (.dup, 1)) (k : AW p l e R s m args below meth c Q D dA B zE nL ad0 M0 M cells slots (pc + 1) lv (v :: v :: st)) : AW p l e R s m args below meth c Q D dA B zE nL ad0 M0 M cells slots pc lv (v :: st) :=
  fun ad H locs ls h1 h2 h3 h4 h5 h6 h7 => lv_dup X.1 X.2.1 hd ((cv_cat ad v).trans hv) (k ad H locs ls h1 h2 h3 h4 h5 h6 (h7.cn h7.hd))
theorem aw_pop (X : Cx p s m args meth c cc nL own Ts D dA B zE) {v : AV} (hv : acat v = 1) (hd : decode cc pc = .ok (.pop, 1)) (k : AW p l e R s m args below meth c Q D dA B zE nL ad0 M0 M cells slots (pc + 1) lv (st)) : AW p l e R s m args below meth c Q D dA B zE nL ad0 M0 M cells slots pc lv (v :: st) :=
  fun ad H locs ls h1 h2 h3 h4 h5 h6 h7 => lv_pop X.1 X.2.1 hd ((cv_cat ad v).trans hv) (k ad H locs ls h1 h2 h3 h4 h5 h6 h7.tl)
theorem aw_dup_x1 (X : Cx p s m args meth c cc nL own Ts D dA B zE) {v w : AV} (hv : acat v = 1) (hw : acat w = 1) (hd : decode cc pc = .ok (.dup_x1, 1)) (k : AW p l e R s m args below meth c Q D dA B zE nL ad0 M0 M cells slots (pc + 1) lv (v :: w :: v :: st)) : AW p l e R s m args below meth c Q D dA B zE nL ad0 M0 M cells slots pc lv (v :: w :: st) :=
  fun ad H locs ls h1 h2 h3 h4 h5 h6 h7 => lv_dup_x1 X.1 X.2.1 hd ((cv_cat ad v).trans hv) ((cv_cat ad w).trans hw) (k ad H locs ls h1 h2 h3 h4 h5 h6 (((h7.tl.tl.cn h7.hd).cn h7.tl.hd).cn h7.hd))
theorem aw_dup_x2 (X : Cx p s m args meth c cc nL own Ts D dA B zE) {v w u : AV} (hv : acat v = 1) (hw : acat w = 1) (hu : acat u = 1) (hd : decode cc pc = .ok (.dup_x2, 1)) (k : AW p l e R s m args below meth c Q D dA B zE nL ad0 M0 M cells slots (pc + 1) lv (v :: w :: u :: v :: st)) : AW p l e R s m args below meth c Q D dA B zE nL ad0 M0 M cells slots pc lv (v :: w :: u :: st) :=
  fun ad H locs ls h1 h2 h3 h4 h5 h6 h7 => lv_dup_x2 X.1 X.2.1 hd ((cv_cat ad v).trans hv) ((cv_cat ad w).trans hw) ((cv_cat ad u).trans hu) (k ad H locs ls h1 h2 h3 h4 h5 h6 ((((h7.tl.tl.tl.cn h7.hd).cn h7.tl.tl.hd).cn h7.tl.hd).cn h7.hd))
theorem aw_dup2 (X : Cx p s m args meth c cc nL own Ts D dA B zE) {v w : AV} (hv : acat v = 1) (hw : acat w = 1) (hd : decode cc pc = .ok (.dup2, 1)) (k : AW p l e R s m args below meth c Q D dA B zE nL ad0 M0 M cells slots (pc + 1) lv (v :: w :: v :: w :: st)) : AW p l e R s m args below meth c Q D dA B zE nL ad0 M0 M cells slots pc lv (v :: w :: st) :=
  fun ad H locs ls h1 h2 h3 h4 h5 h6 h7 => lv_dup2_11 X.1 X.2.1 hd ((cv_cat ad v).trans hv) ((cv_cat ad w).trans hw) (k ad H locs ls h1 h2 h3 h4 h5 h6 ((h7.cn h7.tl.hd).cn h7.hd))
theorem aw_dup2L (X : Cx p s m args meth c cc nL own Ts D dA B zE) {v : AV} (hv : acat v = 2) (hd : decode cc pc = .ok (.dup2, 1)) (k : AW p l e R s m args below meth c Q D dA B zE nL ad0 M0 M cells slots (pc + 1) lv (v :: v :: st)) : AW p l e R s m args below meth c Q D dA B zE nL ad0 M0 M cells slots pc lv (v :: st) :=
  fun ad H locs ls h1 h2 h3 h4 h5 h6 h7 => lv_dup2_2 X.1 X.2.1 hd ((cv_cat ad v).trans hv) (k ad H locs ls h1 h2 h3 h4 h5 h6 (h7.cn h7.hd))
theorem aw_iload_n (X : Cx p s m args meth c cc nL own Ts D dA B zE) {n : Fin 4} {i : Nat} {x : Int32} (j : Nat) (hj : lv[j]? = some (i, vI x)) (hd : decode cc pc = .ok (.iload_n n, 1)) (hi : (n : Nat) = i) (k : AW p l e R s m args below meth c Q D dA B zE nL ad0 M0 M cells slots (pc + 1) lv (vI x :: st)) : AW p l e R s m args below meth c Q D dA B zE nL ad0 M0 M cells slots pc lv st :=
  fun ad H locs ls h1 h2 h3 h4 h5 h6 h7 => lv_iload_n X.1 X.2.1 hd hi (lv_at h5 j (cvL_at hj)) (k ad H locs ls h1 h2 h3 h4 h5 h6 h7.ni)
theorem aw_iload (X : Cx p s m args meth c cc nL own Ts D dA B zE) {i : Nat} {x : Int32} (j : Nat) (hj : lv[j]? = some (i, vI x)) (hd : decode cc pc = .ok (.iload i, 2)) (k : AW p l e R s m args below meth c Q D dA B zE nL ad0 M0 M cells slots (pc + 2) lv (vI x :: st)) : AW p l e R s m args below meth c Q D dA B zE nL ad0 M0 M cells slots pc lv st :=
  fun ad H locs ls h1 h2 h3 h4 h5 h6 h7 => lv_iload X.1 X.2.1 hd (lv_at h5 j (cvL_at hj)) (k ad H locs ls h1 h2 h3 h4 h5 h6 h7.ni)
theorem aw_lload_n (X : Cx p s m args meth c cc nL own Ts D dA B zE) {n : Fin 4} {i : Nat} {x : Int64} (j : Nat) (hj : lv[j]? = some (i, vL x)) (hd : decode cc pc = .ok (.lload_n n, 1)) (hi : (n : Nat) = i) (k : AW p l e R s m args below meth c Q D dA B zE nL ad0 M0 M cells slots (pc + 1) lv (vL x :: st)) : AW p l e R s m args below meth c Q D dA B zE nL ad0 M0 M cells slots pc lv st :=
  fun ad H locs ls h1 h2 h3 h4 h5 h6 h7 => lv_lload_n X.1 X.2.1 hd hi (lv_at h5 j (cvL_at hj)) (k ad H locs ls h1 h2 h3 h4 h5 h6 h7.nl)
theorem aw_lload (X : Cx p s m args meth c cc nL own Ts D dA B zE) {i : Nat} {x : Int64} (j : Nat) (hj : lv[j]? = some (i, vL x)) (hd : decode cc pc = .ok (.lload i, 2)) (k : AW p l e R s m args below meth c Q D dA B zE nL ad0 M0 M cells slots (pc + 2) lv (vL x :: st)) : AW p l e R s m args below meth c Q D dA B zE nL ad0 M0 M cells slots pc lv st :=
  fun ad H locs ls h1 h2 h3 h4 h5 h6 h7 => lv_lload X.1 X.2.1 hd (lv_at h5 j (cvL_at hj)) (k ad H locs ls h1 h2 h3 h4 h5 h6 h7.nl)
theorem aw_aload_n (X : Cx p s m args meth c cc nL own Ts D dA B zE) {n : Fin 4} {i : Nat} {x : Option Ro} (j : Nat) (hj : lv[j]? = some (i, vR x)) (hd : decode cc pc = .ok (.aload_n n, 1)) (hi : (n : Nat) = i) (k : AW p l e R s m args below meth c Q D dA B zE nL ad0 M0 M cells slots (pc + 1) lv (vR x :: st)) : AW p l e R s m args below meth c Q D dA B zE nL ad0 M0 M cells slots pc lv st := by
  intro ad H locs ls h1 h2 h3 h4 h5 h6 h7
  have hq := lv_at h5 j (cvL_at hj)
  have hk := k ad H locs ls h1 h2 h3 h4 h5 h6 (h7.cn (h6 _ (List.mem_of_getElem? hj)))
  cases x with
  | none => exact lv_aload_nN X.1 X.2.1 hd hi hq hk
  | some r => exact lv_aload_n X.1 X.2.1 hd hi hq hk
theorem aw_aload (X : Cx p s m args meth c cc nL own Ts D dA B zE) {i : Nat} {x : Option Ro} (j : Nat) (hj : lv[j]? = some (i, vR x)) (hd : decode cc pc = .ok (.aload i, 2)) (k : AW p l e R s m args below meth c Q D dA B zE nL ad0 M0 M cells slots (pc + 2) lv (vR x :: st)) : AW p l e R s m args below meth c Q D dA B zE nL ad0 M0 M cells slots pc lv st := by
  intro ad H locs ls h1 h2 h3 h4 h5 h6 h7
  have hq := lv_at h5 j (cvL_at hj)
  have hk := k ad H locs ls h1 h2 h3 h4 h5 h6 (h7.cn (h6 _ (List.mem_of_getElem? hj)))
  cases x with
  | none => exact lv_aloadN X.1 X.2.1 hd hq hk
  | some r => exact lv_aload X.1 X.2.1 hd hq hk
theorem aw_istore_n (X : Cx p s m args meth c cc nL own Ts D dA B zE) {n : Fin 4} {i : Nat} {x : Int32} (hd : decode cc pc = .ok (.istore_n n, 1)) (hi : (n : Nat) = i) (hn : i < nL) (hl : (i, vI x) :: lv.filter (fun q => !(q.1 == i) && !(q.1 + 1 == i && acat q.2 == 2)) = lvn) (k : AW p l e R s m args below meth c Q D dA B zE nL ad0 M0 M cells slots (pc + 1) lvn st) : AW p l e R s m args below meth c Q D dA B zE nL ad0 M0 M cells slots pc lv (vI x :: st) :=
  fun ad H locs ls h1 h2 h3 h4 h5 h6 h7 => lv_istore_n X.1 X.2.1 hd hi h5 hn (by rw [cvL_f1, ← hl]; rfl) (fun ls1 hl1 => k ad H locs ls1 h1 h2 h3 h4 hl1 (lvL_st h6 h7.hd hl) h7.tl)
theorem aw_istore (X : Cx p s m args meth c cc nL own Ts D dA B zE) {i : Nat} {x : Int32} (hd : decode cc pc = .ok (.istore i, 2)) (hn : i < nL) (hl : (i, vI x) :: lv.filter (fun q => !(q.1 == i) && !(q.1 + 1 == i && acat q.2 == 2)) = lvn) (k : AW p l e R s m args below meth c Q D dA B zE nL ad0 M0 M cells slots (pc + 2) lvn st) : AW p l e R s m args below meth c Q D dA B zE nL ad0 M0 M cells slots pc lv (vI x :: st) :=
  fun ad H locs ls h1 h2 h3 h4 h5 h6 h7 => lv_istore X.1 X.2.1 hd h5 hn (by rw [cvL_f1, ← hl]; rfl) (fun ls1 hl1 => k ad H locs ls1 h1 h2 h3 h4 hl1 (lvL_st h6 h7.hd hl) h7.tl)
theorem aw_lstore_n (X : Cx p s m args meth c cc nL own Ts D dA B zE) {n : Fin 4} {i : Nat} {x : Int64} (hd : decode cc pc = .ok (.lstore_n n, 1)) (hi : (n : Nat) = i) (hn : i + 1 < nL) (hl : (i, vL x) :: lv.filter (fun q => !(q.1 == i) && (!(q.1 == i + 1) && !(q.1 + 1 == i && acat q.2 == 2))) = lvn) (k : AW p l e R s m args below meth c Q D dA B zE nL ad0 M0 M cells slots (pc + 1) lvn st) : AW p l e R s m args below meth c Q D dA B zE nL ad0 M0 M cells slots pc lv (vL x :: st) :=
  fun ad H locs ls h1 h2 h3 h4 h5 h6 h7 => lv_lstore_n X.1 X.2.1 hd hi h5 hn (by rw [cvL_f2, ← hl]; rfl) (fun ls1 hl1 => k ad H locs ls1 h1 h2 h3 h4 hl1 (lvL_st h6 h7.hd hl) h7.tl)
theorem aw_lstore (X : Cx p s m args meth c cc nL own Ts D dA B zE) {i : Nat} {x : Int64} (hd : decode cc pc = .ok (.lstore i, 2)) (hn : i + 1 < nL) (hl : (i, vL x) :: lv.filter (fun q => !(q.1 == i) && (!(q.1 == i + 1) && !(q.1 + 1 == i && acat q.2 == 2))) = lvn) (k : AW p l e R s m args below meth c Q D dA B zE nL ad0 M0 M cells slots (pc + 2) lvn st) : AW p l e R s m args below meth c Q D dA B zE nL ad0 M0 M cells slots pc lv (vL x :: st) :=
  fun ad H locs ls h1 h2 h3 h4 h5 h6 h7 => lv_lstore X.1 X.2.1 hd h5 hn (by rw [cvL_f2, ← hl]; rfl) (fun ls1 hl1 => k ad H locs ls1 h1 h2 h3 h4 hl1 (lvL_st h6 h7.hd hl) h7.tl)
theorem aw_astore_n (X : Cx p s m args meth c cc nL own Ts D dA B zE) {n : Fin 4} {i : Nat} {x : Option Ro} (hd : decode cc pc = .ok (.astore_n n, 1)) (hi : (n : Nat) = i) (hn : i < nL) (hl : (i, vR x) :: lv.filter (fun q => !(q.1 == i) && !(q.1 + 1 == i && acat q.2 == 2)) = lvn) (k : AW p l e R s m args below meth c Q D dA B zE nL ad0 M0 M cells slots (pc + 1) lvn st) : AW p l e R s m args below meth c Q D dA B zE nL ad0 M0 M cells slots pc lv (vR x :: st) := by
  intro ad H locs ls h1 h2 h3 h4 h5 h6 h7
  have hk := fun ls1 hl1 => k ad H locs ls1 h1 h2 h3 h4 hl1 (lvL_st h6 h7.hd hl) h7.tl
  cases x with
  | none => exact lv_astore_nN X.1 X.2.1 hd hi h5 hn (by rw [cvL_f1, ← hl]; rfl) hk
  | some r => exact lv_astore_n X.1 X.2.1 hd hi h5 hn (by rw [cvL_f1, ← hl]; rfl) hk
theorem aw_astore (X : Cx p s m args meth c cc nL own Ts D dA B zE) {i : Nat} {x : Option Ro} (hd : decode cc pc = .ok (.astore i, 2)) (hn : i < nL) (hl : (i, vR x) :: lv.filter (fun q => !(q.1 == i) && !(q.1 + 1 == i && acat q.2 == 2)) = lvn) (k : AW p l e R s m args below meth c Q D dA B zE nL ad0 M0 M cells slots (pc + 2) lvn st) : AW p l e R s m args below meth c Q D dA B zE nL ad0 M0 M cells slots pc lv (vR x :: st) := by
  intro ad H locs ls h1 h2 h3 h4 h5 h6 h7
  have hk := fun ls1 hl1 => k ad H locs ls1 h1 h2 h3 h4 hl1 (lvL_st h6 h7.hd hl) h7.tl
  cases x with
  | none => exact lv_astoreN X.1 X.2.1 hd h5 hn (by rw [cvL_f1, ← hl]; rfl) hk
  | some r => exact lv_astore X.1 X.2.1 hd h5 hn (by rw [cvL_f1, ← hl]; rfl) hk
theorem aw_iinc (X : Cx p s m args meth c cc nL own Ts D dA B zE) {i : Nat} {n : Int} {x y : Int32} (j : Nat) (hj : lv[j]? = some (i, vI x)) (hd : decode cc pc = .ok (.iinc i n, 3)) (hv : x + Int32.ofInt n = y) (hn : i < nL) (hl : (i, vI y) :: lv.filter (fun q => !(q.1 == i) && !(q.1 + 1 == i && acat q.2 == 2)) = lvn) (k : AW p l e R s m args below meth c Q D dA B zE nL ad0 M0 M cells slots (pc + 3) lvn st) : AW p l e R s m args below meth c Q D dA B zE nL ad0 M0 M cells slots pc lv st :=
  fun ad H locs ls h1 h2 h3 h4 h5 h6 h7 => lv_iinc X.1 X.2.1 hd h5 (cvL_at hj) hv hn (by rw [cvL_f1, ← hl]; rfl) (fun ls1 hl1 => k ad H locs ls1 h1 h2 h3 h4 hl1 (lvL_st h6 lv1_I hl) h7)
theorem lvL_pick {M : wM} {lv lvn : List (Nat × AV)} (ks : List Nat) (h : lvL M lv) (hl : ks.filterMap (fun k => lv[k]?) = lvn) : lvL M lvn := by
  subst hl
  intro q hq
  obtain ⟨k, -, hk⟩ := List.mem_filterMap.mp hq
  exact h q (List.mem_of_getElem? hk)
theorem aw_lv (ks : List Nat) (hl : ks.filterMap (fun k => lv[k]?) = lvn) (k : AW p l e R s m args below meth c Q D dA B zE nL ad0 M0 M cells slots pc lvn st) : AW p l e R s m args below meth c Q D dA B zE nL ad0 M0 M cells slots pc lv st :=
  fun ad H locs ls h1 h2 h3 h4 h5 h6 h7 => k ad H locs ls h1 h2 h3 h4 (lv_sub h5 ks (by
    rw [← hl]
    unfold lv_pick cvL
    rw [List.map_filterMap]
    congr 1
    funext k
    rw [List.getElem?_map])) (lvL_pick ks h6 hl) h7
theorem aw_widen {ce sl : Nat} (hc : cells ≤ ce) (hs : slots ≤ sl) (k : AW p l e R s m args below meth c Q D dA B zE nL ad0 M0 M ce sl pc lv st) : AW p l e R s m args below meth c Q D dA B zE nL ad0 M0 M cells slots pc lv st :=
  fun ad H locs ls h1 h2 h3 h4 h5 h6 h7 => W.widen hc hs (k ad H locs ls h1 h2 h3 h4 h5 h6 h7)
theorem aw_M {M' : wM} (h : M = M') (k : AW p l e R s m args below meth c Q D dA B zE nL ad0 M0 M' cells slots pc lv st) : AW p l e R s m args below meth c Q D dA B zE nL ad0 M0 M cells slots pc lv st := h ▸ k
theorem aw_icmp_eq (X : Cx p s m args meth c cc nL own Ts D dA B zE) {x y : Int32} {off : Int} {tgt : Nat} (hd : decode cc pc = .ok (.if_icmp .eq off, 3)) (ht : (pc : Int) + off = (tgt : Int)) (kt : x = y → AW p l e R s m args below meth c Q D dA B zE nL ad0 M0 M cells slots tgt lv st) (kf : ¬ x = y → AW p l e R s m args below meth c Q D dA B zE nL ad0 M0 M cells slots (pc + 3) lv st) : AW p l e R s m args below meth c Q D dA B zE nL ad0 M0 M cells slots pc lv (vI y :: vI x :: st) :=
  fun ad H locs ls h1 h2 h3 h4 h5 h6 h7 => lv_icmp_eq X.1 X.2.1 hd ht (fun q => kt q ad H locs ls h1 h2 h3 h4 h5 h6 h7.tl.tl) (fun q => kf q ad H locs ls h1 h2 h3 h4 h5 h6 h7.tl.tl)
theorem aw_icmp_ne (X : Cx p s m args meth c cc nL own Ts D dA B zE) {x y : Int32} {off : Int} {tgt : Nat} (hd : decode cc pc = .ok (.if_icmp .ne off, 3)) (ht : (pc : Int) + off = (tgt : Int)) (kt : ¬ x = y → AW p l e R s m args below meth c Q D dA B zE nL ad0 M0 M cells slots tgt lv st) (kf : x = y → AW p l e R s m args below meth c Q D dA B zE nL ad0 M0 M cells slots (pc + 3) lv st) : AW p l e R s m args below meth c Q D dA B zE nL ad0 M0 M cells slots pc lv (vI y :: vI x :: st) :=
  fun ad H locs ls h1 h2 h3 h4 h5 h6 h7 => lv_icmp_ne X.1 X.2.1 hd ht (fun q => kt q ad H locs ls h1 h2 h3 h4 h5 h6 h7.tl.tl) (fun q => kf q ad H locs ls h1 h2 h3 h4 h5 h6 h7.tl.tl)
theorem aw_icmp_lt (X : Cx p s m args meth c cc nL own Ts D dA B zE) {x y : Int32} {off : Int} {tgt : Nat} (hd : decode cc pc = .ok (.if_icmp .lt off, 3)) (ht : (pc : Int) + off = (tgt : Int)) (kt : x < y → AW p l e R s m args below meth c Q D dA B zE nL ad0 M0 M cells slots tgt lv st) (kf : ¬ x < y → AW p l e R s m args below meth c Q D dA B zE nL ad0 M0 M cells slots (pc + 3) lv st) : AW p l e R s m args below meth c Q D dA B zE nL ad0 M0 M cells slots pc lv (vI y :: vI x :: st) :=
  fun ad H locs ls h1 h2 h3 h4 h5 h6 h7 => lv_icmp_lt X.1 X.2.1 hd ht (fun q => kt q ad H locs ls h1 h2 h3 h4 h5 h6 h7.tl.tl) (fun q => kf q ad H locs ls h1 h2 h3 h4 h5 h6 h7.tl.tl)
theorem aw_icmp_ge (X : Cx p s m args meth c cc nL own Ts D dA B zE) {x y : Int32} {off : Int} {tgt : Nat} (hd : decode cc pc = .ok (.if_icmp .ge off, 3)) (ht : (pc : Int) + off = (tgt : Int)) (kt : y ≤ x → AW p l e R s m args below meth c Q D dA B zE nL ad0 M0 M cells slots tgt lv st) (kf : ¬ y ≤ x → AW p l e R s m args below meth c Q D dA B zE nL ad0 M0 M cells slots (pc + 3) lv st) : AW p l e R s m args below meth c Q D dA B zE nL ad0 M0 M cells slots pc lv (vI y :: vI x :: st) :=
  fun ad H locs ls h1 h2 h3 h4 h5 h6 h7 => lv_icmp_ge X.1 X.2.1 hd ht (fun q => kt q ad H locs ls h1 h2 h3 h4 h5 h6 h7.tl.tl) (fun q => kf q ad H locs ls h1 h2 h3 h4 h5 h6 h7.tl.tl)
theorem aw_icmp_gt (X : Cx p s m args meth c cc nL own Ts D dA B zE) {x y : Int32} {off : Int} {tgt : Nat} (hd : decode cc pc = .ok (.if_icmp .gt off, 3)) (ht : (pc : Int) + off = (tgt : Int)) (kt : y < x → AW p l e R s m args below meth c Q D dA B zE nL ad0 M0 M cells slots tgt lv st) (kf : ¬ y < x → AW p l e R s m args below meth c Q D dA B zE nL ad0 M0 M cells slots (pc + 3) lv st) : AW p l e R s m args below meth c Q D dA B zE nL ad0 M0 M cells slots pc lv (vI y :: vI x :: st) :=
  fun ad H locs ls h1 h2 h3 h4 h5 h6 h7 => lv_icmp_gt X.1 X.2.1 hd ht (fun q => kt q ad H locs ls h1 h2 h3 h4 h5 h6 h7.tl.tl) (fun q => kf q ad H locs ls h1 h2 h3 h4 h5 h6 h7.tl.tl)
theorem aw_icmp_le (X : Cx p s m args meth c cc nL own Ts D dA B zE) {x y : Int32} {off : Int} {tgt : Nat} (hd : decode cc pc = .ok (.if_icmp .le off, 3)) (ht : (pc : Int) + off = (tgt : Int)) (kt : x ≤ y → AW p l e R s m args below meth c Q D dA B zE nL ad0 M0 M cells slots tgt lv st) (kf : ¬ x ≤ y → AW p l e R s m args below meth c Q D dA B zE nL ad0 M0 M cells slots (pc + 3) lv st) : AW p l e R s m args below meth c Q D dA B zE nL ad0 M0 M cells slots pc lv (vI y :: vI x :: st) :=
  fun ad H locs ls h1 h2 h3 h4 h5 h6 h7 => lv_icmp_le X.1 X.2.1 hd ht (fun q => kt q ad H locs ls h1 h2 h3 h4 h5 h6 h7.tl.tl) (fun q => kf q ad H locs ls h1 h2 h3 h4 h5 h6 h7.tl.tl)
theorem aw_if_eq (X : Cx p s m args meth c cc nL own Ts D dA B zE) {x : Int32} {off : Int} {tgt : Nat} (hd : decode cc pc = .ok (.ifCond .eq off, 3)) (ht : (pc : Int) + off = (tgt : Int)) (kt : x = 0 → AW p l e R s m args below meth c Q D dA B zE nL ad0 M0 M cells slots tgt lv st) (kf : ¬ x = 0 → AW p l e R s m args below meth c Q D dA B zE nL ad0 M0 M cells slots (pc + 3) lv st) : AW p l e R s m args below meth c Q D dA B zE nL ad0 M0 M cells slots pc lv (vI x :: st) :=
  fun ad H locs ls h1 h2 h3 h4 h5 h6 h7 => lv_if_eq X.1 X.2.1 hd ht (fun q => kt q ad H locs ls h1 h2 h3 h4 h5 h6 h7.tl) (fun q => kf q ad H locs ls h1 h2 h3 h4 h5 h6 h7.tl)
theorem aw_if_ne (X : Cx p s m args meth c cc nL own Ts D dA B zE) {x : Int32} {off : Int} {tgt : Nat} (hd : decode cc pc = .ok (.ifCond .ne off, 3)) (ht : (pc : Int) + off = (tgt : Int)) (kt : ¬ x = 0 → AW p l e R s m args below meth c Q D dA B zE nL ad0 M0 M cells slots tgt lv st) (kf : x = 0 → AW p l e R s m args below meth c Q D dA B zE nL ad0 M0 M cells slots (pc + 3) lv st) : AW p l e R s m args below meth c Q D dA B zE nL ad0 M0 M cells slots pc lv (vI x :: st) :=
  fun ad H locs ls h1 h2 h3 h4 h5 h6 h7 => lv_if_ne X.1 X.2.1 hd ht (fun q => kt q ad H locs ls h1 h2 h3 h4 h5 h6 h7.tl) (fun q => kf q ad H locs ls h1 h2 h3 h4 h5 h6 h7.tl)
theorem aw_if_lt (X : Cx p s m args meth c cc nL own Ts D dA B zE) {x : Int32} {off : Int} {tgt : Nat} (hd : decode cc pc = .ok (.ifCond .lt off, 3)) (ht : (pc : Int) + off = (tgt : Int)) (kt : x < 0 → AW p l e R s m args below meth c Q D dA B zE nL ad0 M0 M cells slots tgt lv st) (kf : ¬ x < 0 → AW p l e R s m args below meth c Q D dA B zE nL ad0 M0 M cells slots (pc + 3) lv st) : AW p l e R s m args below meth c Q D dA B zE nL ad0 M0 M cells slots pc lv (vI x :: st) :=
  fun ad H locs ls h1 h2 h3 h4 h5 h6 h7 => lv_if_lt X.1 X.2.1 hd ht (fun q => kt q ad H locs ls h1 h2 h3 h4 h5 h6 h7.tl) (fun q => kf q ad H locs ls h1 h2 h3 h4 h5 h6 h7.tl)
theorem aw_if_ge (X : Cx p s m args meth c cc nL own Ts D dA B zE) {x : Int32} {off : Int} {tgt : Nat} (hd : decode cc pc = .ok (.ifCond .ge off, 3)) (ht : (pc : Int) + off = (tgt : Int)) (kt : 0 ≤ x → AW p l e R s m args below meth c Q D dA B zE nL ad0 M0 M cells slots tgt lv st) (kf : ¬ 0 ≤ x → AW p l e R s m args below meth c Q D dA B zE nL ad0 M0 M cells slots (pc + 3) lv st) : AW p l e R s m args below meth c Q D dA B zE nL ad0 M0 M cells slots pc lv (vI x :: st) :=
  fun ad H locs ls h1 h2 h3 h4 h5 h6 h7 => lv_if_ge X.1 X.2.1 hd ht (fun q => kt q ad H locs ls h1 h2 h3 h4 h5 h6 h7.tl) (fun q => kf q ad H locs ls h1 h2 h3 h4 h5 h6 h7.tl)
theorem aw_if_gt (X : Cx p s m args meth c cc nL own Ts D dA B zE) {x : Int32} {off : Int} {tgt : Nat} (hd : decode cc pc = .ok (.ifCond .gt off, 3)) (ht : (pc : Int) + off = (tgt : Int)) (kt : 0 < x → AW p l e R s m args below meth c Q D dA B zE nL ad0 M0 M cells slots tgt lv st) (kf : ¬ 0 < x → AW p l e R s m args below meth c Q D dA B zE nL ad0 M0 M cells slots (pc + 3) lv st) : AW p l e R s m args below meth c Q D dA B zE nL ad0 M0 M cells slots pc lv (vI x :: st) :=
  fun ad H locs ls h1 h2 h3 h4 h5 h6 h7 => lv_if_gt X.1 X.2.1 hd ht (fun q => kt q ad H locs ls h1 h2 h3 h4 h5 h6 h7.tl) (fun q => kf q ad H locs ls h1 h2 h3 h4 h5 h6 h7.tl)
theorem aw_if_le (X : Cx p s m args meth c cc nL own Ts D dA B zE) {x : Int32} {off : Int} {tgt : Nat} (hd : decode cc pc = .ok (.ifCond .le off, 3)) (ht : (pc : Int) + off = (tgt : Int)) (kt : x ≤ 0 → AW p l e R s m args below meth c Q D dA B zE nL ad0 M0 M cells slots tgt lv st) (kf : ¬ x ≤ 0 → AW p l e R s m args below meth c Q D dA B zE nL ad0 M0 M cells slots (pc + 3) lv st) : AW p l e R s m args below meth c Q D dA B zE nL ad0 M0 M cells slots pc lv (vI x :: st) :=
  fun ad H locs ls h1 h2 h3 h4 h5 h6 h7 => lv_if_le X.1 X.2.1 hd ht (fun q => kt q ad H locs ls h1 h2 h3 h4 h5 h6 h7.tl) (fun q => kf q ad H locs ls h1 h2 h3 h4 h5 h6 h7.tl)
theorem aw_goto (X : Cx p s m args meth c cc nL own Ts D dA B zE) {off : Int} {tgt : Nat} (hd : decode cc pc = .ok (.goto off, 3)) (ht : (pc : Int) + off = (tgt : Int)) (k : AW p l e R s m args below meth c Q D dA B zE nL ad0 M0 M cells slots tgt lv st) : AW p l e R s m args below meth c Q D dA B zE nL ad0 M0 M cells slots pc lv st :=
  fun ad H locs ls h1 h2 h3 h4 h5 h6 h7 => lv_goto X.1 X.2.1 hd ht (k ad H locs ls h1 h2 h3 h4 h5 h6 h7)
theorem aw_ifnull (X : Cx p s m args meth c cc nL own Ts D dA B zE) {x : Option Ro} {off : Int} {tgt : Nat} (hd : decode cc pc = .ok (.ifnull off, 3)) (ht : (pc : Int) + off = (tgt : Int)) (kt : x = none → AW p l e R s m args below meth c Q D dA B zE nL ad0 M0 M cells slots tgt lv st) (kf : ¬ x = none → AW p l e R s m args below meth c Q D dA B zE nL ad0 M0 M cells slots (pc + 3) lv st) : AW p l e R s m args below meth c Q D dA B zE nL ad0 M0 M cells slots pc lv (vR x :: st) := by
  intro ad H locs ls h1 h2 h3 h4 h5 h6 h7
  cases x with
  | none => exact lv_ifnullN X.1 X.2.1 hd ht (kt rfl ad H locs ls h1 h2 h3 h4 h5 h6 h7.tl)
  | some r => exact lv_ifnull X.1 X.2.1 hd (kf (fun q => nomatch q) ad H locs ls h1 h2 h3 h4 h5 h6 h7.tl)
theorem aw_ifnonnull (X : Cx p s m args meth c cc nL own Ts D dA B zE) {x : Option Ro} {off : Int} {tgt : Nat} (hd : decode cc pc = .ok (.ifnonnull off, 3)) (ht : (pc : Int) + off = (tgt : Int)) (kt : ¬ x = none → AW p l e R s m args below meth c Q D dA B zE nL ad0 M0 M cells slots tgt lv st) (kf : x = none → AW p l e R s m args below meth c Q D dA B zE nL ad0 M0 M cells slots (pc + 3) lv st) : AW p l e R s m args below meth c Q D dA B zE nL ad0 M0 M cells slots pc lv (vR x :: st) := by
  intro ad H locs ls h1 h2 h3 h4 h5 h6 h7
  cases x with
  | none => exact lv_ifnonnullN X.1 X.2.1 hd (kf rfl ad H locs ls h1 h2 h3 h4 h5 h6 h7.tl)
  | some r => exact lv_ifnonnull X.1 X.2.1 hd ht (kt (fun q => nomatch q) ad H locs ls h1 h2 h3 h4 h5 h6 h7.tl)
theorem aw_tableIn (X : Cx p s m args meth c cc nL own Ts D dA B zE) {dflt lo hi : Int} {offs : Array Int} {len : Nat} {x y : Int32} {off : Int} {tgt : Nat} (hd : decode cc pc = .ok (.tableswitch dflt lo hi offs, len)) (hxy : x = y) (hq1 : ¬ y.toInt < lo) (hq2 : ¬ hi < y.toInt) (ho : offs[(y.toInt - lo).toNat]? = some off) (ht : (pc : Int) + off = (tgt : Int)) (k : AW p l e R s m args below meth c Q D dA B zE nL ad0 M0 M cells slots tgt lv st) : AW p l e R s m args below meth c Q D dA B zE nL ad0 M0 M cells slots pc lv (vI x :: st) := by
  subst hxy
  exact fun ad H locs ls h1 h2 h3 h4 h5 h6 h7 => lv_tableIn X.1 X.2.1 hd hq1 hq2 ho ht (k ad H locs ls h1 h2 h3 h4 h5 h6 h7.tl)
theorem aw_tableOut (X : Cx p s m args meth c cc nL own Ts D dA B zE) {dflt lo hi : Int} {offs : Array Int} {len : Nat} {x : Int32} {tgt : Nat} (hd : decode cc pc = .ok (.tableswitch dflt lo hi offs, len)) (h : x.toInt < lo ∨ hi < x.toInt) (ht : (pc : Int) + dflt = (tgt : Int)) (k : AW p l e R s m args below meth c Q D dA B zE nL ad0 M0 M cells slots tgt lv st) : AW p l e R s m args below meth c Q D dA B zE nL ad0 M0 M cells slots pc lv (vI x :: st) :=
  fun ad H locs ls h1 h2 h3 h4 h5 h6 h7 => lv_tableOut X.1 X.2.1 hd h ht (k ad H locs ls h1 h2 h3 h4 h5 h6 h7.tl)
theorem aw_lookup (X : Cx p s m args meth c cc nL own Ts D dA B zE) {dflt : Int} {ps : Array (Int × Int)} {len : Nat} {x : Int32} {off : Int} {tgt : Nat} (hd : decode cc pc = .ok (.lookupswitch dflt ps, len)) (hp : (ps.toList.zip (ps.toList.drop 1)).all (fun (a, next) => a.1 < next.1) = true) (ho : Op.lookupswitch.offset ps.toList dflt x.toInt = off) (ht : (pc : Int) + off = (tgt : Int)) (k : AW p l e R s m args below meth c Q D dA B zE nL ad0 M0 M cells slots tgt lv st) : AW p l e R s m args below meth c Q D dA B zE nL ad0 M0 M cells slots pc lv (vI x :: st) :=
  fun ad H locs ls h1 h2 h3 h4 h5 h6 h7 => lv_lookup X.1 X.2.1 hd hp ho ht (k ad H locs ls h1 h2 h3 h4 h5 h6 h7.tl)
theorem aw_ldc (X : Cx p s m args meth c cc nL own Ts D dA B zE) {index : Nat} {v : Int32} (hc : Cond.constant own index v ∈ Ts) (hd : decode cc pc = .ok (.ldc index, 2)) (k : AW p l e R s m args below meth c Q D dA B zE nL ad0 M0 M cells slots (pc + 2) lv (vI v :: st)) : AW p l e R s m args below meth c Q D dA B zE nL ad0 M0 M cells slots pc lv st :=
  fun ad H locs ls h1 h2 h3 h4 h5 h6 h7 => lv_ldc X.1 X.2.1 X.2.2.2.1 (X.2.2.2.2.1 _ hc) hd (k ad H locs ls h1 h2 h3 h4 h5 h6 h7.ni)
theorem aw_ldc2 (X : Cx p s m args meth c cc nL own Ts D dA B zE) {index : Nat} {v : Int64} (hc : Cond.constantLong own index v ∈ Ts) (hd : decode cc pc = .ok (.ldc2_w index, 3)) (k : AW p l e R s m args below meth c Q D dA B zE nL ad0 M0 M cells slots (pc + 3) lv (vL v :: st)) : AW p l e R s m args below meth c Q D dA B zE nL ad0 M0 M cells slots pc lv st :=
  fun ad H locs ls h1 h2 h3 h4 h5 h6 h7 => lv_ldc2 X.1 X.2.1 X.2.2.2.1 (X.2.2.2.2.1 _ hc) hd (k ad H locs ls h1 h2 h3 h4 h5 h6 h7.nl)

end AWR
