section AW2
variable {p : Program} {l : Launch} {e : Env} {R : Room} {s : State} {m : MethodId} {args : Array Value} {below : List Frame} {meth : Method} {c : Code} {Q : State → Prop} {D : va_G} {dA : Nat → ClassId} {B : Nat} {zE : ZT} {nL : Nat} {ad0 : Ro → Nat} {M0 M : wM} {cells slots pc : Nat} {lv lvn : List (Nat × AV)} {st : List AV} {cc : ByteArray} {own : String} {Ts : List Cond}

theorem Cx.hK (X : Cx p s m args meth c cc nL own Ts D dA B zE) : va_K D classes (tysA dA) s := X.2.2.2.2.2.1.1
theorem Cx.hts (X : Cx p s m args meth c cc nL own Ts D dA B zE) : ∀ w ∈ Ts, w.before args s = true := X.2.2.2.2.1
theorem Cx.hown (X : Cx p s m args meth c cc nL own Ts D dA B zE) : s.vm.findClass own = some m.cls := X.2.2.2.1
theorem Cx.hG (X : Cx p s m args meth c cc nL own Ts D dA B zE) : gP D dA B zE s := X.2.2.2.2.2.1
theorem Cx.hlk (X : Cx p s m args meth c cc nL own Ts D dA B zE) : meth.locks = false := X.2.2.2.2.2.2
theorem Cx.hA (X : Cx p s m args meth c cc nL own Ts D dA B zE) : ∀ q, s.heap.size ≤ q → wA B q := fun _ h => Nat.le_trans X.hG.2.1 h
theorem WA.ro {ad : Ro → Nat} {H : Heap} {r : Ro} {ci : Nat} {fs : List AV} (h : WA D dA B zE ad M H) (hM : M r = some (ob ci fs)) : r.1 < 90 := (h.2.1.okO hM).2
theorem WA.ra {ad : Ro → Nat} {H : Heap} {r : Ro} {t n : Nat} {f : AC} (h : WA D dA B zE ad M H) (hM : M r = some (.inr (t, n, f))) (hn : 0 < n) : r.1 < 90 := by
  rcases h.2.1 r _ hM with k | k | k | k
  · exact k.2
  · have := k.2
    cases this
    exact absurd hn (by decide)
  · have := k.2
    cases this
    exact absurd hn (by decide)
  · have := k.2
    cases this
    exact absurd hn (by decide)
theorem vp_in.pos {x : Int32} {n : Nat} (h : vp_in x n) : 0 < n := by
  rcases Nat.eq_zero_or_pos n with g | g
  · exact absurd (Or.inr (by omega)) h
  · exact g
theorem WA.put {ad : Ro → Nat} {H H1 : Heap} {r : Ro} {e1 : AE} (h : WA D dA B zE ad M H) (hr : r.1 < 90) (hok : okE (up M r e1) e1) (hw : wr D classes (wA B) (w2 (cW dA ad M) r.1 r.2 (some (ad r, cvE dA ad e1))) H1) : WA D dA B zE ad (up M r e1) H1 := by
  rw [cW_up hr] at hw
  refine ⟨hw, h.2.1.up hr hok, h.2.2.1, ?_, ?_, ?_⟩
  · rw [up_n (fun q => by rw [← q] at hr; exact absurd hr (by decide))]
    exact h.2.2.2.1
  · rw [up_n (fun q => by rw [← q] at hr; exact absurd hr (by decide))]
    exact h.2.2.2.2.1
  · rw [up_n (fun q => by rw [← q] at hr; exact absurd hr (by decide))]
    exact h.2.2.2.2.2
theorem WA.new {ad : Ro → Nat} {H H1 : Heap} {r : Ro} {q : Nat} {e1 : AE} (h : WA D dA B zE ad M H) (hn : M r = none) (hr : r.1 < 90) (hok : okE (up M r e1) e1) (hw : wr D classes (wA B) (w2 (cW dA ad M) r.1 r.2 (some (q, cvE dA (adN ad r q) e1))) H1) : WA D dA B zE (adN ad r q) (up M r e1) H1 := by
  rw [cW_new h.2.1 hn hr] at hw
  have hne : ((90, 0) : Ro) ≠ r := fun q => by rw [← q] at hr; exact absurd hr (by decide)
  have hne1 : ((91, 0) : Ro) ≠ r := fun q => by rw [← q] at hr; exact absurd hr (by decide)
  have hne2 : ((92, 0) : Ro) ≠ r := fun q => by rw [← q] at hr; exact absurd hr (by decide)
  refine ⟨hw, h.2.1.up hr hok, ⟨?_, ?_, ?_⟩, ?_, ?_, ?_⟩
  · rw [adN_xt (q := q) hn (90, 0) (by rw [h.2.2.2.1]; exact fun z => nomatch z)]
    exact h.2.2.1.1
  · rw [adN_xt (q := q) hn (91, 0) (by rw [h.2.2.2.2.1]; exact fun z => nomatch z)]
    exact h.2.2.1.2.1
  · rw [adN_xt (q := q) hn (92, 0) (by rw [h.2.2.2.2.2]; exact fun z => nomatch z)]
    exact h.2.2.1.2.2
  · rw [up_n hne]
    exact h.2.2.2.1
  · rw [up_n hne1]
    exact h.2.2.2.2.1
  · rw [up_n hne2]
    exact h.2.2.2.2.2
theorem okE_set {ci k : Nat} {fs : List AV} {v : AV} {r : Ro} (hM : okE M (ob ci fs)) (hv : lv1 M v) : okE (up M r (ob ci (fs.set k v))) (ob ci (fs.set k v)) := fun w hw => by
  rcases List.mem_or_eq_of_mem_set hw with g | g
  · exact (hM w g).sb sb_up1
  · rw [g]
    exact hv.sb sb_up1
/-- the heap's steps, as the method's text has them -/
def gI (M : wM) (o : Option Ro) (ci k : Nat) (K : Int32 → Prop) : Prop := ∃ (r : Ro) (fs : List AV) (x : Int32), o = some r ∧ M r = some (ob ci fs) ∧ fs[k]? = some (vI x) ∧ K x
def gL (M : wM) (o : Option Ro) (ci k : Nat) (K : Int64 → Prop) : Prop := ∃ (r : Ro) (fs : List AV) (x : Int64), o = some r ∧ M r = some (ob ci fs) ∧ fs[k]? = some (vL x) ∧ K x
def gR (M : wM) (o : Option Ro) (ci k : Nat) (K : Option Ro → Prop) : Prop := ∃ (r : Ro) (fs : List AV) (x : Option Ro), o = some r ∧ M r = some (ob ci fs) ∧ fs[k]? = some (vR x) ∧ K x
def pF (M : wM) (o : Option Ro) (ci k : Nat) (v : AV) (K : wM → Prop) : Prop := ∃ (r : Ro) (fs : List AV), o = some r ∧ M r = some (ob ci fs) ∧ k < fs.length ∧ K (up M r (ob ci (fs.set k v)))
def pZ (M : wM) (o : Option Ro) (ci k : Nat) (x : Int32) (K : wM → Prop) : Prop := (x = 0 ∨ x = 1) ∧ pF M o ci k (vI x) K
def lI (M : wM) (o : Option Ro) (x : Int32) (K : Int32 → Prop) : Prop := ∃ (r : Ro) (n : Nat) (f : Nat → Int32), o = some r ∧ M r = some (ai 0 n f) ∧ vp_in x n ∧ K (f x.toNatClampNeg)
def lZ (M : wM) (o : Option Ro) (x : Int32) (K : Int32 → Prop) : Prop := ∃ (r : Ro) (n : Nat) (f : Nat → Int32), o = some r ∧ M r = some (ai 2 n f) ∧ vp_in x n ∧ K (f x.toNatClampNeg)
def lL (M : wM) (o : Option Ro) (x : Int32) (K : Int64 → Prop) : Prop := ∃ (r : Ro) (n : Nat) (f : Nat → Int64), o = some r ∧ M r = some (al 1 n f) ∧ vp_in x n ∧ K (f x.toNatClampNeg)
def lR (M : wM) (o : Option Ro) (x : Int32) (K : Option Ro → Prop) : Prop := ∃ (r : Ro) (t n : Nat) (f : Nat → Option Ro) (C : String), o = some r ∧ M r = some (ar t n f) ∧ aT[t]? = some (.object C) ∧ vp_in x n ∧ K (f x.toNatClampNeg)
def sI (M : wM) (o : Option Ro) (x v : Int32) (K : wM → Prop) : Prop := ∃ (r : Ro) (n : Nat) (f : Nat → Int32), o = some r ∧ M r = some (ai 0 n f) ∧ vp_in x n ∧ K (up M r (ai 0 n (upd f x.toNatClampNeg v)))
def sZ (M : wM) (o : Option Ro) (x v : Int32) (K : wM → Prop) : Prop := ∃ (r : Ro) (n : Nat) (f : Nat → Int32), o = some r ∧ M r = some (ai 2 n f) ∧ vp_in x n ∧ K (up M r (ai 2 n (upd f x.toNatClampNeg (vp_nar .boolean v))))
def sL (M : wM) (o : Option Ro) (x : Int32) (v : Int64) (K : wM → Prop) : Prop := ∃ (r : Ro) (n : Nat) (f : Nat → Int64), o = some r ∧ M r = some (al 1 n f) ∧ vp_in x n ∧ K (up M r (al 1 n (vp_updL f x.toNatClampNeg v)))
/-- an object of class ci may stand in an array of type t -/
def asg (t ci : Nat) : Prop := ∃ (q : vw_C) (E : String), classes[ci]? = some q ∧ aT[t]? = some (.object E) ∧ (E = q.1 ∨ Cond.castable q.1 E ∈ nestW)
def sR (M : wM) (o : Option Ro) (x : Int32) (v : Option Ro) (K : wM → Prop) : Prop := ∃ (r : Ro) (t n : Nat) (f : Nat → Option Ro) (C : String), o = some r ∧ M r = some (ar t n f) ∧ aT[t]? = some (.object C) ∧ vp_in x n ∧ (∀ q, v = some q → ∃ ci fs, M q = some (ob ci fs) ∧ asg t ci) ∧ K (up M r (ar t n (va_up f x.toNatClampNeg v)))
def aN (M : wM) (o : Option Ro) (K : Int32 → Prop) : Prop := ∃ (r : Ro) (t n : Nat) (f : AC), o = some r ∧ M r = some (.inr (t, n, f)) ∧ t < 98 ∧ K (nI n)
def nA (M : wM) (x : Int32) (bd : Nat) (e : Nat → AE) (K : Option Ro → wM → Prop) : Prop := ¬ x < 0 ∧ x.toNatClampNeg ≤ bd ∧ ∃ r : Ro, r.1 < 90 ∧ M r = none ∧ K (some r) (up M r (e x.toNatClampNeg))
def nO (M : wM) (ci : Nat) (fs : List AV) (K : Option Ro → wM → Prop) : Prop := ∃ r : Ro, r.1 < 90 ∧ M r = none ∧ K (some r) (up M r (ob ci fs))
def ck (M : wM) (o : Option Ro) (ci : Nat) (K : Prop) : Prop := (∀ r, o = some r → ∃ fs, M r = some (ob ci fs)) ∧ K
def cV (M : wM) (o : Option Ro) (ci : Nat) (K : Prop) : Prop := (∃ r fs, o = some r ∧ M r = some (ob ci fs)) ∧ K
def cpI (M : wM) (o1 : Option Ro) (sp : Int32) (o2 : Option Ro) (dp n : Int32) (K : wM → Prop) : Prop := ∃ (r1 r2 : Ro) (n1 n2 : Nat) (f g : Nat → Int32), o1 = some r1 ∧ o2 = some r2 ∧ M r1 = some (ai 0 n1 f) ∧ M r2 = some (ai 0 n2 g) ∧ ¬ sp < 0 ∧ ¬ dp < 0 ∧ ¬ n < 0 ∧ sp.toNatClampNeg + n.toNatClampNeg ≤ n1 ∧ dp.toNatClampNeg + n.toNatClampNeg ≤ n2 ∧ 0 < n1 ∧ 0 < n2 ∧ K (up M r2 (ai 0 n2 (va_cpy f g sp.toNatClampNeg dp.toNatClampNeg n.toNatClampNeg)))
def cpL (M : wM) (o1 : Option Ro) (sp : Int32) (o2 : Option Ro) (dp n : Int32) (K : wM → Prop) : Prop := ∃ (r1 r2 : Ro) (n1 n2 : Nat) (f g : Nat → Int64), o1 = some r1 ∧ o2 = some r2 ∧ M r1 = some (al 1 n1 f) ∧ M r2 = some (al 1 n2 g) ∧ ¬ sp < 0 ∧ ¬ dp < 0 ∧ ¬ n < 0 ∧ sp.toNatClampNeg + n.toNatClampNeg ≤ n1 ∧ dp.toNatClampNeg + n.toNatClampNeg ≤ n2 ∧ 0 < n1 ∧ 0 < n2 ∧ K (up M r2 (al 1 n2 (va_cpy f g sp.toNatClampNeg dp.toNatClampNeg n.toNatClampNeg)))
def cpR (M : wM) (o1 : Option Ro) (sp : Int32) (o2 : Option Ro) (dp n : Int32) (K : wM → Prop) : Prop := ∃ (r1 r2 : Ro) (t1 t2 n1 n2 ci : Nat) (f g : Nat → Option Ro) (q : vw_C) (E1 E2 : String), o1 = some r1 ∧ o2 = some r2 ∧ M r1 = some (ar t1 n1 f) ∧ M r2 = some (ar t2 n2 g) ∧ aT[t1]? = some (.object E1) ∧ aT[t2]? = some (.object E2) ∧ classes[ci]? = some q ∧ Cond.castable q.1 E2 ∈ nestW ∧ ¬ sp < 0 ∧ ¬ dp < 0 ∧ ¬ n < 0 ∧ sp.toNatClampNeg + n.toNatClampNeg ≤ n1 ∧ dp.toNatClampNeg + n.toNatClampNeg ≤ n2 ∧ 0 < n1 ∧ 0 < n2 ∧ (∀ i, i < n.toNatClampNeg → ∀ r, f (sp.toNatClampNeg + i) = some r → ∃ fs, M r = some (ob ci fs)) ∧ K (up M r2 (ar t2 n2 (va_cpy f g sp.toNatClampNeg dp.toNatClampNeg n.toNatClampNeg)))

theorem aw_gI (X : Cx p s m args meth c cc nL own Ts D dA B zE) {ci : Nat} {C : String} {T : u_T} {N : Nat} (hc : classes[ci]? = some (C, T, N)) (hin : ∀ w ∈ u_ws C T N, w ∈ Ts) {index : Nat} {ref : String} (k : Nat) (hk : k < N) (hl : Cond.fieldLink own index ref (T k).2.1 (T k).2.2.1 ∈ Ts) (hsm : ∀ (a : Array Value) (u : State), (∀ w ∈ Ts, w.before a u = true) → ∀ x, u.fieldFound? (T k).1 (T k).2.1 (T k).2.2.1 = some x → u.fieldFound? ref (T k).2.1 (T k).2.2.1 = some x) (hd : decode cc pc = .ok (.getfield index, 3)) {o : Option Ro} (h : gI M o ci k (fun x => AW p l e R s m args below meth c Q D dA B zE nL ad0 M0 M cells slots (pc + 3) lv (vI x :: st))) : AW p l e R s m args below meth c Q D dA B zE nL ad0 M0 M cells slots pc lv (vR o :: st) := by
  obtain ⟨r, fs, x, rfl, hM, hv, kk⟩ := h
  intro ad H locs ls h1 h2 h3 h4 h5 h6 h7
  exact wr_get X.1 X.2.1 X.hts hin X.hown X.hK h3.1 r.1 r.2 (cW_at (h3.ro hM) hM) hc k hk (X.hts _ hl) (hsm _ _ X.hts) (by rw [List.getElem?_map, hv]; rfl) hd (kk ad H locs ls h1 h2 h3 h4 h5 h6 h7.tl.ni)
theorem aw_gIN (X : Cx p s m args meth c cc nL own Ts D dA B zE) {ci : Nat} {C : String} {T : u_T} {N : Nat} (hc : classes[ci]? = some (C, T, N)) (hin : ∀ w ∈ u_ws C T N, w ∈ Ts) {index : Nat} {ref : String} (k : Nat) (hk : k < N) {host : String} (hl : Cond.fieldLinkNest own index ref (T k).2.1 (T k).2.2.1 host ∈ nestW) (hsm : ∀ (a : Array Value) (u : State), (∀ w ∈ Ts, w.before a u = true) → ∀ x, u.fieldFound? (T k).1 (T k).2.1 (T k).2.2.1 = some x → u.fieldFound? ref (T k).2.1 (T k).2.2.1 = some x) (hd : decode cc pc = .ok (.getfield index, 3)) {o : Option Ro} (h : gI M o ci k (fun x => AW p l e R s m args below meth c Q D dA B zE nL ad0 M0 M cells slots (pc + 3) lv (vI x :: st))) : AW p l e R s m args below meth c Q D dA B zE nL ad0 M0 M cells slots pc lv (vR o :: st) := by
  obtain ⟨r, fs, x, rfl, hM, hv, kk⟩ := h
  intro ad H locs ls h1 h2 h3 h4 h5 h6 h7
  exact wr_getN X.1 X.2.1 X.hts hin X.hown X.hK h3.1 r.1 r.2 (cW_at (h3.ro hM) hM) hc k hk ((X.hG.2.2.2 _ hl).use (nestW_tab _ hl)) (hsm _ _ X.hts) (by rw [List.getElem?_map, hv]; rfl) hd (kk ad H locs ls h1 h2 h3 h4 h5 h6 h7.tl.ni)
theorem aw_gL (X : Cx p s m args meth c cc nL own Ts D dA B zE) {ci : Nat} {C : String} {T : u_T} {N : Nat} (hc : classes[ci]? = some (C, T, N)) (hin : ∀ w ∈ u_ws C T N, w ∈ Ts) {index : Nat} {ref : String} (k : Nat) (hk : k < N) (hl : Cond.fieldLink own index ref (T k).2.1 (T k).2.2.1 ∈ Ts) (hsm : ∀ (a : Array Value) (u : State), (∀ w ∈ Ts, w.before a u = true) → ∀ x, u.fieldFound? (T k).1 (T k).2.1 (T k).2.2.1 = some x → u.fieldFound? ref (T k).2.1 (T k).2.2.1 = some x) (hd : decode cc pc = .ok (.getfield index, 3)) {o : Option Ro} (h : gL M o ci k (fun x => AW p l e R s m args below meth c Q D dA B zE nL ad0 M0 M cells slots (pc + 3) lv (vL x :: st))) : AW p l e R s m args below meth c Q D dA B zE nL ad0 M0 M cells slots pc lv (vR o :: st) := by
  obtain ⟨r, fs, x, rfl, hM, hv, kk⟩ := h
  intro ad H locs ls h1 h2 h3 h4 h5 h6 h7
  exact wr_get X.1 X.2.1 X.hts hin X.hown X.hK h3.1 r.1 r.2 (cW_at (h3.ro hM) hM) hc k hk (X.hts _ hl) (hsm _ _ X.hts) (by rw [List.getElem?_map, hv]; rfl) hd (kk ad H locs ls h1 h2 h3 h4 h5 h6 h7.tl.nl)
theorem aw_gLN (X : Cx p s m args meth c cc nL own Ts D dA B zE) {ci : Nat} {C : String} {T : u_T} {N : Nat} (hc : classes[ci]? = some (C, T, N)) (hin : ∀ w ∈ u_ws C T N, w ∈ Ts) {index : Nat} {ref : String} (k : Nat) (hk : k < N) {host : String} (hl : Cond.fieldLinkNest own index ref (T k).2.1 (T k).2.2.1 host ∈ nestW) (hsm : ∀ (a : Array Value) (u : State), (∀ w ∈ Ts, w.before a u = true) → ∀ x, u.fieldFound? (T k).1 (T k).2.1 (T k).2.2.1 = some x → u.fieldFound? ref (T k).2.1 (T k).2.2.1 = some x) (hd : decode cc pc = .ok (.getfield index, 3)) {o : Option Ro} (h : gL M o ci k (fun x => AW p l e R s m args below meth c Q D dA B zE nL ad0 M0 M cells slots (pc + 3) lv (vL x :: st))) : AW p l e R s m args below meth c Q D dA B zE nL ad0 M0 M cells slots pc lv (vR o :: st) := by
  obtain ⟨r, fs, x, rfl, hM, hv, kk⟩ := h
  intro ad H locs ls h1 h2 h3 h4 h5 h6 h7
  exact wr_getN X.1 X.2.1 X.hts hin X.hown X.hK h3.1 r.1 r.2 (cW_at (h3.ro hM) hM) hc k hk ((X.hG.2.2.2 _ hl).use (nestW_tab _ hl)) (hsm _ _ X.hts) (by rw [List.getElem?_map, hv]; rfl) hd (kk ad H locs ls h1 h2 h3 h4 h5 h6 h7.tl.nl)
theorem aw_gR (X : Cx p s m args meth c cc nL own Ts D dA B zE) {ci : Nat} {C : String} {T : u_T} {N : Nat} (hc : classes[ci]? = some (C, T, N)) (hin : ∀ w ∈ u_ws C T N, w ∈ Ts) {index : Nat} {ref : String} (k : Nat) (hk : k < N) (hl : Cond.fieldLink own index ref (T k).2.1 (T k).2.2.1 ∈ Ts) (hsm : ∀ (a : Array Value) (u : State), (∀ w ∈ Ts, w.before a u = true) → ∀ x, u.fieldFound? (T k).1 (T k).2.1 (T k).2.2.1 = some x → u.fieldFound? ref (T k).2.1 (T k).2.2.1 = some x) (hd : decode cc pc = .ok (.getfield index, 3)) {o : Option Ro} (h : gR M o ci k (fun x => AW p l e R s m args below meth c Q D dA B zE nL ad0 M0 M cells slots (pc + 3) lv (vR x :: st))) : AW p l e R s m args below meth c Q D dA B zE nL ad0 M0 M cells slots pc lv (vR o :: st) := by
  obtain ⟨r, fs, x, rfl, hM, hv, kk⟩ := h
  intro ad H locs ls h1 h2 h3 h4 h5 h6 h7
  exact wr_get X.1 X.2.1 X.hts hin X.hown X.hK h3.1 r.1 r.2 (cW_at (h3.ro hM) hM) hc k hk (X.hts _ hl) (hsm _ _ X.hts) (by rw [List.getElem?_map, hv]; rfl) hd (kk ad H locs ls h1 h2 h3 h4 h5 h6 (h7.tl.cn ((h3.2.1.okO hM).1 _ (List.mem_of_getElem? hv))))
theorem aw_gRN (X : Cx p s m args meth c cc nL own Ts D dA B zE) {ci : Nat} {C : String} {T : u_T} {N : Nat} (hc : classes[ci]? = some (C, T, N)) (hin : ∀ w ∈ u_ws C T N, w ∈ Ts) {index : Nat} {ref : String} (k : Nat) (hk : k < N) {host : String} (hl : Cond.fieldLinkNest own index ref (T k).2.1 (T k).2.2.1 host ∈ nestW) (hsm : ∀ (a : Array Value) (u : State), (∀ w ∈ Ts, w.before a u = true) → ∀ x, u.fieldFound? (T k).1 (T k).2.1 (T k).2.2.1 = some x → u.fieldFound? ref (T k).2.1 (T k).2.2.1 = some x) (hd : decode cc pc = .ok (.getfield index, 3)) {o : Option Ro} (h : gR M o ci k (fun x => AW p l e R s m args below meth c Q D dA B zE nL ad0 M0 M cells slots (pc + 3) lv (vR x :: st))) : AW p l e R s m args below meth c Q D dA B zE nL ad0 M0 M cells slots pc lv (vR o :: st) := by
  obtain ⟨r, fs, x, rfl, hM, hv, kk⟩ := h
  intro ad H locs ls h1 h2 h3 h4 h5 h6 h7
  exact wr_getN X.1 X.2.1 X.hts hin X.hown X.hK h3.1 r.1 r.2 (cW_at (h3.ro hM) hM) hc k hk ((X.hG.2.2.2 _ hl).use (nestW_tab _ hl)) (hsm _ _ X.hts) (by rw [List.getElem?_map, hv]; rfl) hd (kk ad H locs ls h1 h2 h3 h4 h5 h6 (h7.tl.cn ((h3.2.1.okO hM).1 _ (List.mem_of_getElem? hv))))
theorem aw_pF (X : Cx p s m args meth c cc nL own Ts D dA B zE) {ci : Nat} {C : String} {T : u_T} {N : Nat} (hc : classes[ci]? = some (C, T, N)) (hin : ∀ w ∈ u_ws C T N, w ∈ Ts) {index : Nat} {ref : String} (k : Nat) (hk : k < N) (ty0 : Nat → FieldType) (hty : ∀ k, k < N → parseFieldDescriptor (T k).2.2.1 = some (ty0 k)) (hnm : ∀ a, a < N → ∀ b, b < N → a ≠ b → (T a).2.1 ≠ (T b).2.1) (hl : Cond.fieldLink own index ref (T k).2.1 (T k).2.2.1 ∈ Ts) (hsm : ∀ (a : Array Value) (u : State), (∀ w ∈ Ts, w.before a u = true) → ∀ x, u.fieldFound? (T k).1 (T k).2.1 (T k).2.2.1 = some x → u.fieldFound? ref (T k).2.1 (T k).2.2.1 = some x) (hfin : (T k).2.2.2 = false) {ty : FieldType} {v : AV} (hdt : parseFieldDescriptor (T k).2.2.1 = some ty) (hnf : ∀ ad : Ro → Nat, narrow ty (cv ad v) = cv ad v ∧ fits ty (cv ad v) = true) (hd : decode cc pc = .ok (.putfield index, 3)) {o : Option Ro} (h : pF M o ci k v (fun M' => AW p l e R s m args below meth c Q D dA B zE nL ad0 M0 M' cells slots (pc + 3) lv st)) : AW p l e R s m args below meth c Q D dA B zE nL ad0 M0 M cells slots pc lv (v :: vR o :: st) := by
  obtain ⟨r, fs, rfl, hM, hv, kk⟩ := h
  intro ad H locs ls h1 h2 h3 h4 h5 h6 h7
  refine wr_put X.1 X.2.1 X.hts hin ty0 hty hnm X.hown X.hK h3.1 h4 r.1 r.2 (cW_at (h3.ro hM) hM) hc k hk (X.hts _ hl) (hsm _ _ X.hts) hfin hdt (hnf ad).1 (hnf ad).2 (by rw [List.length_map]; exact hv) hd (fun H1 locs1 hw hS => ?_)
  refine kk ad H1 locs1 ls h1 (sb_up h2) (h3.put (h3.ro hM) (okE_set (h3.2.1.okO hM).1 h7.hd) ?_) hS h5 (h6.sb sb_up1) (h7.tl.tl.sb sb_up1)
  show wr D classes (wA B) (w2 (cW dA ad M) r.1 r.2 (some (ad r, Sum.inr (ci, (fs.set k v).map (cv ad))))) H1
  rw [List.map_set]
  exact hw
theorem aw_pFN (X : Cx p s m args meth c cc nL own Ts D dA B zE) {ci : Nat} {C : String} {T : u_T} {N : Nat} (hc : classes[ci]? = some (C, T, N)) (hin : ∀ w ∈ u_ws C T N, w ∈ Ts) {index : Nat} {ref : String} (k : Nat) (hk : k < N) (ty0 : Nat → FieldType) (hty : ∀ k, k < N → parseFieldDescriptor (T k).2.2.1 = some (ty0 k)) (hnm : ∀ a, a < N → ∀ b, b < N → a ≠ b → (T a).2.1 ≠ (T b).2.1) {host : String} (hl : Cond.fieldLinkNest own index ref (T k).2.1 (T k).2.2.1 host ∈ nestW) (hsm : ∀ (a : Array Value) (u : State), (∀ w ∈ Ts, w.before a u = true) → ∀ x, u.fieldFound? (T k).1 (T k).2.1 (T k).2.2.1 = some x → u.fieldFound? ref (T k).2.1 (T k).2.2.1 = some x) (hfin : (T k).2.2.2 = false) {ty : FieldType} {v : AV} (hdt : parseFieldDescriptor (T k).2.2.1 = some ty) (hnf : ∀ ad : Ro → Nat, narrow ty (cv ad v) = cv ad v ∧ fits ty (cv ad v) = true) (hd : decode cc pc = .ok (.putfield index, 3)) {o : Option Ro} (h : pF M o ci k v (fun M' => AW p l e R s m args below meth c Q D dA B zE nL ad0 M0 M' cells slots (pc + 3) lv st)) : AW p l e R s m args below meth c Q D dA B zE nL ad0 M0 M cells slots pc lv (v :: vR o :: st) := by
  obtain ⟨r, fs, rfl, hM, hv, kk⟩ := h
  intro ad H locs ls h1 h2 h3 h4 h5 h6 h7
  refine wr_putN X.1 X.2.1 X.hts hin ty0 hty hnm X.hown X.hK h3.1 h4 r.1 r.2 (cW_at (h3.ro hM) hM) hc k hk ((X.hG.2.2.2 _ hl).use (nestW_tab _ hl)) (hsm _ _ X.hts) hfin hdt (hnf ad).1 (hnf ad).2 (by rw [List.length_map]; exact hv) hd (fun H1 locs1 hw hS => ?_)
  refine kk ad H1 locs1 ls h1 (sb_up h2) (h3.put (h3.ro hM) (okE_set (h3.2.1.okO hM).1 h7.hd) ?_) hS h5 (h6.sb sb_up1) (h7.tl.tl.sb sb_up1)
  show wr D classes (wA B) (w2 (cW dA ad M) r.1 r.2 (some (ad r, Sum.inr (ci, (fs.set k v).map (cv ad))))) H1
  rw [List.map_set]
  exact hw
theorem aw_pFF (X : Cx p s m args meth c cc nL own Ts D dA B zE) {ci : Nat} {C : String} {T : u_T} {N : Nat} (hc : classes[ci]? = some (C, T, N)) (hin : ∀ w ∈ u_ws C T N, w ∈ Ts) {index : Nat} {ref : String} (k : Nat) (hk : k < N) (ty0 : Nat → FieldType) (hty : ∀ k, k < N → parseFieldDescriptor (T k).2.2.1 = some (ty0 k)) (hnm : ∀ a, a < N → ∀ b, b < N → a ≠ b → (T a).2.1 ≠ (T b).2.1) (hl : Cond.fieldLink own index ref (T k).2.1 (T k).2.2.1 ∈ Ts) (hsm : ∀ (a : Array Value) (u : State), (∀ w ∈ Ts, w.before a u = true) → ∀ x, u.fieldFound? (T k).1 (T k).2.1 (T k).2.2.1 = some x → u.fieldFound? ref (T k).2.1 (T k).2.2.1 = some x) (hfin : (T k).2.2.2 = true) (hin2 : meth.name = "<init>") (hdecl : (T k).1 = own) {ty : FieldType} {v : AV} (hdt : parseFieldDescriptor (T k).2.2.1 = some ty) (hnf : ∀ ad : Ro → Nat, narrow ty (cv ad v) = cv ad v ∧ fits ty (cv ad v) = true) (hd : decode cc pc = .ok (.putfield index, 3)) {o : Option Ro} (h : pF M o ci k v (fun M' => AW p l e R s m args below meth c Q D dA B zE nL ad0 M0 M' cells slots (pc + 3) lv st)) : AW p l e R s m args below meth c Q D dA B zE nL ad0 M0 M cells slots pc lv (v :: vR o :: st) := by
  obtain ⟨r, fs, rfl, hM, hv, kk⟩ := h
  intro ad H locs ls h1 h2 h3 h4 h5 h6 h7
  refine wr_putF X.1 X.2.1 X.hts hin ty0 hty hnm X.hown X.hK h3.1 h4 r.1 r.2 (cW_at (h3.ro hM) hM) hc k hk (X.hts _ hl) (hsm _ _ X.hts) hfin hin2 hdecl hdt (hnf ad).1 (hnf ad).2 (by rw [List.length_map]; exact hv) hd (fun H1 locs1 hw hS => ?_)
  refine kk ad H1 locs1 ls h1 (sb_up h2) (h3.put (h3.ro hM) (okE_set (h3.2.1.okO hM).1 h7.hd) ?_) hS h5 (h6.sb sb_up1) (h7.tl.tl.sb sb_up1)
  show wr D classes (wA B) (w2 (cW dA ad M) r.1 r.2 (some (ad r, Sum.inr (ci, (fs.set k v).map (cv ad))))) H1
  rw [List.map_set]
  exact hw
theorem aw_lI (X : Cx p s m args meth c cc nL own Ts D dA B zE) (hd : decode cc pc = .ok (.iaload, 1)) {o : Option Ro} {x : Int32} (h : lI M o x (fun y => AW p l e R s m args below meth c Q D dA B zE nL ad0 M0 M cells slots (pc + 1) lv (vI y :: st))) : AW p l e R s m args below meth c Q D dA B zE nL ad0 M0 M cells slots pc lv (vI x :: vR o :: st) := by
  obtain ⟨r, n, f, rfl, hM, hv, kk⟩ := h
  intro ad H locs ls h1 h2 h3 h4 h5 h6 h7
  exact wr_iald X.1 X.2.1 X.hK h3.1 0 r.1 r.2 (cW_at (h3.ra hM hv.pos) hM) (tysA_at rfl) hv hd (kk ad H locs ls h1 h2 h3 h4 h5 h6 h7.tl.tl.ni)
theorem aw_lZ (X : Cx p s m args meth c cc nL own Ts D dA B zE) (hd : decode cc pc = .ok (.baload, 1)) {o : Option Ro} {x : Int32} (h : lZ M o x (fun y => AW p l e R s m args below meth c Q D dA B zE nL ad0 M0 M cells slots (pc + 1) lv (vI y :: st))) : AW p l e R s m args below meth c Q D dA B zE nL ad0 M0 M cells slots pc lv (vI x :: vR o :: st) := by
  obtain ⟨r, n, f, rfl, hM, hv, kk⟩ := h
  intro ad H locs ls h1 h2 h3 h4 h5 h6 h7
  exact wr_zald X.1 X.2.1 X.hK h3.1 2 r.1 r.2 (cW_at (h3.ra hM hv.pos) hM) (tysA_at rfl) hv hd (kk ad H locs ls h1 h2 h3 h4 h5 h6 h7.tl.tl.ni)
theorem aw_lL (X : Cx p s m args meth c cc nL own Ts D dA B zE) (hd : decode cc pc = .ok (.laload, 1)) {o : Option Ro} {x : Int32} (h : lL M o x (fun y => AW p l e R s m args below meth c Q D dA B zE nL ad0 M0 M cells slots (pc + 1) lv (vL y :: st))) : AW p l e R s m args below meth c Q D dA B zE nL ad0 M0 M cells slots pc lv (vI x :: vR o :: st) := by
  obtain ⟨r, n, f, rfl, hM, hv, kk⟩ := h
  intro ad H locs ls h1 h2 h3 h4 h5 h6 h7
  exact wr_lald X.1 X.2.1 X.hK h3.1 1 r.1 r.2 (cW_at (h3.ra hM hv.pos) hM) (tysA_at rfl) hv hd (kk ad H locs ls h1 h2 h3 h4 h5 h6 h7.tl.tl.nl)
theorem aw_lR (X : Cx p s m args meth c cc nL own Ts D dA B zE) (hd : decode cc pc = .ok (.aaload, 1)) {o : Option Ro} {x : Int32} (h : lR M o x (fun y => AW p l e R s m args below meth c Q D dA B zE nL ad0 M0 M cells slots (pc + 1) lv (vR y :: st))) : AW p l e R s m args below meth c Q D dA B zE nL ad0 M0 M cells slots pc lv (vI x :: vR o :: st) := by
  obtain ⟨r, t, n, f, C, rfl, hM, ht, hv, kk⟩ := h
  intro ad H locs ls h1 h2 h3 h4 h5 h6 h7
  exact wr_aldq X.1 X.2.1 X.hK h3.1 t r.1 r.2 (cW_at (h3.ra hM hv.pos) hM) (tysA_at ht) hv hd (kk ad H locs ls h1 h2 h3 h4 h5 h6 (h7.tl.tl.cn ((h3.2.1.ok hM (h3.ra hM hv.pos)).2 _)))
theorem aw_aN (X : Cx p s m args meth c cc nL own Ts D dA B zE) (hd : decode cc pc = .ok (.arraylength, 1)) {o : Option Ro} (h : aN M o (fun y => AW p l e R s m args below meth c Q D dA B zE nL ad0 M0 M cells slots (pc + 1) lv (vI y :: st))) : AW p l e R s m args below meth c Q D dA B zE nL ad0 M0 M cells slots pc lv (vR o :: st) := by
  obtain ⟨r, t, n, f, rfl, hM, h99, kk⟩ := h
  intro ad H locs ls h1 h2 h3 h4 h5 h6 h7
  have hk := kk ad H locs ls h1 h2 h3 h4 h5 h6 h7.tl.ni
  rcases h3.2.1 r _ hM with g | g | g | g
  · exact wr_alen X.1 X.2.1 X.hK h3.1 t r.1 r.2 (cW_at g.2 hM) (tysA_at (List.getElem?_eq_getElem g.1.1)) rfl hd hk
  · obtain ⟨g, ge⟩ := g
    subst g
    cases ge
    show W p l e R s m args below meth c H locs cells slots Q (F0 m pc ls (.ref (ad (90, 0)) :: st.map (cv ad)))
    rw [h3.2.2.1.1]
    exact va_tlen X.1 X.2.1 X.hG.2.2.1.2.1 h4 rfl hd hk
  · have := g.2
    cases this
    exact absurd h99 (by decide)
  · have := g.2
    cases this
    exact absurd h99 (by decide)
theorem aw_sI (X : Cx p s m args meth c cc nL own Ts D dA B zE) (hd : decode cc pc = .ok (.iastore, 1)) {o : Option Ro} {x : Int32} {v : Int32} (h : sI M o x v (fun M' => AW p l e R s m args below meth c Q D dA B zE nL ad0 M0 M' cells slots (pc + 1) lv st)) : AW p l e R s m args below meth c Q D dA B zE nL ad0 M0 M cells slots pc lv (vI v :: vI x :: vR o :: st) := by
  obtain ⟨r, n, f, rfl, hM, hv, kk⟩ := h
  intro ad H locs ls h1 h2 h3 h4 h5 h6 h7
  refine wr_iast X.1 X.2.1 X.hK h3.1 h4 0 r.1 r.2 (cW_at (h3.ra hM hv.pos) hM) (tysA_at rfl) hv hd (fun H1 locs1 hw hS => ?_)
  exact kk ad H1 locs1 ls h1 (sb_up h2) (h3.put (e1 := ai 0 n (upd f x.toNatClampNeg v)) (h3.ra hM hv.pos) ⟨(h3.2.1.ok hM (h3.ra hM hv.pos)).1, trivial⟩ hw) hS h5 (h6.sb sb_up1) (h7.tl.tl.tl.sb sb_up1)
theorem aw_sZ (X : Cx p s m args meth c cc nL own Ts D dA B zE) (hd : decode cc pc = .ok (.bastore, 1)) {o : Option Ro} {x : Int32} {v : Int32} (h : sZ M o x v (fun M' => AW p l e R s m args below meth c Q D dA B zE nL ad0 M0 M' cells slots (pc + 1) lv st)) : AW p l e R s m args below meth c Q D dA B zE nL ad0 M0 M cells slots pc lv (vI v :: vI x :: vR o :: st) := by
  obtain ⟨r, n, f, rfl, hM, hv, kk⟩ := h
  intro ad H locs ls h1 h2 h3 h4 h5 h6 h7
  refine wr_zast X.1 X.2.1 X.hK h3.1 h4 2 r.1 r.2 (cW_at (h3.ra hM hv.pos) hM) (tysA_at rfl) hv hd (fun H1 locs1 hw hS => ?_)
  exact kk ad H1 locs1 ls h1 (sb_up h2) (h3.put (e1 := ai 2 n (upd f x.toNatClampNeg (vp_nar .boolean v))) (h3.ra hM hv.pos) ⟨(h3.2.1.ok hM (h3.ra hM hv.pos)).1, trivial⟩ hw) hS h5 (h6.sb sb_up1) (h7.tl.tl.tl.sb sb_up1)
theorem aw_sL (X : Cx p s m args meth c cc nL own Ts D dA B zE) (hd : decode cc pc = .ok (.lastore, 1)) {o : Option Ro} {x : Int32} {v : Int64} (h : sL M o x v (fun M' => AW p l e R s m args below meth c Q D dA B zE nL ad0 M0 M' cells slots (pc + 1) lv st)) : AW p l e R s m args below meth c Q D dA B zE nL ad0 M0 M cells slots pc lv (vL v :: vI x :: vR o :: st) := by
  obtain ⟨r, n, f, rfl, hM, hv, kk⟩ := h
  intro ad H locs ls h1 h2 h3 h4 h5 h6 h7
  refine wr_last X.1 X.2.1 X.hK h3.1 h4 1 r.1 r.2 (cW_at (h3.ra hM hv.pos) hM) (tysA_at rfl) hv hd (fun H1 locs1 hw hS => ?_)
  exact kk ad H1 locs1 ls h1 (sb_up h2) (h3.put (e1 := al 1 n (vp_updL f x.toNatClampNeg v)) (h3.ra hM hv.pos) ⟨(h3.2.1.ok hM (h3.ra hM hv.pos)).1, trivial⟩ hw) hS h5 (h6.sb sb_up1) (h7.tl.tl.tl.sb sb_up1)
theorem va_up_map {ad : Ro → Nat} {f : Nat → Option Ro} {i : Nat} {v : Option Ro} : (fun j => (va_up f i v j).map ad) = va_up (fun j => (f j).map ad) i (v.map ad) := by
  funext j
  by_cases h : j = i <;> simp [va_up, h]
theorem aw_sR (X : Cx p s m args meth c cc nL own Ts D dA B zE) (hd : decode cc pc = .ok (.aastore, 1)) {o v : Option Ro} {x : Int32} (h : sR M o x v (fun M' => AW p l e R s m args below meth c Q D dA B zE nL ad0 M0 M' cells slots (pc + 1) lv st)) : AW p l e R s m args below meth c Q D dA B zE nL ad0 M0 M cells slots pc lv (vR v :: vI x :: vR o :: st) := by
  obtain ⟨r, t, n, f, C, rfl, hM, ht, hv, hcl, kk⟩ := h
  intro ad H locs ls h1 h2 h3 h4 h5 h6 h7
  have hok : okE (up M r (ar t n (va_up f x.toNatClampNeg v))) (ar t n (va_up f x.toNatClampNeg v)) := by
    refine ⟨(h3.2.1.ok hM (h3.ra hM hv.pos)).1, fun j => ?_⟩
    by_cases hj : j = x.toNatClampNeg
    · have : va_up f x.toNatClampNeg v j = v := by simp [va_up, hj]
      rw [this]
      exact h7.hd.sb sb_up1
    · have : va_up f x.toNatClampNeg v j = f j := by simp [va_up, hj]
      rw [this]
      exact ((h3.2.1.ok hM (h3.ra hM hv.pos)).2 j).sb sb_up1
  have fin : ∀ (H1 : Heap) (locs1 : List Loc), wr D classes (wA B) (w2 (cW dA ad M) r.1 r.2 (some (ad r, .inl (dA t, n, .inr (.inr (.inr (.inr (va_up (fun j => (f j).map ad) x.toNatClampNeg (v.map ad)))))))) ) H1 → va_S (wA B) s.heap H1 locs1 → W p l e R s m args below meth c H1 locs1 cells slots Q (F0 m (pc + 1) ls (st.map (cv ad))) := fun H1 locs1 hw hS => by
    refine kk ad H1 locs1 ls h1 (sb_up h2) (h3.put (h3.ra hM hv.pos) hok ?_) hS h5 (h6.sb sb_up1) (h7.tl.tl.tl.sb sb_up1)
    show wr D classes (wA B) (w2 (cW dA ad M) r.1 r.2 (some (ad r, Sum.inl (dA t, n, Sum.inr (Sum.inr (Sum.inr (Sum.inr (fun j => (va_up f x.toNatClampNeg v j).map ad)))))))) H1
    rw [va_up_map]
    exact hw
  cases v with
  | none => exact wr_astqN X.1 X.2.1 X.hK h3.1 h4 t r.1 r.2 (cW_at (h3.ra hM hv.pos) hM) (tysA_at ht) hv hd fin
  | some z =>
    obtain ⟨ci, fs, hz, q, E, hq, hE, hor⟩ := hcl z rfl
    have hCE : C = E := by
      rw [ht] at hE
      cases hE
      rfl
    subst hCE
    rcases hor with hor | hor
    · exact wr_astq X.1 X.2.1 X.hK h3.1 h4 t ci r.1 r.2 (cW_at (h3.ra hM hv.pos) hM) (tysA_at (hor ▸ ht)) z.1 z.2 (cW_at (h3.ro hz) hz) hq hv hd fin
    · exact wr_astqO X.1 X.2.1 X.hK h3.1 h4 t ci r.1 r.2 (cW_at (h3.ra hM hv.pos) hM) (tysA_at ht) (X.hG.2.2.2 _ hor) z.1 z.2 (cW_at (h3.ro hz) hz) hq hv hd fin
theorem va_RA.uniq {U : State} {c1 c2 : ClassId} {ty : FieldType} (g1 : va_RA U c1 ty) (g2 : va_RA U c2 ty) : c1 = c2 := by
  cases ty with
  | object C =>
    obtain ⟨_, _, _, _, _, g1⟩ := g1
    obtain ⟨_, _, _, _, _, g2⟩ := g2
    exact Option.some.inj (g1.symm.trans g2)
  | _ => exact Option.some.inj (Eq.trans (Eq.symm g1) g2)
theorem tysA_last {dA : Nat → ClassId} {x : ClassId × FieldType} : (tysA dA ++ [x])[(tysA dA).length]? = some x := by simp
theorem aw_nO (X : Cx p s m args meth c cc nL own Ts D dA B zE) {ci : Nat} {C : String} {T : u_T} {N index : Nat} (hc : classes[ci]? = some (C, T, N)) (hin : ∀ w ∈ u_ws C T N, w ∈ Ts) (ty : Nat → FieldType) (hty : ∀ k, k < N → parseFieldDescriptor (T k).2.2.1 = some (ty k)) (hcl : Cond.classLink own index C ∈ Ts) (hinst : Cond.instantiable C N ∈ Ts) (hini : Cond.initialized C ∈ Ts) {fs : List AV} (hfs : ∀ (ad : Ro → Nat) j, j < N → defaultValue (ty j) = vp_V (fs.map (cv ad)) j) (hl : ∀ M : wM, ∀ v ∈ fs, lv1 M v) (hcells : cells + 1 ≤ R.cells) (hslots : slots + N ≤ R.slots) (hd : decode cc pc = .ok (.new index, 3)) (h : nO M ci fs (fun r M' => AW p l e R s m args below meth c Q D dA B zE nL ad0 M0 M' (cells + 1) (slots + N) (pc + 3) lv (vR r :: st))) : AW p l e R s m args below meth c Q D dA B zE nL ad0 M0 M cells slots pc lv st := by
  obtain ⟨r, hr, hn, kk⟩ := h
  intro ad H locs ls h1 h2 h3 h4 h5 h6 h7
  refine wr_new X.1 X.2.1 X.hts hin ty hty X.hown (X.hts _ hcl) (X.hts _ hinst) (X.hts _ hini) X.hK h3.1 h4 X.hA hc (hfs ad) hcells hslots hd r.1 r.2 (fun q H1 hw hS => ?_)
  have hx := adN_xt (ad := ad) (q := q) hn
  have hcvf : fs.map (cv (adN ad r q)) = fs.map (cv ad) := cvs_xt hx (hl M)
  have hk := kk (adN ad r q) H1 locs ls (fun z hz => (hx z (h2 z hz)).trans (h1 z hz)) (sb_up h2) (h3.new hn hr (hl _) (by
    show wr D classes (wA B) (w2 (cW dA ad M) r.1 r.2 (some (q, Sum.inr (ci, fs.map (cv (adN ad r q)))))) H1
    rw [hcvf]
    exact hw)) hS (by rw [cvL_xt hx h6]; exact h5) (h6.sb sb_up1) ((h7.sb sb_up1).cn (lv1_R up_s))
  have e1 : (vR (some r) :: st).map (cv (adN ad r q)) = .ref q :: st.map (cv ad) := by
    show .ref (adN ad r q r) :: st.map (cv (adN ad r q)) = _
    rw [adN_s, cvs_xt hx h7]
  rw [e1] at hk
  exact hk
theorem aw_nAI (X : Cx p s m args meth c cc nL own Ts D dA B zE) {atype : ArrayType} (hat : newarray.typeOf atype = .int) (harr : Cond.arrayClass (newarray.typeOf atype) ∈ Ts) (bd : Nat) (hbd : bd * componentBytes .int ≤ 536870912) (hcells : cells + 1 ≤ R.cells) (hslots : slots + bd ≤ R.slots) (hd : decode cc pc = .ok (.newarray atype, 2)) {x : Int32} (h : nA M x bd (fun n => ai 0 n (fun _ => 0)) (fun r M' => AW p l e R s m args below meth c Q D dA B zE nL ad0 M0 M' (cells + 1) (slots + bd) (pc + 2) lv (vR r :: st))) : AW p l e R s m args below meth c Q D dA B zE nL ad0 M0 M cells slots pc lv (vI x :: st) := by
  obtain ⟨hx0, hxb, r, hr, hn, kk⟩ := h
  intro ad H locs ls h1 h2 h3 h4 h5 h6 h7
  refine wr_newa0 (a0 := (x.toNatClampNeg, .inl (fun _ => 0))) X.1 X.2.1 (X.hts _ harr) hat X.hK h3.1 h4 X.hA (fun cA => rfl) hx0 rfl (Nat.le_trans (Nat.mul_le_mul_right _ hxb) hbd) hcells (Nat.le_trans (Nat.add_le_add_left hxb _) hslots) hd r.1 r.2 (fun q cA H1 hK1 hw hS => ?_)
  have hcA : cA = dA 0 := (hK1.2 (tysA dA).length (cA, .int) tysA_last).2.uniq (X.hK.2 0 _ (tysA_at rfl)).2
  subst hcA
  refine W.widen (Nat.le_refl _) (Nat.add_le_add_left hxb _) ?_
  have hx := adN_xt (ad := ad) (q := q) hn
  have hk := kk (adN ad r q) H1 locs ls (fun z hz => (hx z (h2 z hz)).trans (h1 z hz)) (sb_up h2) (h3.new hn hr ⟨(by decide : 0 < aT.length), trivial⟩ hw) hS (by rw [cvL_xt hx h6]; exact h5) (h6.sb sb_up1) ((h7.tl.sb sb_up1).cn (lv1_R up_s))
  have e1 : (vR (some r) :: st).map (cv (adN ad r q)) = .ref q :: st.map (cv ad) := by
    show .ref (adN ad r q r) :: st.map (cv (adN ad r q)) = _
    rw [adN_s, cvs_xt hx h7.tl]
  rw [e1] at hk
  exact hk
theorem aw_nAZ (X : Cx p s m args meth c cc nL own Ts D dA B zE) {atype : ArrayType} (hat : newarray.typeOf atype = .boolean) (harr : Cond.arrayClass (newarray.typeOf atype) ∈ Ts) (bd : Nat) (hbd : bd * componentBytes .boolean ≤ 536870912) (hcells : cells + 1 ≤ R.cells) (hslots : slots + bd ≤ R.slots) (hd : decode cc pc = .ok (.newarray atype, 2)) {x : Int32} (h : nA M x bd (fun n => ai 2 n (fun _ => 0)) (fun r M' => AW p l e R s m args below meth c Q D dA B zE nL ad0 M0 M' (cells + 1) (slots + bd) (pc + 2) lv (vR r :: st))) : AW p l e R s m args below meth c Q D dA B zE nL ad0 M0 M cells slots pc lv (vI x :: st) := by
  obtain ⟨hx0, hxb, r, hr, hn, kk⟩ := h
  intro ad H locs ls h1 h2 h3 h4 h5 h6 h7
  refine wr_newa0 (a0 := (x.toNatClampNeg, .inl (fun _ => 0))) X.1 X.2.1 (X.hts _ harr) hat X.hK h3.1 h4 X.hA (fun cA => rfl) hx0 rfl (Nat.le_trans (Nat.mul_le_mul_right _ hxb) hbd) hcells (Nat.le_trans (Nat.add_le_add_left hxb _) hslots) hd r.1 r.2 (fun q cA H1 hK1 hw hS => ?_)
  have hcA : cA = dA 2 := (hK1.2 (tysA dA).length (cA, .boolean) tysA_last).2.uniq (X.hK.2 2 _ (tysA_at rfl)).2
  subst hcA
  refine W.widen (Nat.le_refl _) (Nat.add_le_add_left hxb _) ?_
  have hx := adN_xt (ad := ad) (q := q) hn
  have hk := kk (adN ad r q) H1 locs ls (fun z hz => (hx z (h2 z hz)).trans (h1 z hz)) (sb_up h2) (h3.new hn hr ⟨(by decide : 2 < aT.length), trivial⟩ hw) hS (by rw [cvL_xt hx h6]; exact h5) (h6.sb sb_up1) ((h7.tl.sb sb_up1).cn (lv1_R up_s))
  have e1 : (vR (some r) :: st).map (cv (adN ad r q)) = .ref q :: st.map (cv ad) := by
    show .ref (adN ad r q r) :: st.map (cv (adN ad r q)) = _
    rw [adN_s, cvs_xt hx h7.tl]
  rw [e1] at hk
  exact hk
theorem aw_nAL (X : Cx p s m args meth c cc nL own Ts D dA B zE) {atype : ArrayType} (hat : newarray.typeOf atype = .long) (harr : Cond.arrayClass (newarray.typeOf atype) ∈ Ts) (bd : Nat) (hbd : bd * componentBytes .long ≤ 536870912) (hcells : cells + 1 ≤ R.cells) (hslots : slots + bd ≤ R.slots) (hd : decode cc pc = .ok (.newarray atype, 2)) {x : Int32} (h : nA M x bd (fun n => al 1 n (fun _ => 0)) (fun r M' => AW p l e R s m args below meth c Q D dA B zE nL ad0 M0 M' (cells + 1) (slots + bd) (pc + 2) lv (vR r :: st))) : AW p l e R s m args below meth c Q D dA B zE nL ad0 M0 M cells slots pc lv (vI x :: st) := by
  obtain ⟨hx0, hxb, r, hr, hn, kk⟩ := h
  intro ad H locs ls h1 h2 h3 h4 h5 h6 h7
  refine wr_newa0 (a0 := (x.toNatClampNeg, .inr (.inl (fun _ => 0)))) X.1 X.2.1 (X.hts _ harr) hat X.hK h3.1 h4 X.hA (fun cA => rfl) hx0 rfl (Nat.le_trans (Nat.mul_le_mul_right _ hxb) hbd) hcells (Nat.le_trans (Nat.add_le_add_left hxb _) hslots) hd r.1 r.2 (fun q cA H1 hK1 hw hS => ?_)
  have hcA : cA = dA 1 := (hK1.2 (tysA dA).length (cA, .long) tysA_last).2.uniq (X.hK.2 1 _ (tysA_at rfl)).2
  subst hcA
  refine W.widen (Nat.le_refl _) (Nat.add_le_add_left hxb _) ?_
  have hx := adN_xt (ad := ad) (q := q) hn
  have hk := kk (adN ad r q) H1 locs ls (fun z hz => (hx z (h2 z hz)).trans (h1 z hz)) (sb_up h2) (h3.new hn hr ⟨(by decide : 1 < aT.length), trivial⟩ hw) hS (by rw [cvL_xt hx h6]; exact h5) (h6.sb sb_up1) ((h7.tl.sb sb_up1).cn (lv1_R up_s))
  have e1 : (vR (some r) :: st).map (cv (adN ad r q)) = .ref q :: st.map (cv ad) := by
    show .ref (adN ad r q r) :: st.map (cv (adN ad r q)) = _
    rw [adN_s, cvs_xt hx h7.tl]
  rw [e1] at hk
  exact hk
theorem aw_nAR (X : Cx p s m args meth c cc nL own Ts D dA B zE) {C : String} {index t : Nat} (ht : aT[t]? = some (.object C)) (htl : t < aT.length) (hcl : Cond.classLink own index C ∈ Ts) (hov : va_AO C s) (bd : Nat) (hbd : bd * 4 ≤ 536870912) (hcells : cells + 1 ≤ R.cells) (hslots : slots + bd ≤ R.slots) (hd : decode cc pc = .ok (.anewarray index, 3)) {x : Int32} (h : nA M x bd (fun n => ar t n (fun _ => none)) (fun r M' => AW p l e R s m args below meth c Q D dA B zE nL ad0 M0 M' (cells + 1) (slots + bd) (pc + 3) lv (vR r :: st))) : AW p l e R s m args below meth c Q D dA B zE nL ad0 M0 M cells slots pc lv (vI x :: st) := by
  obtain ⟨hx0, hxb, r, hr, hn, kk⟩ := h
  intro ad H locs ls h1 h2 h3 h4 h5 h6 h7
  refine wr_newq0 X.1 X.2.1 X.hown (X.hts _ hcl) hov X.hK h3.1 h4 X.hA hx0 rfl (Nat.le_trans (Nat.mul_le_mul_right _ hxb) hbd) hcells (Nat.le_trans (Nat.add_le_add_left hxb _) hslots) hd r.1 r.2 (fun q cA H1 hK1 hw hS => ?_)
  have hcA : cA = dA t := (hK1.2 (tysA dA).length (cA, .object C) tysA_last).2.uniq (X.hK.2 t _ (tysA_at ht)).2
  subst hcA
  refine W.widen (Nat.le_refl _) (Nat.add_le_add_left hxb _) ?_
  have hx := adN_xt (ad := ad) (q := q) hn
  have hk := kk (adN ad r q) H1 locs ls (fun z hz => (hx z (h2 z hz)).trans (h1 z hz)) (sb_up h2) (h3.new hn hr ⟨htl, fun _ => lv1_N⟩ hw) hS (by rw [cvL_xt hx h6]; exact h5) (h6.sb sb_up1) ((h7.tl.sb sb_up1).cn (lv1_R up_s))
  have e1 : (vR (some r) :: st).map (cv (adN ad r q)) = .ref q :: st.map (cv ad) := by
    show .ref (adN ad r q r) :: st.map (cv (adN ad r q)) = _
    rw [adN_s, cvs_xt hx h7.tl]
  rw [e1] at hk
  exact hk
theorem WA.recv {ad : Ro → Nat} {H : Heap} {r : Ro} {ci : Nat} {fs : List AV} {q : vw_C} (h : WA D dA B zE ad M H) (hK : va_K D classes (tysA dA) s) (hq : classes[ci]? = some q) (hM : M r = some (ob ci fs)) : ∃ cell : Cell, H[ad r]? = some cell ∧ cell.vm.isStatics = false ∧ s.vm.findClass q.1 = some cell.cls := wr_recv hK h.1 hq (cW_at (dA := dA) (ad := ad) (h.ro hM) hM)
theorem aw_ck (X : Cx p s m args meth c cc nL own Ts D dA B zE) {ci index : Nat} {q : vw_C} (hq : classes[ci]? = some q) (hl : Cond.classLink own index q.1 ∈ Ts) (hd : decode cc pc = .ok (.checkcast index, 3)) {o : Option Ro} (h : ck M o ci (AW p l e R s m args below meth c Q D dA B zE nL ad0 M0 M cells slots (pc + 3) lv (vR o :: st))) : AW p l e R s m args below meth c Q D dA B zE nL ad0 M0 M cells slots pc lv (vR o :: st) := by
  obtain ⟨hr, kk⟩ := h
  intro ad H locs ls h1 h2 h3 h4 h5 h6 h7
  have hk := kk ad H locs ls h1 h2 h3 h4 h5 h6 h7
  cases o with
  | none => exact lv_castN X.1 X.2.1 hd hk
  | some r =>
    obtain ⟨fs, hM⟩ := hr r rfl
    exact va_castE X.1 X.2.1 X.hown (X.hts _ hl) (h3.recv X.hK hq hM) hd hk
def ns (x y : Option Ro) : Prop := ∀ a b : Ro, x = some a → y = some b → a = b ∨ (a.1 ≤ 90 ∧ b.1 ≤ 90)
theorem WA.stat {ad : Ro → Nat} {H : Heap} {r : Ro} (h : WA D dA B zE ad M H) (hz : ¬ wA B zE.1) (hr : M r ≠ none) (h90 : r.1 ≤ 90) : (r.1 < 90 ∧ wA B (ad r)) ∨ (¬ wA B (ad r) ∧ r = (90, 0)) := by
  cases er : M r with
  | none => exact absurd er hr
  | some x =>
    rcases h.2.1 r _ er with g | g | g | g
    · exact Or.inl ⟨g.2, h.1.inA (cW_at (dA := dA) (ad := ad) g.2 er)⟩
    · refine Or.inr ⟨?_, g.1⟩
      rw [g.1, h.2.2.1.1]
      exact hz
    · rw [g.1] at h90
      exact absurd h90 (by decide)
    · rw [g.1] at h90
      exact absurd h90 (by decide)
theorem WA.inj {ad : Ro → Nat} {H : Heap} {a b : Ro} (h : WA D dA B zE ad M H) (hz : ¬ wA B zE.1) (hs : ns (some a) (some b)) (ha : M a ≠ none) (hb : M b ≠ none) (he : ad a = ad b) : a = b := by
  rcases hs a b rfl rfl with g | g
  · exact g
  rcases h.stat hz ha g.1 with ga | ga <;> rcases h.stat hz hb g.2 with gb | gb
  · cases ea : M a with
    | none => exact absurd ea ha
    | some xa =>
      cases eb : M b with
      | none => exact absurd eb hb
      | some xb =>
        have h1 := cW_at (dA := dA) (ad := ad) ga.1 ea
        have h2 := cW_at (dA := dA) (ad := ad) gb.1 eb
        rw [← he] at h2
        have := h.1.one h1 h2
        exact Prod.ext this.1 this.2
  · exact absurd (he ▸ ga.2) gb.1
  · exact absurd (he.symm ▸ gb.2) ga.1
  · exact ga.2.trans gb.2.symm
theorem WA.injO {ad : Ro → Nat} {H : Heap} {a b : Option Ro} (h : WA D dA B zE ad M H) (hz : ¬ wA B zE.1) (hs : ns a b) (ha : lv1 M (vR a)) (hb : lv1 M (vR b)) : a.map ad = b.map ad ↔ a = b := by
  constructor
  · intro he
    cases a with
    | none =>
      cases b with
      | none => rfl
      | some y => exact nomatch he
    | some x =>
      cases b with
      | none => exact nomatch he
      | some y => rw [h.inj hz hs (ha x rfl) (hb y rfl) (Option.some.inj he)]
  · intro he
    rw [he]
theorem aw_acmp_eq (X : Cx p s m args meth c cc nL own Ts D dA B zE) {x y : Option Ro} {off : Int} {tgt : Nat} (hns : ns x y) (hd : decode cc pc = .ok (.if_acmp .eq off, 3)) (ht : (pc : Int) + off = (tgt : Int)) (kt : x = y → AW p l e R s m args below meth c Q D dA B zE nL ad0 M0 M cells slots tgt lv st) (kf : ¬ x = y → AW p l e R s m args below meth c Q D dA B zE nL ad0 M0 M cells slots (pc + 3) lv st) : AW p l e R s m args below meth c Q D dA B zE nL ad0 M0 M cells slots pc lv (vR y :: vR x :: st) := by
  intro ad H locs ls h1 h2 h3 h4 h5 h6 h7
  have hi := h3.injO (gStat_out X.hG.2.2.1) hns h7.tl.hd h7.hd
  exact lv_acmp_eq X.1 X.2.1 hd ht (fun q => kt (hi.mp q) ad H locs ls h1 h2 h3 h4 h5 h6 h7.tl.tl) (fun q => kf (fun z => q (hi.mpr z)) ad H locs ls h1 h2 h3 h4 h5 h6 h7.tl.tl)
theorem aw_acmp_ne (X : Cx p s m args meth c cc nL own Ts D dA B zE) {x y : Option Ro} {off : Int} {tgt : Nat} (hns : ns x y) (hd : decode cc pc = .ok (.if_acmp .ne off, 3)) (ht : (pc : Int) + off = (tgt : Int)) (kt : ¬ x = y → AW p l e R s m args below meth c Q D dA B zE nL ad0 M0 M cells slots tgt lv st) (kf : x = y → AW p l e R s m args below meth c Q D dA B zE nL ad0 M0 M cells slots (pc + 3) lv st) : AW p l e R s m args below meth c Q D dA B zE nL ad0 M0 M cells slots pc lv (vR y :: vR x :: st) := by
  intro ad H locs ls h1 h2 h3 h4 h5 h6 h7
  have hi := h3.injO (gStat_out X.hG.2.2.1) hns h7.tl.hd h7.hd
  exact lv_acmp_ne X.1 X.2.1 hd ht (fun q => kt (fun z => q (hi.mpr z)) ad H locs ls h1 h2 h3 h4 h5 h6 h7.tl.tl) (fun q => kf (hi.mp q) ad H locs ls h1 h2 h3 h4 h5 h6 h7.tl.tl)
/-- the static empty array -/
theorem aw_gets (X : Cx p s m args meth c cc nL own Ts D dA B zE) {index : Nat} {ref : String} (hl : Cond.fieldLink own index ref gsN gsD ∈ Ts) (hr : ref = gsC) (hd : decode cc pc = .ok (.getstatic index, 3)) (k : AW p l e R s m args below meth c Q D dA B zE nL ad0 M0 M cells slots (pc + 3) lv (vR (some (90, 0)) :: st)) : AW p l e R s m args below meth c Q D dA B zE nL ad0 M0 M cells slots pc lv st := by
  subst hr
  intro ad H locs ls h1 h2 h3 h4 h5 h6 h7
  have hk := k ad H locs ls h1 h2 h3 h4 h5 h6 (h7.cn (lv1_R h3.2.2.2.1))
  have e1 : (vR (some (90, 0)) :: st).map (cv ad) = .ref zE.1 :: st.map (cv ad) := by
    show .ref (ad (90, 0)) :: st.map (cv ad) = _
    rw [h3.2.2.1.1]
  rw [e1] at hk
  exact va_gets X.1 X.2.1 X.hG.2.2.1.1 h4 X.hown (X.hts _ hl) (fun _ h => h) hd hk

/-- the class object of Object[] -/
theorem aw_ldcM (X : Cx p s m args meth c cc nL own Ts D dA B zE) {index : Nat} (hl : Cond.classLink own index gsD ∈ Ts) (hd : decode cc pc = .ok (.ldc index, 2)) (k : AW p l e R s m args below meth c Q D dA B zE nL ad0 M0 M cells slots (pc + 2) lv (vR (some (91, 0)) :: st)) : AW p l e R s m args below meth c Q D dA B zE nL ad0 M0 M cells slots pc lv st := by
  intro ad H locs ls h1 h2 h3 h4 h5 h6 h7
  have hk := k ad H locs ls h1 h2 h3 h4 h5 h6 (h7.cn (lv1_R h3.2.2.2.2.1))
  have e1 : (vR (some (91, 0)) :: st).map (cv ad) = .ref zE.2.1 :: st.map (cv ad) := by
    show .ref (ad (91, 0)) :: st.map (cv ad) = _
    rw [h3.2.2.1.2.1]
  rw [e1] at hk
  exact va_ldcM X.1 X.2.1 X.hown (X.hts _ hl) X.hG.2.2.1.2.2.1 hd hk
def gC (M : wM) (o : Option Ro) (K : Prop) : Prop := (∃ (r : Ro) (n : Nat) (f : Nat → Option Ro), o = some r ∧ r.1 < 90 ∧ M r = some (ar 3 n f)) ∧ K
abbrev gcN : MethodName := ⟨"java/lang/Object", "getClass", "()Ljava/lang/Class;"⟩
theorem aw_gC (X : Cx p s m args meth c cc nL own Ts D dA B zE) {index : Nat} (hl : Cond.methodLink own index gcN ∈ Ts) (hde : Cond.declares gcN ∈ nestW) (hse : Cond.selects gsD gcN gcN ∈ Ts) (him : Cond.instanceMethod gcN ∈ Ts) (hna : Cond.native gcN ∈ Ts) (hfr : 1 ≤ R.frames) (hlo : (st.map acat).sum + 14 ≤ R.locals) (hd : decode cc pc = .ok (.invokevirtual index, 3)) {o : Option Ro} (h : gC M o (AW p l e R s m args below meth c Q D dA B zE nL ad0 M0 M cells slots (pc + 3) lv (vR (some (91, 0)) :: st))) : AW p l e R s m args below meth c Q D dA B zE nL ad0 M0 M cells slots pc lv (vR o :: st) := by
  obtain ⟨⟨r, n, f, rfl, hr, hM⟩, k⟩ := h
  intro ad H locs ls h1 h2 h3 h4 h5 h6 h7
  have hk := k ad H locs ls h1 h2 h3 h4 h5 h6 (h7.tl.cn (lv1_R h3.2.2.2.2.1))
  have e1 : (vR (some (91, 0)) :: st).map (cv ad) = .ref zE.2.1 :: st.map (cv ad) := by
    show .ref (ad (91, 0)) :: st.map (cv ad) = _
    rw [h3.2.2.1.2.1]
  rw [e1] at hk
  have hP := h3.1.P (cW_at (dA := dA) (ad := ad) hr hM)
  have hc : H[ad r]? = some (vp_cell (dA 3) (n, .inr (.inr (.inr (.inr (fun j => (f j).map ad)))))) := hP 0 _ rfl
  have hra := (X.hK.2 3 _ (tysA_at (dA := dA) (t := 3) rfl)).2
  obtain ⟨_, _, _, _, _, hf⟩ := hra
  exact va_getC (C := gsD) X.1 X.2.1 (by rw [X.2.2.1]; exact h5.1.symm) X.hown (X.hts _ hl) ((X.hG.2.2.2 _ hde).use (nestW_tab _ hde)) (X.hts _ hse) (X.hts _ him) (X.hts _ hna) X.hG.2.2.1.2.2.1 ⟨_, hc, rfl, hf⟩ hfr (by rw [List.map_map, show (fun v : Value => v.category) ∘ cv ad = acat from funext (cv_cat ad)]; exact hlo) hd hk
/-- the script -/
def xL (zE : ZT) (o : Option Ro) (x : Int32) (K : Int32 → Prop) : Prop := o = some (92, 0) ∧ vp_in x zE.2.2.2.1 ∧ K (zE.2.2.2.2 x.toNatClampNeg)
def xN (zE : ZT) (o : Option Ro) (K : Int32 → Prop) : Prop := o = some (92, 0) ∧ K (nI zE.2.2.2.1)
theorem xL.mono {zE : ZT} {o : Option Ro} {x : Int32} {K K2 : Int32 → Prop} (h : xL zE o x K) (f : ∀ x, K x → K2 x) : xL zE o x K2 := ⟨h.1, h.2.1, f _ h.2.2⟩
theorem xN.mono {zE : ZT} {o : Option Ro} {K K2 : Int32 → Prop} (h : xN zE o K) (f : ∀ x, K x → K2 x) : xN zE o K2 := ⟨h.1, f _ h.2⟩
theorem aw_xL (X : Cx p s m args meth c cc nL own Ts D dA B zE) (hd : decode cc pc = .ok (.iaload, 1)) {o : Option Ro} {x : Int32} (h : xL zE o x (fun y => AW p l e R s m args below meth c Q D dA B zE nL ad0 M0 M cells slots (pc + 1) lv (vI y :: st))) : AW p l e R s m args below meth c Q D dA B zE nL ad0 M0 M cells slots pc lv (vI x :: vR o :: st) := by
  obtain ⟨rfl, hv, kk⟩ := h
  intro ad H locs ls h1 h2 h3 h4 h5 h6 h7
  show W p l e R s m args below meth c H locs cells slots Q (F0 m pc ls (.int x :: .ref (ad (92, 0)) :: st.map (cv ad)))
  rw [h3.2.2.1.2.2]
  exact va_sld X.1 X.2.1 X.hG.2.2.1.2.2.2.2.2.1 X.hG.2.2.1.2.2.2.2.2.2.1 X.hG.2.2.1.2.2.2.2.2.2.2 h4 hv hd (kk ad H locs ls h1 h2 h3 h4 h5 h6 h7.tl.tl.ni)
theorem aw_xN (X : Cx p s m args meth c cc nL own Ts D dA B zE) (hd : decode cc pc = .ok (.arraylength, 1)) {o : Option Ro} (h : xN zE o (fun y => AW p l e R s m args below meth c Q D dA B zE nL ad0 M0 M cells slots (pc + 1) lv (vI y :: st))) : AW p l e R s m args below meth c Q D dA B zE nL ad0 M0 M cells slots pc lv (vR o :: st) := by
  obtain ⟨rfl, kk⟩ := h
  intro ad H locs ls h1 h2 h3 h4 h5 h6 h7
  show W p l e R s m args below meth c H locs cells slots Q (F0 m pc ls (.ref (ad (92, 0)) :: st.map (cv ad)))
  rw [h3.2.2.1.2.2]
  exact va_slen X.1 X.2.1 X.hG.2.2.1.2.2.2.2.2.1 X.hG.2.2.1.2.2.2.2.2.2.1 X.hG.2.2.1.2.2.2.2.2.2.2 h4 hd (kk ad H locs ls h1 h2 h3 h4 h5 h6 h7.tl.ni)
def nn (o : Option Ro) (K : Prop) : Prop := (∃ r : Ro, o = some r) ∧ K
theorem aw_objInit (X : Cx p s m args meth c cc nL own Ts D dA B zE) {index : Nat} (hl : Cond.methodLink own index Lib.objectInit ∈ Ts) (him : Cond.instanceMethod Lib.objectInit ∈ Ts) (hco : Cond.code Lib.objectInit ⟨#[0xb1]⟩ 1 none ∈ Ts) (hfr : 1 ≤ R.frames) (hlo : (st.map acat).sum + 12 ≤ R.locals) (hd : decode cc pc = .ok (.invokespecial index, 3)) {r : Ro} (k : AW p l e R s m args below meth c Q D dA B zE nL ad0 M0 M cells slots (pc + 3) lv st) : AW p l e R s m args below meth c Q D dA B zE nL ad0 M0 M cells slots pc lv (vR (some r) :: st) := by
  intro ad H locs ls h1 h2 h3 h4 h5 h6 h7
  refine W.objInit X.1 X.2.1 X.hown (X.hts _ hl) (X.hts _ him) (X.hts _ hco) rfl (by rw [X.2.2.1]; exact h5.1) rfl hd hfr ?_ (k ad H locs ls h1 h2 h3 h4 h5 h6 h7.tl)
  rw [List.map_map, show (fun v : Value => v.category) ∘ cv ad = acat from funext (cv_cat ad)]
  show 2 * 0 + _ + 12 ≤ _
  omega

theorem aw_cpI (X : Cx p s m args meth c cc nL own Ts D dA B zE) {index : Nat} (hl : Cond.methodLink own index arraycopyName ∈ Ts) (hnat : Cond.native arraycopyName ∈ Ts) (hsta : Cond.static arraycopyName ∈ Ts) (hini : Cond.initialized "java/lang/System" ∈ Ts) (hfr : 1 ≤ R.frames) (hlo : (st.map acat).sum + (nativeFrameWords "java/lang/System" "arraycopy" 5 + 11) ≤ R.locals) (hd : decode cc pc = .ok (.invokestatic index, 3)) {o1 o2 : Option Ro} {sp dp n : Int32} (h : cpI M o1 sp o2 dp n (fun M' => AW p l e R s m args below meth c Q D dA B zE nL ad0 M0 M' cells slots (pc + 3) lv st)) : AW p l e R s m args below meth c Q D dA B zE nL ad0 M0 M cells slots pc lv (vI n :: vI dp :: vR o2 :: vI sp :: vR o1 :: st) := by
  obtain ⟨r1, r2, n1, n2, f, g, rfl, rfl, hM1, hM2, g1, g2, g3, g4, g5, g6, g7, kk⟩ := h
  intro ad H locs ls h1 h2 h3 h4 h5 h6 h7
  refine wr_copyi X.1 X.2.1 (by rw [X.2.2.1]; exact h5.1.symm) X.hown (X.hts _ hl) (X.hts _ hnat) (X.hts _ hsta) (X.hts _ hini) X.hK h3.1 h4 0 0 r1.1 r1.2 (cW_at (h3.ra hM1 g6) hM1) r2.1 r2.2 (cW_at (h3.ra hM2 g7) hM2) (tysA_at rfl) (tysA_at rfl) rfl g1 g2 g3 g4 g5 (fun _ _ => rfl) hfr (by rw [List.map_map, show (fun v : Value => v.category) ∘ cv ad = acat from funext (cv_cat ad)]; exact hlo) hd (fun H1 locs1 hw hS => ?_)
  exact kk ad H1 locs1 ls h1 (sb_up h2) (h3.put (e1 := ai 0 n2 (va_cpy f g sp.toNatClampNeg dp.toNatClampNeg n.toNatClampNeg)) (h3.ra hM2 g7) ⟨(h3.2.1.ok hM2 (h3.ra hM2 g7)).1, trivial⟩ hw) hS h5 (h6.sb sb_up1) (h7.tl.tl.tl.tl.tl.sb sb_up1)
theorem aw_cpL (X : Cx p s m args meth c cc nL own Ts D dA B zE) {index : Nat} (hl : Cond.methodLink own index arraycopyName ∈ Ts) (hnat : Cond.native arraycopyName ∈ Ts) (hsta : Cond.static arraycopyName ∈ Ts) (hini : Cond.initialized "java/lang/System" ∈ Ts) (hfr : 1 ≤ R.frames) (hlo : (st.map acat).sum + (nativeFrameWords "java/lang/System" "arraycopy" 5 + 11) ≤ R.locals) (hd : decode cc pc = .ok (.invokestatic index, 3)) {o1 o2 : Option Ro} {sp dp n : Int32} (h : cpL M o1 sp o2 dp n (fun M' => AW p l e R s m args below meth c Q D dA B zE nL ad0 M0 M' cells slots (pc + 3) lv st)) : AW p l e R s m args below meth c Q D dA B zE nL ad0 M0 M cells slots pc lv (vI n :: vI dp :: vR o2 :: vI sp :: vR o1 :: st) := by
  obtain ⟨r1, r2, n1, n2, f, g, rfl, rfl, hM1, hM2, g1, g2, g3, g4, g5, g6, g7, kk⟩ := h
  intro ad H locs ls h1 h2 h3 h4 h5 h6 h7
  refine wr_copyl X.1 X.2.1 (by rw [X.2.2.1]; exact h5.1.symm) X.hown (X.hts _ hl) (X.hts _ hnat) (X.hts _ hsta) (X.hts _ hini) X.hK h3.1 h4 1 1 r1.1 r1.2 (cW_at (h3.ra hM1 g6) hM1) r2.1 r2.2 (cW_at (h3.ra hM2 g7) hM2) (tysA_at rfl) (tysA_at rfl) rfl g1 g2 g3 g4 g5 (fun _ _ => rfl) hfr (by rw [List.map_map, show (fun v : Value => v.category) ∘ cv ad = acat from funext (cv_cat ad)]; exact hlo) hd (fun H1 locs1 hw hS => ?_)
  exact kk ad H1 locs1 ls h1 (sb_up h2) (h3.put (e1 := al 1 n2 (va_cpy f g sp.toNatClampNeg dp.toNatClampNeg n.toNatClampNeg)) (h3.ra hM2 g7) ⟨(h3.2.1.ok hM2 (h3.ra hM2 g7)).1, trivial⟩ hw) hS h5 (h6.sb sb_up1) (h7.tl.tl.tl.tl.tl.sb sb_up1)
theorem va_cpy_map {ad : Ro → Nat} {f g : Nat → Option Ro} {a b n : Nat} : (fun j => (va_cpy f g a b n j).map ad) = va_cpy (fun j => (f j).map ad) (fun j => (g j).map ad) a b n := by
  funext j
  by_cases h : b ≤ j ∧ j < b + n <;> simp [va_cpy, h]
theorem aw_cpR (X : Cx p s m args meth c cc nL own Ts D dA B zE) {index : Nat} (hl : Cond.methodLink own index arraycopyName ∈ Ts) (hnat : Cond.native arraycopyName ∈ Ts) (hsta : Cond.static arraycopyName ∈ Ts) (hini : Cond.initialized "java/lang/System" ∈ Ts) (hfr : 1 ≤ R.frames) (hlo : (st.map acat).sum + (nativeFrameWords "java/lang/System" "arraycopy" 5 + 11) ≤ R.locals) (hd : decode cc pc = .ok (.invokestatic index, 3)) {o1 o2 : Option Ro} {sp dp n : Int32} (h : cpR M o1 sp o2 dp n (fun M' => AW p l e R s m args below meth c Q D dA B zE nL ad0 M0 M' cells slots (pc + 3) lv st)) : AW p l e R s m args below meth c Q D dA B zE nL ad0 M0 M cells slots pc lv (vI n :: vI dp :: vR o2 :: vI sp :: vR o1 :: st) := by
  obtain ⟨r1, r2, t1, t2, n1, n2, ci, f, g, q, E1, E2, rfl, rfl, hM1, hM2, ht1, ht2, hq, hca, g1, g2, g3, g4, g5, g6, g7, hel, kk⟩ := h
  intro ad H locs ls h1 h2 h3 h4 h5 h6 h7
  refine wr_copyq (C := q.1) X.1 X.2.1 (by rw [X.2.2.1]; exact h5.1.symm) X.hown (X.hts _ hl) (X.hts _ hnat) (X.hts _ hsta) (X.hts _ hini) X.hK h3.1 h4 t1 t2 r1.1 r1.2 (cW_at (h3.ra hM1 g6) hM1) r2.1 r2.2 (cW_at (h3.ra hM2 g7) hM2) (tysA_at ht1) (tysA_at ht2) g1 g2 g3 g4 g5 (fun i hi y hy => ?_) (vb_asgC (X.hG.2.2.2 _ hca)) hfr (by rw [List.map_map, show (fun v : Value => v.category) ∘ cv ad = acat from funext (cv_cat ad)]; exact hlo) hd (fun H1 locs1 hw hS => ?_)
  · cases hf : f (sp.toNatClampNeg + i) with
    | none =>
      rw [hf] at hy
      exact nomatch hy
    | some r =>
      rw [hf] at hy
      cases hy
      obtain ⟨fs, hfs⟩ := hel i hi r hf
      exact h3.recv X.hK hq hfs
  · refine kk ad H1 locs1 ls h1 (sb_up h2) (h3.put (e1 := ar t2 n2 (va_cpy f g sp.toNatClampNeg dp.toNatClampNeg n.toNatClampNeg)) (h3.ra hM2 g7) ⟨(h3.2.1.ok hM2 (h3.ra hM2 g7)).1, fun j => ?_⟩ ?_) hS h5 (h6.sb sb_up1) (h7.tl.tl.tl.tl.tl.sb sb_up1)
    · by_cases hj : dp.toNatClampNeg ≤ j ∧ j < dp.toNatClampNeg + n.toNatClampNeg
      · have : va_cpy f g sp.toNatClampNeg dp.toNatClampNeg n.toNatClampNeg j = f (sp.toNatClampNeg + (j - dp.toNatClampNeg)) := by simp [va_cpy, hj]
        rw [this]
        exact ((h3.2.1.ok hM1 (h3.ra hM1 g6)).2 _).sb sb_up1
      · have : va_cpy f g sp.toNatClampNeg dp.toNatClampNeg n.toNatClampNeg j = g j := by simp [va_cpy, hj]
        rw [this]
        exact ((h3.2.1.ok hM2 (h3.ra hM2 g7)).2 _).sb sb_up1
    · show wr D classes (wA B) (w2 (cW dA ad M) r2.1 r2.2 (some (ad r2, Sum.inl (dA t2, n2, Sum.inr (Sum.inr (Sum.inr (Sum.inr (fun j => (va_cpy f g sp.toNatClampNeg dp.toNatClampNeg n.toNatClampNeg j).map ad)))))))) H1
      rw [va_cpy_map]
      exact hw
/-- contracts: the answer and the heap behind, in the method's own words -/
abbrev QI (D : va_G) (dA : Nat → ClassId) (B : Nat) (zE : ZT) (M : wM) (ad : Ro → Nat) (post : Int32 → wM → Prop) : Array Value → State → Outcome → State → Prop := va_Qi (fun x (u : (Ro → Nat) × wM) => post x u.2 ∧ sb M u.2 ∧ xt M ad u.1) (fun u t => WA D dA B zE u.1 u.2 t.heap) (wA B)
abbrev QL (D : va_G) (dA : Nat → ClassId) (B : Nat) (zE : ZT) (M : wM) (ad : Ro → Nat) (post : Int64 → wM → Prop) : Array Value → State → Outcome → State → Prop := va_Ql (fun x (u : (Ro → Nat) × wM) => post x u.2 ∧ sb M u.2 ∧ xt M ad u.1) (fun u t => WA D dA B zE u.1 u.2 t.heap) (wA B)
abbrev QV (D : va_G) (dA : Nat → ClassId) (B : Nat) (zE : ZT) (M : wM) (ad : Ro → Nat) (post : wM → Prop) : Array Value → State → Outcome → State → Prop := va_Qv (fun (u : (Ro → Nat) × wM) => post u.2 ∧ sb M u.2 ∧ xt M ad u.1) (fun u t => WA D dA B zE u.1 u.2 t.heap) (wA B)
abbrev QR (D : va_G) (dA : Nat → ClassId) (B : Nat) (zE : ZT) (M : wM) (ad : Ro → Nat) (post : Option Ro → wM → Prop) : Array Value → State → Outcome → State → Prop := va_Qq (fun x (u : (Ro → Nat) × wM) => ∃ o : Option Ro, x = o.map u.1 ∧ lv1 u.2 (vR o) ∧ post o u.2 ∧ sb M u.2 ∧ xt M ad u.1) (fun u t => WA D dA B zE u.1 u.2 t.heap) (wA B)
abbrev PA (D : va_G) (dA : Nat → ClassId) (B : Nat) (zE : ZT) (M : wM) (ad : Ro → Nat) (av : List AV) : Array Value → State → Prop := va_Pc (av.map (cv ad)) (fun U => gP D dA B zE U ∧ WA D dA B zE ad M U.heap)
theorem PA_blind {ad : Ro → Nat} {av : List AV} : FrameBlind (PA D dA B zE M ad av) := fun a U g mk q => ⟨q.1, q.2.1.blind a g mk, q.2.2⟩
theorem PA_pre {ad : Ro → Nat} {av : List AV} {H : Heap} {locs : List Loc} (hG : gP D dA B zE s) (h3 : WA D dA B zE ad M H) (h4 : va_S (wA B) s.heap H locs) : ∀ U : State, U.heap = H → s.WarmedH U.vm → PA D dA B zE M ad av (av.map (cv ad)).toArray U := fun U hU hW => ⟨rfl, hG.call h4 hU hW, by rw [hU]; exact h3⟩
def alv : Nat → List AV → List (Nat × AV)
  | _, [] => []
  | i, v :: vs => (i, v) :: alv (if acat v = 2 then i + 2 else i + 1) vs
theorem alv_cv {ad : Ro → Nat} : ∀ (av : List AV) (i : Nat), lv_args i (av.map (cv ad)) = cvL ad (alv i av)
  | [], _ => rfl
  | v :: vs, i => by
    show (i, cv ad v) :: lv_args (if (cv ad v).category = 2 then i + 2 else i + 1) (vs.map (cv ad)) = _
    rw [cv_cat, alv_cv vs]
    rfl
theorem alv_live {M : wM} : ∀ (av : List AV) (i : Nat), lvS M av → lvL M (alv i av)
  | [], _, _ => fun _ h => nomatch h
  | v :: vs, i, h => fun q hq => by
    rcases List.mem_cons.mp hq with g | g
    · rw [g]
      exact h.hd
    · exact alv_live vs _ h.tl q g
theorem sl_len {ad : Ro → Nat} : ∀ (av : List AV), (lg_sl (av.map (cv ad))).length = (av.map acat).sum
  | [] => rfl
  | v :: vs => by
    show ((if (cv ad v).category = 2 then [Slot.val (cv ad v), Slot.second] else [Slot.val (cv ad v)]) ++ lg_sl (vs.map (cv ad))).length = _
    rw [List.length_append, sl_len vs, cv_cat]
    rcases v with x | x | r <;> simp [acat]
/-- a method's contract out of a walk of its body -/
theorem AW_start {y : MethodName} {ws ws' : List Cond} {rm : Room} {Qc : Array Value → State → Outcome → State → Prop} {mc ms : Nat} {maxL : Nat} {ret : Option FieldType} {ad : Ro → Nat} (av : List AV) (lv0 : List (Nat × AV)) (hlv : lvS M av)
    (hy : plainName y.cls = true) (hw : ws = Cond.code y cc maxL ret :: ws') (hsub : ∀ w ∈ Ts, w ∈ ws) (h0 : alv 0 av = lv0) (hl0 : (av.map acat).sum ≤ maxL)
    (body : ∀ p e s m args below meth c, Cx p s m args meth c cc maxL y.cls Ts D dA B zE → meth.sig.returnType = ret → meth.name = y.name → AW p l e (headSpec ws rm).room s m args below meth c (MQ below Qc args s mc ms (wA B)) D dA B zE maxL ad M M 0 0 0 lv0 []) :
    Met l y ws rm (PA D dA B zE M ad av) Qc mc ms (wA B) := by
  refine Met.ofW hy hw ?_
  intro p e s m args below meth c s₁ BB hml hv
  obtain ⟨rfl, hG, hW⟩ := hv
  have hl := lv_entry (av.map (cv ad)) (n := maxL) (by rw [sl_len]; exact hl0)
  rw [lg_entry_eq]
  rw [alv_cv, h0] at hl
  exact body p e s m _ below meth c ⟨BB.exec, BB.bytes, hml, findClass_of_methodNamed BB.named, fun w h => atoms_spec (ws := ws) BB.pre w (hsub w h), hG, BB.notSynchronized⟩ BB.returns (name_of_methodNamed BB.named BB.method).1 ad s.heap [] _ (fun _ _ => rfl) sb_rf hW va_S.rf hl (h0 ▸ alv_live av 0 hlv) lvS_nil
/-- a method's contract out of a walk of its body -/
theorem AW_startF {y : MethodName} {ws ws' : List Cond} {rm : Room} {Qc : Array Value → State → Outcome → State → Prop} {mc ms : Nat} {maxL : Nat} {ret : Option FieldType} {ad : Ro → Nat} (av : List AV) (lv0 : List (Nat × AV)) (hlv : lvS M av)
    (hy : plainFor y = true) (hw : ws = Cond.code y cc maxL ret :: ws') (hsub : ∀ w ∈ Ts, w ∈ ws) (h0 : alv 0 av = lv0) (hl0 : (av.map acat).sum ≤ maxL)
    (body : ∀ p e s m args below meth c, Cx p s m args meth c cc maxL y.cls Ts D dA B zE → meth.sig.returnType = ret → meth.name = y.name → AW p l e (headSpec ws rm).room s m args below meth c (MQ below Qc args s mc ms (wA B)) D dA B zE maxL ad M M 0 0 0 lv0 []) :
    Met l y ws rm (PA D dA B zE M ad av) Qc mc ms (wA B) := by
  refine va_MetF hy hw ?_
  intro p e s m args below meth c s₁ BB hml hv
  obtain ⟨rfl, hG, hW⟩ := hv
  have hl := lv_entry (av.map (cv ad)) (n := maxL) (by rw [sl_len]; exact hl0)
  rw [lg_entry_eq]
  rw [alv_cv, h0] at hl
  exact body p e s m _ below meth c ⟨BB.exec, BB.bytes, hml, findClass_of_methodNamed BB.named, fun w h => atoms_spec (ws := ws) BB.pre w (hsub w h), hG, BB.notSynchronized⟩ BB.returns (name_of_methodNamed BB.named BB.method).1 ad s.heap [] _ (fun _ _ => rfl) sb_rf hW va_S.rf hl (h0 ▸ alv_live av 0 hlv) lvS_nil

theorem aw_iret (X : Cx p s m args meth c cc nL own Ts D dA B zE) {mc ms : Nat} {post : Int32 → wM → Prop} {x : Int32} (hr : meth.sig.returnType = some .int) (hc : cells ≤ mc) (hs : slots ≤ ms) (hd : decode cc pc = .ok (.ireturn, 1)) (hp : post x M) : AW p l e R s m args below meth c (MQ below (QI D dA B zE M0 ad0 post) args s mc ms (wA B)) D dA B zE nL ad0 M0 M cells slots pc lv [vI x] := by
  intro ad H locs ls h1 h2 h3 h4 h5 h6 h7
  refine W.widen hc hs ?_
  exact W.iret (v := x) X.1 X.2.1 hr (fun t ht hW => ⟨⟨x, (ad, M), rfl, ⟨hp, h2, h1⟩, by subst ht; exact h3⟩, h4.F ht⟩) h4.2.2 hd X.hlk
theorem aw_zret (X : Cx p s m args meth c cc nL own Ts D dA B zE) {mc ms : Nat} {post : Int32 → wM → Prop} {x : Int32} (hr : meth.sig.returnType = some .boolean) (hx : x = 0 ∨ x = 1) (hc : cells ≤ mc) (hs : slots ≤ ms) (hd : decode cc pc = .ok (.ireturn, 1)) (hp : post x M) : AW p l e R s m args below meth c (MQ below (QI D dA B zE M0 ad0 post) args s mc ms (wA B)) D dA B zE nL ad0 M0 M cells slots pc lv [vI x] := by
  intro ad H locs ls h1 h2 h3 h4 h5 h6 h7
  refine W.widen hc hs ?_
  exact W.zret (v := x) X.1 X.2.1 hr (by rcases hx with rfl | rfl <;> rfl) (fun t ht hW => ⟨⟨x, (ad, M), rfl, ⟨hp, h2, h1⟩, by subst ht; exact h3⟩, h4.F ht⟩) h4.2.2 hd X.hlk
theorem aw_lret (X : Cx p s m args meth c cc nL own Ts D dA B zE) {mc ms : Nat} {post : Int64 → wM → Prop} {x : Int64} (hr : meth.sig.returnType = some .long) (hc : cells ≤ mc) (hs : slots ≤ ms) (hd : decode cc pc = .ok (.lreturn, 1)) (hp : post x M) : AW p l e R s m args below meth c (MQ below (QL D dA B zE M0 ad0 post) args s mc ms (wA B)) D dA B zE nL ad0 M0 M cells slots pc lv [vL x] := by
  intro ad H locs ls h1 h2 h3 h4 h5 h6 h7
  refine W.widen hc hs ?_
  exact W.lret (v := x) X.1 X.2.1 hr (fun t ht hW => ⟨⟨x, (ad, M), rfl, ⟨hp, h2, h1⟩, by subst ht; exact h3⟩, h4.F ht⟩) h4.2.2 hd X.hlk
theorem aw_vret (X : Cx p s m args meth c cc nL own Ts D dA B zE) {mc ms : Nat} {post : wM → Prop} (hr : meth.sig.returnType = none) (hc : cells ≤ mc) (hs : slots ≤ ms) (hd : decode cc pc = .ok (.return_, 1)) (hp : post M) : AW p l e R s m args below meth c (MQ below (QV D dA B zE M0 ad0 post) args s mc ms (wA B)) D dA B zE nL ad0 M0 M cells slots pc lv [] := by
  intro ad H locs ls h1 h2 h3 h4 h5 h6 h7
  refine W.widen hc hs ?_
  exact W.vret X.1 X.2.1 hr (fun t ht hW => ⟨⟨(ad, M), rfl, ⟨hp, h2, h1⟩, by subst ht; exact h3⟩, h4.F ht⟩) h4.2.2 hd X.hlk
theorem aw_aret (X : Cx p s m args meth c cc nL own Ts D dA B zE) {mc ms : Nat} {post : Option Ro → wM → Prop} {x : Option Ro} {rt : FieldType} (hr : meth.sig.returnType = some rt) (hrt : (∃ n, rt = .object n) ∨ ∃ t, rt = .array t) (hc : cells ≤ mc) (hs : slots ≤ ms) (hd : decode cc pc = .ok (.areturn, 1)) (hp : post x M) : AW p l e R s m args below meth c (MQ below (QR D dA B zE M0 ad0 post) args s mc ms (wA B)) D dA B zE nL ad0 M0 M cells slots pc lv [vR x] := by
  intro ad H locs ls h1 h2 h3 h4 h5 h6 h7
  refine W.widen hc hs ?_
  exact W.aret (v := va_rf (x.map ad)) X.1 X.2.1 hr hrt (by cases x <;> simp [va_rf]) (fun t ht hW => ⟨⟨x.map ad, (ad, M), rfl, ⟨x, rfl, h7.hd, hp, h2, h1⟩, by subst ht; exact h3⟩, h4.F ht⟩) h4.2.2 hd X.hlk
theorem aw_cVi (X : Cx p s m args meth c cc nL own Ts D dA B zE) {y : MethodName} {bytes : ByteArray} {maxL mc ms n index : Nat} {ret : Option FieldType} {ws : List Cond} {rm : Room} {C : String} {r : Ro} {post : Int32 → wM → Prop} (As : List AV) (hM : ∀ ad : Ro → Nat, lvS M (vR (some r) :: As) → Met l y ws rm (PA D dA B zE M ad (vR (some r) :: As)) (QI D dA B zE M ad post) mc ms (wA B)) (cw : CallW R s args own C index y bytes maxL ret ws rm mc ms n) (hob : ∃ (ci : Nat) (fs : List AV) (q : vw_C), M r = some (ob ci fs) ∧ classes[ci]? = some q ∧ q.1 = C) {st0 : List AV} (hst : st0 = As.reverse ++ vR (some r) :: st) (hn : As.length = n) (hrm : (st.map acat).sum ≤ 8) (hd : decode cc pc = .ok (.invokevirtual index, 3)) (hf : cells + mc ≤ R.cells ∧ slots + ms ≤ R.slots) (k : ∀ x M', post x M' → AW p l e R s m args below meth c Q D dA B zE nL ad0 M0 M' (cells + mc) (slots + ms) (pc + 3) lv (vI x :: st)) : AW p l e R s m args below meth c Q D dA B zE nL ad0 M0 M cells slots pc lv st0 := by
  intro ad H locs ls h1 h2 h3 h4 h5 h6 h7
  have hst7 : lvS M st := fun v hv => h7 v (by rw [hst]; exact List.mem_append_right _ (List.mem_cons_of_mem _ hv))
  have hAs : lvS M (vR (some r) :: As) := fun v hv => h7 v (by rw [hst]; rcases List.mem_cons.mp hv with g | g; exact List.mem_append_right _ (g ▸ List.mem_cons_self); exact List.mem_append_left _ (List.mem_reverse.mpr g))
  have hstk : st0.map (cv ad) = (As.map (cv ad)).reverse ++ .ref (ad r) :: st.map (cv ad) := by rw [hst, List.map_append, List.map_reverse]; rfl
  obtain ⟨ci, fs, q, hMr, hq, hqC⟩ := hob
  refine va_calli (va_runV (As := As.map (cv ad)) (rest := st.map (cv ad)) ⟨X.1, X.2.1, X.2.2.1, X.hown, X.hts⟩ (hM ad hAs) cw ⟨PA_blind, hqC ▸ h3.recv X.hK hq hMr, PA_pre X.hG h3 h4⟩ rfl (by rw [List.length_map]; exact hn) h5.1 hstk (lv_room (by rw [List.map_map, show (fun v : Value => v.category) ∘ cv ad = acat from funext (cv_cat ad)]; exact hrm)) hd hf) h4 (fun q _ h => h) (fun q h => h) (fun x u t H1 locs1 ht hvm hp hB hz hk hS => ?_)
  obtain ⟨hp1, hp2, hp3⟩ := hp
  have hk := k x u.2 hp1 u.1 H1 locs1 ls (fun z hz => (hp3 z (h2 z hz)).trans (h1 z hz)) (sb_tr h2 hp2) (by rw [← ht]; exact hB) hS (by rw [cvL_xt hp3 h6]; exact h5) (h6.sb hp2) (hst7.sb hp2).ni
  have e1 : (vI x :: st).map (cv u.1) = .int x :: st.map (cv ad) := by rw [List.map_cons, cvs_xt hp3 hst7]; rfl
  rw [e1] at hk
  exact hk
theorem aw_cVl (X : Cx p s m args meth c cc nL own Ts D dA B zE) {y : MethodName} {bytes : ByteArray} {maxL mc ms n index : Nat} {ret : Option FieldType} {ws : List Cond} {rm : Room} {C : String} {r : Ro} {post : Int64 → wM → Prop} (As : List AV) (hM : ∀ ad : Ro → Nat, lvS M (vR (some r) :: As) → Met l y ws rm (PA D dA B zE M ad (vR (some r) :: As)) (QL D dA B zE M ad post) mc ms (wA B)) (cw : CallW R s args own C index y bytes maxL ret ws rm mc ms n) (hob : ∃ (ci : Nat) (fs : List AV) (q : vw_C), M r = some (ob ci fs) ∧ classes[ci]? = some q ∧ q.1 = C) {st0 : List AV} (hst : st0 = As.reverse ++ vR (some r) :: st) (hn : As.length = n) (hrm : (st.map acat).sum ≤ 8) (hd : decode cc pc = .ok (.invokevirtual index, 3)) (hf : cells + mc ≤ R.cells ∧ slots + ms ≤ R.slots) (k : ∀ x M', post x M' → AW p l e R s m args below meth c Q D dA B zE nL ad0 M0 M' (cells + mc) (slots + ms) (pc + 3) lv (vL x :: st)) : AW p l e R s m args below meth c Q D dA B zE nL ad0 M0 M cells slots pc lv st0 := by
  intro ad H locs ls h1 h2 h3 h4 h5 h6 h7
  have hst7 : lvS M st := fun v hv => h7 v (by rw [hst]; exact List.mem_append_right _ (List.mem_cons_of_mem _ hv))
  have hAs : lvS M (vR (some r) :: As) := fun v hv => h7 v (by rw [hst]; rcases List.mem_cons.mp hv with g | g; exact List.mem_append_right _ (g ▸ List.mem_cons_self); exact List.mem_append_left _ (List.mem_reverse.mpr g))
  have hstk : st0.map (cv ad) = (As.map (cv ad)).reverse ++ .ref (ad r) :: st.map (cv ad) := by rw [hst, List.map_append, List.map_reverse]; rfl
  obtain ⟨ci, fs, q, hMr, hq, hqC⟩ := hob
  refine va_calll (va_runV (As := As.map (cv ad)) (rest := st.map (cv ad)) ⟨X.1, X.2.1, X.2.2.1, X.hown, X.hts⟩ (hM ad hAs) cw ⟨PA_blind, hqC ▸ h3.recv X.hK hq hMr, PA_pre X.hG h3 h4⟩ rfl (by rw [List.length_map]; exact hn) h5.1 hstk (lv_room (by rw [List.map_map, show (fun v : Value => v.category) ∘ cv ad = acat from funext (cv_cat ad)]; exact hrm)) hd hf) h4 (fun q _ h => h) (fun q h => h) (fun x u t H1 locs1 ht hvm hp hB hz hk hS => ?_)
  obtain ⟨hp1, hp2, hp3⟩ := hp
  have hk := k x u.2 hp1 u.1 H1 locs1 ls (fun z hz => (hp3 z (h2 z hz)).trans (h1 z hz)) (sb_tr h2 hp2) (by rw [← ht]; exact hB) hS (by rw [cvL_xt hp3 h6]; exact h5) (h6.sb hp2) (hst7.sb hp2).nl
  have e1 : (vL x :: st).map (cv u.1) = .long x :: st.map (cv ad) := by rw [List.map_cons, cvs_xt hp3 hst7]; rfl
  rw [e1] at hk
  exact hk
theorem aw_cVv (X : Cx p s m args meth c cc nL own Ts D dA B zE) {y : MethodName} {bytes : ByteArray} {maxL mc ms n index : Nat} {ret : Option FieldType} {ws : List Cond} {rm : Room} {C : String} {r : Ro} {post : wM → Prop} (As : List AV) (hM : ∀ ad : Ro → Nat, lvS M (vR (some r) :: As) → Met l y ws rm (PA D dA B zE M ad (vR (some r) :: As)) (QV D dA B zE M ad post) mc ms (wA B)) (cw : CallW R s args own C index y bytes maxL ret ws rm mc ms n) (hob : ∃ (ci : Nat) (fs : List AV) (q : vw_C), M r = some (ob ci fs) ∧ classes[ci]? = some q ∧ q.1 = C) {st0 : List AV} (hst : st0 = As.reverse ++ vR (some r) :: st) (hn : As.length = n) (hrm : (st.map acat).sum ≤ 8) (hd : decode cc pc = .ok (.invokevirtual index, 3)) (hf : cells + mc ≤ R.cells ∧ slots + ms ≤ R.slots) (k : ∀ M', post M' → AW p l e R s m args below meth c Q D dA B zE nL ad0 M0 M' (cells + mc) (slots + ms) (pc + 3) lv (st)) : AW p l e R s m args below meth c Q D dA B zE nL ad0 M0 M cells slots pc lv st0 := by
  intro ad H locs ls h1 h2 h3 h4 h5 h6 h7
  have hst7 : lvS M st := fun v hv => h7 v (by rw [hst]; exact List.mem_append_right _ (List.mem_cons_of_mem _ hv))
  have hAs : lvS M (vR (some r) :: As) := fun v hv => h7 v (by rw [hst]; rcases List.mem_cons.mp hv with g | g; exact List.mem_append_right _ (g ▸ List.mem_cons_self); exact List.mem_append_left _ (List.mem_reverse.mpr g))
  have hstk : st0.map (cv ad) = (As.map (cv ad)).reverse ++ .ref (ad r) :: st.map (cv ad) := by rw [hst, List.map_append, List.map_reverse]; rfl
  obtain ⟨ci, fs, q, hMr, hq, hqC⟩ := hob
  refine va_callv (va_runV (As := As.map (cv ad)) (rest := st.map (cv ad)) ⟨X.1, X.2.1, X.2.2.1, X.hown, X.hts⟩ (hM ad hAs) cw ⟨PA_blind, hqC ▸ h3.recv X.hK hq hMr, PA_pre X.hG h3 h4⟩ rfl (by rw [List.length_map]; exact hn) h5.1 hstk (lv_room (by rw [List.map_map, show (fun v : Value => v.category) ∘ cv ad = acat from funext (cv_cat ad)]; exact hrm)) hd hf) h4 (fun q _ h => h) (fun q h => h) (fun u t H1 locs1 ht hvm hp hB hz hk hS => ?_)
  obtain ⟨hp1, hp2, hp3⟩ := hp
  have hk := k u.2 hp1 u.1 H1 locs1 ls (fun z hz => (hp3 z (h2 z hz)).trans (h1 z hz)) (sb_tr h2 hp2) (by rw [← ht]; exact hB) hS (by rw [cvL_xt hp3 h6]; exact h5) (h6.sb hp2) (hst7.sb hp2)
  have e1 : st.map (cv u.1) = st.map (cv ad) := cvs_xt hp3 hst7
  rw [e1] at hk
  exact hk
theorem aw_cVr (X : Cx p s m args meth c cc nL own Ts D dA B zE) {y : MethodName} {bytes : ByteArray} {maxL mc ms n index : Nat} {ret : Option FieldType} {ws : List Cond} {rm : Room} {C : String} {r : Ro} {post : Option Ro → wM → Prop} (As : List AV) (hM : ∀ ad : Ro → Nat, lvS M (vR (some r) :: As) → Met l y ws rm (PA D dA B zE M ad (vR (some r) :: As)) (QR D dA B zE M ad post) mc ms (wA B)) (cw : CallW R s args own C index y bytes maxL ret ws rm mc ms n) (hob : ∃ (ci : Nat) (fs : List AV) (q : vw_C), M r = some (ob ci fs) ∧ classes[ci]? = some q ∧ q.1 = C) {st0 : List AV} (hst : st0 = As.reverse ++ vR (some r) :: st) (hn : As.length = n) (hrm : (st.map acat).sum ≤ 8) (hd : decode cc pc = .ok (.invokevirtual index, 3)) (hf : cells + mc ≤ R.cells ∧ slots + ms ≤ R.slots) (k : ∀ x M', post x M' → AW p l e R s m args below meth c Q D dA B zE nL ad0 M0 M' (cells + mc) (slots + ms) (pc + 3) lv (vR x :: st)) : AW p l e R s m args below meth c Q D dA B zE nL ad0 M0 M cells slots pc lv st0 := by
  intro ad H locs ls h1 h2 h3 h4 h5 h6 h7
  have hst7 : lvS M st := fun v hv => h7 v (by rw [hst]; exact List.mem_append_right _ (List.mem_cons_of_mem _ hv))
  have hAs : lvS M (vR (some r) :: As) := fun v hv => h7 v (by rw [hst]; rcases List.mem_cons.mp hv with g | g; exact List.mem_append_right _ (g ▸ List.mem_cons_self); exact List.mem_append_left _ (List.mem_reverse.mpr g))
  have hstk : st0.map (cv ad) = (As.map (cv ad)).reverse ++ .ref (ad r) :: st.map (cv ad) := by rw [hst, List.map_append, List.map_reverse]; rfl
  obtain ⟨ci, fs, q, hMr, hq, hqC⟩ := hob
  refine va_callq (va_runV (As := As.map (cv ad)) (rest := st.map (cv ad)) ⟨X.1, X.2.1, X.2.2.1, X.hown, X.hts⟩ (hM ad hAs) cw ⟨PA_blind, hqC ▸ h3.recv X.hK hq hMr, PA_pre X.hG h3 h4⟩ rfl (by rw [List.length_map]; exact hn) h5.1 hstk (lv_room (by rw [List.map_map, show (fun v : Value => v.category) ∘ cv ad = acat from funext (cv_cat ad)]; exact hrm)) hd hf) h4 (fun q _ h => h) (fun q h => h) (fun x u t H1 locs1 ht hvm hp hB hz hk hS => ?_)
  obtain ⟨o, ho, hlo, hp1, hp2, hp3⟩ := hp
  have hk := k o u.2 hp1 u.1 H1 locs1 ls (fun z hz => (hp3 z (h2 z hz)).trans (h1 z hz)) (sb_tr h2 hp2) (by rw [← ht]; exact hB) hS (by rw [cvL_xt hp3 h6]; exact h5) (h6.sb hp2) ((hst7.sb hp2).cn hlo)
  have e1 : (vR o :: st).map (cv u.1) = va_rf x :: st.map (cv ad) := by rw [List.map_cons, cvs_xt hp3 hst7, ho]; rfl
  rw [e1] at hk
  exact hk
theorem aw_cSi (X : Cx p s m args meth c cc nL own Ts D dA B zE) {y : MethodName} {bytes : ByteArray} {maxL mc ms n index : Nat} {ret : Option FieldType} {ws : List Cond} {rm : Room} {post : Int32 → wM → Prop} (As : List AV) (hM : ∀ ad : Ro → Nat, lvS M (As) → Met l y ws rm (PA D dA B zE M ad (As)) (QI D dA B zE M ad post) mc ms (wA B)) (cw : CallB R s args own index y bytes maxL ret ws rm mc ms n ∧ (Cond.static y).before args s = true) {st0 : List AV} (hst : st0 = As.reverse ++ st) (hn : As.length = n) (hrm : (st.map acat).sum ≤ 8) (hd : decode cc pc = .ok (.invokestatic index, 3)) (hf : cells + mc ≤ R.cells ∧ slots + ms ≤ R.slots) (k : ∀ x M', post x M' → AW p l e R s m args below meth c Q D dA B zE nL ad0 M0 M' (cells + mc) (slots + ms) (pc + 3) lv (vI x :: st)) : AW p l e R s m args below meth c Q D dA B zE nL ad0 M0 M cells slots pc lv st0 := by
  intro ad H locs ls h1 h2 h3 h4 h5 h6 h7
  have hst7 : lvS M st := fun v hv => h7 v (by rw [hst]; exact List.mem_append_right _ hv)
  have hAs : lvS M As := fun v hv => h7 v (by rw [hst]; exact List.mem_append_left _ (List.mem_reverse.mpr hv))
  have hstk : st0.map (cv ad) = (As.map (cv ad)).reverse ++ st.map (cv ad) := by rw [hst, List.map_append, List.map_reverse]
  refine va_calli (va_runS (As := As.map (cv ad)) (rest := st.map (cv ad)) ⟨X.1, X.2.1, X.2.2.1, X.hown, X.hts⟩ (hM ad hAs) cw ⟨PA_blind, PA_pre X.hG h3 h4⟩ rfl (by rw [List.length_map]; exact hn) h5.1 hstk (lv_room (by rw [List.map_map, show (fun v : Value => v.category) ∘ cv ad = acat from funext (cv_cat ad)]; exact hrm)) hd hf) h4 (fun q _ h => h) (fun q h => h) (fun x u t H1 locs1 ht hvm hp hB hz hk hS => ?_)
  obtain ⟨hp1, hp2, hp3⟩ := hp
  have hk := k x u.2 hp1 u.1 H1 locs1 ls (fun z hz => (hp3 z (h2 z hz)).trans (h1 z hz)) (sb_tr h2 hp2) (by rw [← ht]; exact hB) hS (by rw [cvL_xt hp3 h6]; exact h5) (h6.sb hp2) (hst7.sb hp2).ni
  have e1 : (vI x :: st).map (cv u.1) = .int x :: st.map (cv ad) := by rw [List.map_cons, cvs_xt hp3 hst7]; rfl
  rw [e1] at hk
  exact hk
theorem aw_cSl (X : Cx p s m args meth c cc nL own Ts D dA B zE) {y : MethodName} {bytes : ByteArray} {maxL mc ms n index : Nat} {ret : Option FieldType} {ws : List Cond} {rm : Room} {post : Int64 → wM → Prop} (As : List AV) (hM : ∀ ad : Ro → Nat, lvS M (As) → Met l y ws rm (PA D dA B zE M ad (As)) (QL D dA B zE M ad post) mc ms (wA B)) (cw : CallB R s args own index y bytes maxL ret ws rm mc ms n ∧ (Cond.static y).before args s = true) {st0 : List AV} (hst : st0 = As.reverse ++ st) (hn : As.length = n) (hrm : (st.map acat).sum ≤ 8) (hd : decode cc pc = .ok (.invokestatic index, 3)) (hf : cells + mc ≤ R.cells ∧ slots + ms ≤ R.slots) (k : ∀ x M', post x M' → AW p l e R s m args below meth c Q D dA B zE nL ad0 M0 M' (cells + mc) (slots + ms) (pc + 3) lv (vL x :: st)) : AW p l e R s m args below meth c Q D dA B zE nL ad0 M0 M cells slots pc lv st0 := by
  intro ad H locs ls h1 h2 h3 h4 h5 h6 h7
  have hst7 : lvS M st := fun v hv => h7 v (by rw [hst]; exact List.mem_append_right _ hv)
  have hAs : lvS M As := fun v hv => h7 v (by rw [hst]; exact List.mem_append_left _ (List.mem_reverse.mpr hv))
  have hstk : st0.map (cv ad) = (As.map (cv ad)).reverse ++ st.map (cv ad) := by rw [hst, List.map_append, List.map_reverse]
  refine va_calll (va_runS (As := As.map (cv ad)) (rest := st.map (cv ad)) ⟨X.1, X.2.1, X.2.2.1, X.hown, X.hts⟩ (hM ad hAs) cw ⟨PA_blind, PA_pre X.hG h3 h4⟩ rfl (by rw [List.length_map]; exact hn) h5.1 hstk (lv_room (by rw [List.map_map, show (fun v : Value => v.category) ∘ cv ad = acat from funext (cv_cat ad)]; exact hrm)) hd hf) h4 (fun q _ h => h) (fun q h => h) (fun x u t H1 locs1 ht hvm hp hB hz hk hS => ?_)
  obtain ⟨hp1, hp2, hp3⟩ := hp
  have hk := k x u.2 hp1 u.1 H1 locs1 ls (fun z hz => (hp3 z (h2 z hz)).trans (h1 z hz)) (sb_tr h2 hp2) (by rw [← ht]; exact hB) hS (by rw [cvL_xt hp3 h6]; exact h5) (h6.sb hp2) (hst7.sb hp2).nl
  have e1 : (vL x :: st).map (cv u.1) = .long x :: st.map (cv ad) := by rw [List.map_cons, cvs_xt hp3 hst7]; rfl
  rw [e1] at hk
  exact hk
theorem aw_cSv (X : Cx p s m args meth c cc nL own Ts D dA B zE) {y : MethodName} {bytes : ByteArray} {maxL mc ms n index : Nat} {ret : Option FieldType} {ws : List Cond} {rm : Room} {post : wM → Prop} (As : List AV) (hM : ∀ ad : Ro → Nat, lvS M (As) → Met l y ws rm (PA D dA B zE M ad (As)) (QV D dA B zE M ad post) mc ms (wA B)) (cw : CallB R s args own index y bytes maxL ret ws rm mc ms n ∧ (Cond.static y).before args s = true) {st0 : List AV} (hst : st0 = As.reverse ++ st) (hn : As.length = n) (hrm : (st.map acat).sum ≤ 8) (hd : decode cc pc = .ok (.invokestatic index, 3)) (hf : cells + mc ≤ R.cells ∧ slots + ms ≤ R.slots) (k : ∀ M', post M' → AW p l e R s m args below meth c Q D dA B zE nL ad0 M0 M' (cells + mc) (slots + ms) (pc + 3) lv (st)) : AW p l e R s m args below meth c Q D dA B zE nL ad0 M0 M cells slots pc lv st0 := by
  intro ad H locs ls h1 h2 h3 h4 h5 h6 h7
  have hst7 : lvS M st := fun v hv => h7 v (by rw [hst]; exact List.mem_append_right _ hv)
  have hAs : lvS M As := fun v hv => h7 v (by rw [hst]; exact List.mem_append_left _ (List.mem_reverse.mpr hv))
  have hstk : st0.map (cv ad) = (As.map (cv ad)).reverse ++ st.map (cv ad) := by rw [hst, List.map_append, List.map_reverse]
  refine va_callv (va_runS (As := As.map (cv ad)) (rest := st.map (cv ad)) ⟨X.1, X.2.1, X.2.2.1, X.hown, X.hts⟩ (hM ad hAs) cw ⟨PA_blind, PA_pre X.hG h3 h4⟩ rfl (by rw [List.length_map]; exact hn) h5.1 hstk (lv_room (by rw [List.map_map, show (fun v : Value => v.category) ∘ cv ad = acat from funext (cv_cat ad)]; exact hrm)) hd hf) h4 (fun q _ h => h) (fun q h => h) (fun u t H1 locs1 ht hvm hp hB hz hk hS => ?_)
  obtain ⟨hp1, hp2, hp3⟩ := hp
  have hk := k u.2 hp1 u.1 H1 locs1 ls (fun z hz => (hp3 z (h2 z hz)).trans (h1 z hz)) (sb_tr h2 hp2) (by rw [← ht]; exact hB) hS (by rw [cvL_xt hp3 h6]; exact h5) (h6.sb hp2) (hst7.sb hp2)
  have e1 : st.map (cv u.1) = st.map (cv ad) := cvs_xt hp3 hst7
  rw [e1] at hk
  exact hk
theorem aw_cSr (X : Cx p s m args meth c cc nL own Ts D dA B zE) {y : MethodName} {bytes : ByteArray} {maxL mc ms n index : Nat} {ret : Option FieldType} {ws : List Cond} {rm : Room} {post : Option Ro → wM → Prop} (As : List AV) (hM : ∀ ad : Ro → Nat, lvS M (As) → Met l y ws rm (PA D dA B zE M ad (As)) (QR D dA B zE M ad post) mc ms (wA B)) (cw : CallB R s args own index y bytes maxL ret ws rm mc ms n ∧ (Cond.static y).before args s = true) {st0 : List AV} (hst : st0 = As.reverse ++ st) (hn : As.length = n) (hrm : (st.map acat).sum ≤ 8) (hd : decode cc pc = .ok (.invokestatic index, 3)) (hf : cells + mc ≤ R.cells ∧ slots + ms ≤ R.slots) (k : ∀ x M', post x M' → AW p l e R s m args below meth c Q D dA B zE nL ad0 M0 M' (cells + mc) (slots + ms) (pc + 3) lv (vR x :: st)) : AW p l e R s m args below meth c Q D dA B zE nL ad0 M0 M cells slots pc lv st0 := by
  intro ad H locs ls h1 h2 h3 h4 h5 h6 h7
  have hst7 : lvS M st := fun v hv => h7 v (by rw [hst]; exact List.mem_append_right _ hv)
  have hAs : lvS M As := fun v hv => h7 v (by rw [hst]; exact List.mem_append_left _ (List.mem_reverse.mpr hv))
  have hstk : st0.map (cv ad) = (As.map (cv ad)).reverse ++ st.map (cv ad) := by rw [hst, List.map_append, List.map_reverse]
  refine va_callq (va_runS (As := As.map (cv ad)) (rest := st.map (cv ad)) ⟨X.1, X.2.1, X.2.2.1, X.hown, X.hts⟩ (hM ad hAs) cw ⟨PA_blind, PA_pre X.hG h3 h4⟩ rfl (by rw [List.length_map]; exact hn) h5.1 hstk (lv_room (by rw [List.map_map, show (fun v : Value => v.category) ∘ cv ad = acat from funext (cv_cat ad)]; exact hrm)) hd hf) h4 (fun q _ h => h) (fun q h => h) (fun x u t H1 locs1 ht hvm hp hB hz hk hS => ?_)
  obtain ⟨o, ho, hlo, hp1, hp2, hp3⟩ := hp
  have hk := k o u.2 hp1 u.1 H1 locs1 ls (fun z hz => (hp3 z (h2 z hz)).trans (h1 z hz)) (sb_tr h2 hp2) (by rw [← ht]; exact hB) hS (by rw [cvL_xt hp3 h6]; exact h5) (h6.sb hp2) ((hst7.sb hp2).cn hlo)
  have e1 : (vR o :: st).map (cv u.1) = va_rf x :: st.map (cv ad) := by rw [List.map_cons, cvs_xt hp3 hst7, ho]; rfl
  rw [e1] at hk
  exact hk
theorem aw_cIv (X : Cx p s m args meth c cc nL own Ts D dA B zE) {y : MethodName} {bytes : ByteArray} {maxL mc ms n index : Nat} {ws : List Cond} {rm : Room} {r : Ro} {post : wM → Prop} (As : List AV) (hM : ∀ ad : Ro → Nat, lvS M (vR (some r) :: As) → Met l y ws rm (PA D dA B zE M ad (vR (some r) :: As)) (QV D dA B zE M ad post) mc ms (wA B)) (cw : CallB R s args own index y bytes maxL none ws rm mc ms n ∧ y.name = "<init>" ∧ (Cond.instanceMethod y).before args s = true) {st0 : List AV} (hst : st0 = As.reverse ++ vR (some r) :: st) (hn : As.length = n) (hrm : (st.map acat).sum ≤ 8) (hd : decode cc pc = .ok (.invokespecial index, 3)) (hf : cells + mc ≤ R.cells ∧ slots + ms ≤ R.slots) (k : ∀ M', post M' → AW p l e R s m args below meth c Q D dA B zE nL ad0 M0 M' (cells + mc) (slots + ms) (pc + 3) lv (st)) : AW p l e R s m args below meth c Q D dA B zE nL ad0 M0 M cells slots pc lv st0 := by
  intro ad H locs ls h1 h2 h3 h4 h5 h6 h7
  have hst7 : lvS M st := fun v hv => h7 v (by rw [hst]; exact List.mem_append_right _ (List.mem_cons_of_mem _ hv))
  have hAs : lvS M (vR (some r) :: As) := fun v hv => h7 v (by rw [hst]; rcases List.mem_cons.mp hv with g | g; exact List.mem_append_right _ (g ▸ List.mem_cons_self); exact List.mem_append_left _ (List.mem_reverse.mpr g))
  have hstk : st0.map (cv ad) = (As.map (cv ad)).reverse ++ .ref (ad r) :: st.map (cv ad) := by rw [hst, List.map_append, List.map_reverse]; rfl
  refine va_callv (va_runI (As := As.map (cv ad)) (rest := st.map (cv ad)) ⟨X.1, X.2.1, X.2.2.1, X.hown, X.hts⟩ (hM ad hAs) cw ⟨PA_blind, PA_pre X.hG h3 h4⟩ rfl (by rw [List.length_map]; exact hn) h5.1 hstk (lv_room (by rw [List.map_map, show (fun v : Value => v.category) ∘ cv ad = acat from funext (cv_cat ad)]; exact hrm)) hd hf) h4 (fun q _ h => h) (fun q h => h) (fun u t H1 locs1 ht hvm hp hB hz hk hS => ?_)
  obtain ⟨hp1, hp2, hp3⟩ := hp
  have hk := k u.2 hp1 u.1 H1 locs1 ls (fun z hz => (hp3 z (h2 z hz)).trans (h1 z hz)) (sb_tr h2 hp2) (by rw [← ht]; exact hB) hS (by rw [cvL_xt hp3 h6]; exact h5) (h6.sb hp2) (hst7.sb hp2)
  have e1 : st.map (cv u.1) = st.map (cv ad) := cvs_xt hp3 hst7
  rw [e1] at hk
  exact hk
theorem aw_cVNi (X : Cx p s m args meth c cc nL own Ts D dA B zE) {y : MethodName} {bytes : ByteArray} {maxL mc ms n index : Nat} {ret : Option FieldType} {ws : List Cond} {rm : Room} {C : String} {host : String} {r : Ro} {post : Int32 → wM → Prop} (As : List AV) (hM : ∀ ad : Ro → Nat, lvS M (vR (some r) :: As) → Met l y ws rm (PA D dA B zE M ad (vR (some r) :: As)) (QI D dA B zE M ad post) mc ms (wA B)) (cw : va_CN R s args own index y host bytes maxL ret ws rm mc ms n ∧ (Cond.instanceMethod y).before args s = true ∧ (Cond.selects C y y).before args s = true) (hob : ∃ (ci : Nat) (fs : List AV) (q : vw_C), M r = some (ob ci fs) ∧ classes[ci]? = some q ∧ q.1 = C) {st0 : List AV} (hst : st0 = As.reverse ++ vR (some r) :: st) (hn : As.length = n) (hrm : (st.map acat).sum ≤ 8) (hd : decode cc pc = .ok (.invokevirtual index, 3)) (hf : cells + mc ≤ R.cells ∧ slots + ms ≤ R.slots) (k : ∀ x M', post x M' → AW p l e R s m args below meth c Q D dA B zE nL ad0 M0 M' (cells + mc) (slots + ms) (pc + 3) lv (vI x :: st)) : AW p l e R s m args below meth c Q D dA B zE nL ad0 M0 M cells slots pc lv st0 := by
  intro ad H locs ls h1 h2 h3 h4 h5 h6 h7
  have hst7 : lvS M st := fun v hv => h7 v (by rw [hst]; exact List.mem_append_right _ (List.mem_cons_of_mem _ hv))
  have hAs : lvS M (vR (some r) :: As) := fun v hv => h7 v (by rw [hst]; rcases List.mem_cons.mp hv with g | g; exact List.mem_append_right _ (g ▸ List.mem_cons_self); exact List.mem_append_left _ (List.mem_reverse.mpr g))
  have hstk : st0.map (cv ad) = (As.map (cv ad)).reverse ++ .ref (ad r) :: st.map (cv ad) := by rw [hst, List.map_append, List.map_reverse]; rfl
  obtain ⟨ci, fs, q, hMr, hq, hqC⟩ := hob
  refine va_calli (va_runVN (As := As.map (cv ad)) (rest := st.map (cv ad)) ⟨X.1, X.2.1, X.2.2.1, X.hown, X.hts⟩ (hM ad hAs) cw ⟨PA_blind, hqC ▸ h3.recv X.hK hq hMr, PA_pre X.hG h3 h4⟩ rfl (by rw [List.length_map]; exact hn) h5.1 hstk (lv_room (by rw [List.map_map, show (fun v : Value => v.category) ∘ cv ad = acat from funext (cv_cat ad)]; exact hrm)) hd hf) h4 (fun q _ h => h) (fun q h => h) (fun x u t H1 locs1 ht hvm hp hB hz hk hS => ?_)
  obtain ⟨hp1, hp2, hp3⟩ := hp
  have hk := k x u.2 hp1 u.1 H1 locs1 ls (fun z hz => (hp3 z (h2 z hz)).trans (h1 z hz)) (sb_tr h2 hp2) (by rw [← ht]; exact hB) hS (by rw [cvL_xt hp3 h6]; exact h5) (h6.sb hp2) (hst7.sb hp2).ni
  have e1 : (vI x :: st).map (cv u.1) = .int x :: st.map (cv ad) := by rw [List.map_cons, cvs_xt hp3 hst7]; rfl
  rw [e1] at hk
  exact hk
theorem aw_cVNl (X : Cx p s m args meth c cc nL own Ts D dA B zE) {y : MethodName} {bytes : ByteArray} {maxL mc ms n index : Nat} {ret : Option FieldType} {ws : List Cond} {rm : Room} {C : String} {host : String} {r : Ro} {post : Int64 → wM → Prop} (As : List AV) (hM : ∀ ad : Ro → Nat, lvS M (vR (some r) :: As) → Met l y ws rm (PA D dA B zE M ad (vR (some r) :: As)) (QL D dA B zE M ad post) mc ms (wA B)) (cw : va_CN R s args own index y host bytes maxL ret ws rm mc ms n ∧ (Cond.instanceMethod y).before args s = true ∧ (Cond.selects C y y).before args s = true) (hob : ∃ (ci : Nat) (fs : List AV) (q : vw_C), M r = some (ob ci fs) ∧ classes[ci]? = some q ∧ q.1 = C) {st0 : List AV} (hst : st0 = As.reverse ++ vR (some r) :: st) (hn : As.length = n) (hrm : (st.map acat).sum ≤ 8) (hd : decode cc pc = .ok (.invokevirtual index, 3)) (hf : cells + mc ≤ R.cells ∧ slots + ms ≤ R.slots) (k : ∀ x M', post x M' → AW p l e R s m args below meth c Q D dA B zE nL ad0 M0 M' (cells + mc) (slots + ms) (pc + 3) lv (vL x :: st)) : AW p l e R s m args below meth c Q D dA B zE nL ad0 M0 M cells slots pc lv st0 := by
  intro ad H locs ls h1 h2 h3 h4 h5 h6 h7
  have hst7 : lvS M st := fun v hv => h7 v (by rw [hst]; exact List.mem_append_right _ (List.mem_cons_of_mem _ hv))
  have hAs : lvS M (vR (some r) :: As) := fun v hv => h7 v (by rw [hst]; rcases List.mem_cons.mp hv with g | g; exact List.mem_append_right _ (g ▸ List.mem_cons_self); exact List.mem_append_left _ (List.mem_reverse.mpr g))
  have hstk : st0.map (cv ad) = (As.map (cv ad)).reverse ++ .ref (ad r) :: st.map (cv ad) := by rw [hst, List.map_append, List.map_reverse]; rfl
  obtain ⟨ci, fs, q, hMr, hq, hqC⟩ := hob
  refine va_calll (va_runVN (As := As.map (cv ad)) (rest := st.map (cv ad)) ⟨X.1, X.2.1, X.2.2.1, X.hown, X.hts⟩ (hM ad hAs) cw ⟨PA_blind, hqC ▸ h3.recv X.hK hq hMr, PA_pre X.hG h3 h4⟩ rfl (by rw [List.length_map]; exact hn) h5.1 hstk (lv_room (by rw [List.map_map, show (fun v : Value => v.category) ∘ cv ad = acat from funext (cv_cat ad)]; exact hrm)) hd hf) h4 (fun q _ h => h) (fun q h => h) (fun x u t H1 locs1 ht hvm hp hB hz hk hS => ?_)
  obtain ⟨hp1, hp2, hp3⟩ := hp
  have hk := k x u.2 hp1 u.1 H1 locs1 ls (fun z hz => (hp3 z (h2 z hz)).trans (h1 z hz)) (sb_tr h2 hp2) (by rw [← ht]; exact hB) hS (by rw [cvL_xt hp3 h6]; exact h5) (h6.sb hp2) (hst7.sb hp2).nl
  have e1 : (vL x :: st).map (cv u.1) = .long x :: st.map (cv ad) := by rw [List.map_cons, cvs_xt hp3 hst7]; rfl
  rw [e1] at hk
  exact hk
theorem aw_cVNv (X : Cx p s m args meth c cc nL own Ts D dA B zE) {y : MethodName} {bytes : ByteArray} {maxL mc ms n index : Nat} {ret : Option FieldType} {ws : List Cond} {rm : Room} {C : String} {host : String} {r : Ro} {post : wM → Prop} (As : List AV) (hM : ∀ ad : Ro → Nat, lvS M (vR (some r) :: As) → Met l y ws rm (PA D dA B zE M ad (vR (some r) :: As)) (QV D dA B zE M ad post) mc ms (wA B)) (cw : va_CN R s args own index y host bytes maxL ret ws rm mc ms n ∧ (Cond.instanceMethod y).before args s = true ∧ (Cond.selects C y y).before args s = true) (hob : ∃ (ci : Nat) (fs : List AV) (q : vw_C), M r = some (ob ci fs) ∧ classes[ci]? = some q ∧ q.1 = C) {st0 : List AV} (hst : st0 = As.reverse ++ vR (some r) :: st) (hn : As.length = n) (hrm : (st.map acat).sum ≤ 8) (hd : decode cc pc = .ok (.invokevirtual index, 3)) (hf : cells + mc ≤ R.cells ∧ slots + ms ≤ R.slots) (k : ∀ M', post M' → AW p l e R s m args below meth c Q D dA B zE nL ad0 M0 M' (cells + mc) (slots + ms) (pc + 3) lv (st)) : AW p l e R s m args below meth c Q D dA B zE nL ad0 M0 M cells slots pc lv st0 := by
  intro ad H locs ls h1 h2 h3 h4 h5 h6 h7
  have hst7 : lvS M st := fun v hv => h7 v (by rw [hst]; exact List.mem_append_right _ (List.mem_cons_of_mem _ hv))
  have hAs : lvS M (vR (some r) :: As) := fun v hv => h7 v (by rw [hst]; rcases List.mem_cons.mp hv with g | g; exact List.mem_append_right _ (g ▸ List.mem_cons_self); exact List.mem_append_left _ (List.mem_reverse.mpr g))
  have hstk : st0.map (cv ad) = (As.map (cv ad)).reverse ++ .ref (ad r) :: st.map (cv ad) := by rw [hst, List.map_append, List.map_reverse]; rfl
  obtain ⟨ci, fs, q, hMr, hq, hqC⟩ := hob
  refine va_callv (va_runVN (As := As.map (cv ad)) (rest := st.map (cv ad)) ⟨X.1, X.2.1, X.2.2.1, X.hown, X.hts⟩ (hM ad hAs) cw ⟨PA_blind, hqC ▸ h3.recv X.hK hq hMr, PA_pre X.hG h3 h4⟩ rfl (by rw [List.length_map]; exact hn) h5.1 hstk (lv_room (by rw [List.map_map, show (fun v : Value => v.category) ∘ cv ad = acat from funext (cv_cat ad)]; exact hrm)) hd hf) h4 (fun q _ h => h) (fun q h => h) (fun u t H1 locs1 ht hvm hp hB hz hk hS => ?_)
  obtain ⟨hp1, hp2, hp3⟩ := hp
  have hk := k u.2 hp1 u.1 H1 locs1 ls (fun z hz => (hp3 z (h2 z hz)).trans (h1 z hz)) (sb_tr h2 hp2) (by rw [← ht]; exact hB) hS (by rw [cvL_xt hp3 h6]; exact h5) (h6.sb hp2) (hst7.sb hp2)
  have e1 : st.map (cv u.1) = st.map (cv ad) := cvs_xt hp3 hst7
  rw [e1] at hk
  exact hk
theorem aw_cVNr (X : Cx p s m args meth c cc nL own Ts D dA B zE) {y : MethodName} {bytes : ByteArray} {maxL mc ms n index : Nat} {ret : Option FieldType} {ws : List Cond} {rm : Room} {C : String} {host : String} {r : Ro} {post : Option Ro → wM → Prop} (As : List AV) (hM : ∀ ad : Ro → Nat, lvS M (vR (some r) :: As) → Met l y ws rm (PA D dA B zE M ad (vR (some r) :: As)) (QR D dA B zE M ad post) mc ms (wA B)) (cw : va_CN R s args own index y host bytes maxL ret ws rm mc ms n ∧ (Cond.instanceMethod y).before args s = true ∧ (Cond.selects C y y).before args s = true) (hob : ∃ (ci : Nat) (fs : List AV) (q : vw_C), M r = some (ob ci fs) ∧ classes[ci]? = some q ∧ q.1 = C) {st0 : List AV} (hst : st0 = As.reverse ++ vR (some r) :: st) (hn : As.length = n) (hrm : (st.map acat).sum ≤ 8) (hd : decode cc pc = .ok (.invokevirtual index, 3)) (hf : cells + mc ≤ R.cells ∧ slots + ms ≤ R.slots) (k : ∀ x M', post x M' → AW p l e R s m args below meth c Q D dA B zE nL ad0 M0 M' (cells + mc) (slots + ms) (pc + 3) lv (vR x :: st)) : AW p l e R s m args below meth c Q D dA B zE nL ad0 M0 M cells slots pc lv st0 := by
  intro ad H locs ls h1 h2 h3 h4 h5 h6 h7
  have hst7 : lvS M st := fun v hv => h7 v (by rw [hst]; exact List.mem_append_right _ (List.mem_cons_of_mem _ hv))
  have hAs : lvS M (vR (some r) :: As) := fun v hv => h7 v (by rw [hst]; rcases List.mem_cons.mp hv with g | g; exact List.mem_append_right _ (g ▸ List.mem_cons_self); exact List.mem_append_left _ (List.mem_reverse.mpr g))
  have hstk : st0.map (cv ad) = (As.map (cv ad)).reverse ++ .ref (ad r) :: st.map (cv ad) := by rw [hst, List.map_append, List.map_reverse]; rfl
  obtain ⟨ci, fs, q, hMr, hq, hqC⟩ := hob
  refine va_callq (va_runVN (As := As.map (cv ad)) (rest := st.map (cv ad)) ⟨X.1, X.2.1, X.2.2.1, X.hown, X.hts⟩ (hM ad hAs) cw ⟨PA_blind, hqC ▸ h3.recv X.hK hq hMr, PA_pre X.hG h3 h4⟩ rfl (by rw [List.length_map]; exact hn) h5.1 hstk (lv_room (by rw [List.map_map, show (fun v : Value => v.category) ∘ cv ad = acat from funext (cv_cat ad)]; exact hrm)) hd hf) h4 (fun q _ h => h) (fun q h => h) (fun x u t H1 locs1 ht hvm hp hB hz hk hS => ?_)
  obtain ⟨o, ho, hlo, hp1, hp2, hp3⟩ := hp
  have hk := k o u.2 hp1 u.1 H1 locs1 ls (fun z hz => (hp3 z (h2 z hz)).trans (h1 z hz)) (sb_tr h2 hp2) (by rw [← ht]; exact hB) hS (by rw [cvL_xt hp3 h6]; exact h5) (h6.sb hp2) ((hst7.sb hp2).cn hlo)
  have e1 : (vR o :: st).map (cv u.1) = va_rf x :: st.map (cv ad) := by rw [List.map_cons, cvs_xt hp3 hst7, ho]; rfl
  rw [e1] at hk
  exact hk
theorem aw_cSNi (X : Cx p s m args meth c cc nL own Ts D dA B zE) {y : MethodName} {bytes : ByteArray} {maxL mc ms n index : Nat} {ret : Option FieldType} {ws : List Cond} {rm : Room} {host : String} {post : Int32 → wM → Prop} (As : List AV) (hM : ∀ ad : Ro → Nat, lvS M (As) → Met l y ws rm (PA D dA B zE M ad (As)) (QI D dA B zE M ad post) mc ms (wA B)) (cw : va_CN R s args own index y host bytes maxL ret ws rm mc ms n ∧ (Cond.static y).before args s = true ∧ True) {st0 : List AV} (hst : st0 = As.reverse ++ st) (hn : As.length = n) (hrm : (st.map acat).sum ≤ 8) (hd : decode cc pc = .ok (.invokestatic index, 3)) (hf : cells + mc ≤ R.cells ∧ slots + ms ≤ R.slots) (k : ∀ x M', post x M' → AW p l e R s m args below meth c Q D dA B zE nL ad0 M0 M' (cells + mc) (slots + ms) (pc + 3) lv (vI x :: st)) : AW p l e R s m args below meth c Q D dA B zE nL ad0 M0 M cells slots pc lv st0 := by
  intro ad H locs ls h1 h2 h3 h4 h5 h6 h7
  have hst7 : lvS M st := fun v hv => h7 v (by rw [hst]; exact List.mem_append_right _ hv)
  have hAs : lvS M As := fun v hv => h7 v (by rw [hst]; exact List.mem_append_left _ (List.mem_reverse.mpr hv))
  have hstk : st0.map (cv ad) = (As.map (cv ad)).reverse ++ st.map (cv ad) := by rw [hst, List.map_append, List.map_reverse]
  refine va_calli (va_runSN (As := As.map (cv ad)) (rest := st.map (cv ad)) ⟨X.1, X.2.1, X.2.2.1, X.hown, X.hts⟩ (hM ad hAs) cw ⟨PA_blind, PA_pre X.hG h3 h4⟩ rfl (by rw [List.length_map]; exact hn) h5.1 hstk (lv_room (by rw [List.map_map, show (fun v : Value => v.category) ∘ cv ad = acat from funext (cv_cat ad)]; exact hrm)) hd hf) h4 (fun q _ h => h) (fun q h => h) (fun x u t H1 locs1 ht hvm hp hB hz hk hS => ?_)
  obtain ⟨hp1, hp2, hp3⟩ := hp
  have hk := k x u.2 hp1 u.1 H1 locs1 ls (fun z hz => (hp3 z (h2 z hz)).trans (h1 z hz)) (sb_tr h2 hp2) (by rw [← ht]; exact hB) hS (by rw [cvL_xt hp3 h6]; exact h5) (h6.sb hp2) (hst7.sb hp2).ni
  have e1 : (vI x :: st).map (cv u.1) = .int x :: st.map (cv ad) := by rw [List.map_cons, cvs_xt hp3 hst7]; rfl
  rw [e1] at hk
  exact hk
theorem aw_cSNl (X : Cx p s m args meth c cc nL own Ts D dA B zE) {y : MethodName} {bytes : ByteArray} {maxL mc ms n index : Nat} {ret : Option FieldType} {ws : List Cond} {rm : Room} {host : String} {post : Int64 → wM → Prop} (As : List AV) (hM : ∀ ad : Ro → Nat, lvS M (As) → Met l y ws rm (PA D dA B zE M ad (As)) (QL D dA B zE M ad post) mc ms (wA B)) (cw : va_CN R s args own index y host bytes maxL ret ws rm mc ms n ∧ (Cond.static y).before args s = true ∧ True) {st0 : List AV} (hst : st0 = As.reverse ++ st) (hn : As.length = n) (hrm : (st.map acat).sum ≤ 8) (hd : decode cc pc = .ok (.invokestatic index, 3)) (hf : cells + mc ≤ R.cells ∧ slots + ms ≤ R.slots) (k : ∀ x M', post x M' → AW p l e R s m args below meth c Q D dA B zE nL ad0 M0 M' (cells + mc) (slots + ms) (pc + 3) lv (vL x :: st)) : AW p l e R s m args below meth c Q D dA B zE nL ad0 M0 M cells slots pc lv st0 := by
  intro ad H locs ls h1 h2 h3 h4 h5 h6 h7
  have hst7 : lvS M st := fun v hv => h7 v (by rw [hst]; exact List.mem_append_right _ hv)
  have hAs : lvS M As := fun v hv => h7 v (by rw [hst]; exact List.mem_append_left _ (List.mem_reverse.mpr hv))
  have hstk : st0.map (cv ad) = (As.map (cv ad)).reverse ++ st.map (cv ad) := by rw [hst, List.map_append, List.map_reverse]
  refine va_calll (va_runSN (As := As.map (cv ad)) (rest := st.map (cv ad)) ⟨X.1, X.2.1, X.2.2.1, X.hown, X.hts⟩ (hM ad hAs) cw ⟨PA_blind, PA_pre X.hG h3 h4⟩ rfl (by rw [List.length_map]; exact hn) h5.1 hstk (lv_room (by rw [List.map_map, show (fun v : Value => v.category) ∘ cv ad = acat from funext (cv_cat ad)]; exact hrm)) hd hf) h4 (fun q _ h => h) (fun q h => h) (fun x u t H1 locs1 ht hvm hp hB hz hk hS => ?_)
  obtain ⟨hp1, hp2, hp3⟩ := hp
  have hk := k x u.2 hp1 u.1 H1 locs1 ls (fun z hz => (hp3 z (h2 z hz)).trans (h1 z hz)) (sb_tr h2 hp2) (by rw [← ht]; exact hB) hS (by rw [cvL_xt hp3 h6]; exact h5) (h6.sb hp2) (hst7.sb hp2).nl
  have e1 : (vL x :: st).map (cv u.1) = .long x :: st.map (cv ad) := by rw [List.map_cons, cvs_xt hp3 hst7]; rfl
  rw [e1] at hk
  exact hk
theorem aw_cSNv (X : Cx p s m args meth c cc nL own Ts D dA B zE) {y : MethodName} {bytes : ByteArray} {maxL mc ms n index : Nat} {ret : Option FieldType} {ws : List Cond} {rm : Room} {host : String} {post : wM → Prop} (As : List AV) (hM : ∀ ad : Ro → Nat, lvS M (As) → Met l y ws rm (PA D dA B zE M ad (As)) (QV D dA B zE M ad post) mc ms (wA B)) (cw : va_CN R s args own index y host bytes maxL ret ws rm mc ms n ∧ (Cond.static y).before args s = true ∧ True) {st0 : List AV} (hst : st0 = As.reverse ++ st) (hn : As.length = n) (hrm : (st.map acat).sum ≤ 8) (hd : decode cc pc = .ok (.invokestatic index, 3)) (hf : cells + mc ≤ R.cells ∧ slots + ms ≤ R.slots) (k : ∀ M', post M' → AW p l e R s m args below meth c Q D dA B zE nL ad0 M0 M' (cells + mc) (slots + ms) (pc + 3) lv (st)) : AW p l e R s m args below meth c Q D dA B zE nL ad0 M0 M cells slots pc lv st0 := by
  intro ad H locs ls h1 h2 h3 h4 h5 h6 h7
  have hst7 : lvS M st := fun v hv => h7 v (by rw [hst]; exact List.mem_append_right _ hv)
  have hAs : lvS M As := fun v hv => h7 v (by rw [hst]; exact List.mem_append_left _ (List.mem_reverse.mpr hv))
  have hstk : st0.map (cv ad) = (As.map (cv ad)).reverse ++ st.map (cv ad) := by rw [hst, List.map_append, List.map_reverse]
  refine va_callv (va_runSN (As := As.map (cv ad)) (rest := st.map (cv ad)) ⟨X.1, X.2.1, X.2.2.1, X.hown, X.hts⟩ (hM ad hAs) cw ⟨PA_blind, PA_pre X.hG h3 h4⟩ rfl (by rw [List.length_map]; exact hn) h5.1 hstk (lv_room (by rw [List.map_map, show (fun v : Value => v.category) ∘ cv ad = acat from funext (cv_cat ad)]; exact hrm)) hd hf) h4 (fun q _ h => h) (fun q h => h) (fun u t H1 locs1 ht hvm hp hB hz hk hS => ?_)
  obtain ⟨hp1, hp2, hp3⟩ := hp
  have hk := k u.2 hp1 u.1 H1 locs1 ls (fun z hz => (hp3 z (h2 z hz)).trans (h1 z hz)) (sb_tr h2 hp2) (by rw [← ht]; exact hB) hS (by rw [cvL_xt hp3 h6]; exact h5) (h6.sb hp2) (hst7.sb hp2)
  have e1 : st.map (cv u.1) = st.map (cv ad) := cvs_xt hp3 hst7
  rw [e1] at hk
  exact hk
theorem aw_cSNr (X : Cx p s m args meth c cc nL own Ts D dA B zE) {y : MethodName} {bytes : ByteArray} {maxL mc ms n index : Nat} {ret : Option FieldType} {ws : List Cond} {rm : Room} {host : String} {post : Option Ro → wM → Prop} (As : List AV) (hM : ∀ ad : Ro → Nat, lvS M (As) → Met l y ws rm (PA D dA B zE M ad (As)) (QR D dA B zE M ad post) mc ms (wA B)) (cw : va_CN R s args own index y host bytes maxL ret ws rm mc ms n ∧ (Cond.static y).before args s = true ∧ True) {st0 : List AV} (hst : st0 = As.reverse ++ st) (hn : As.length = n) (hrm : (st.map acat).sum ≤ 8) (hd : decode cc pc = .ok (.invokestatic index, 3)) (hf : cells + mc ≤ R.cells ∧ slots + ms ≤ R.slots) (k : ∀ x M', post x M' → AW p l e R s m args below meth c Q D dA B zE nL ad0 M0 M' (cells + mc) (slots + ms) (pc + 3) lv (vR x :: st)) : AW p l e R s m args below meth c Q D dA B zE nL ad0 M0 M cells slots pc lv st0 := by
  intro ad H locs ls h1 h2 h3 h4 h5 h6 h7
  have hst7 : lvS M st := fun v hv => h7 v (by rw [hst]; exact List.mem_append_right _ hv)
  have hAs : lvS M As := fun v hv => h7 v (by rw [hst]; exact List.mem_append_left _ (List.mem_reverse.mpr hv))
  have hstk : st0.map (cv ad) = (As.map (cv ad)).reverse ++ st.map (cv ad) := by rw [hst, List.map_append, List.map_reverse]
  refine va_callq (va_runSN (As := As.map (cv ad)) (rest := st.map (cv ad)) ⟨X.1, X.2.1, X.2.2.1, X.hown, X.hts⟩ (hM ad hAs) cw ⟨PA_blind, PA_pre X.hG h3 h4⟩ rfl (by rw [List.length_map]; exact hn) h5.1 hstk (lv_room (by rw [List.map_map, show (fun v : Value => v.category) ∘ cv ad = acat from funext (cv_cat ad)]; exact hrm)) hd hf) h4 (fun q _ h => h) (fun q h => h) (fun x u t H1 locs1 ht hvm hp hB hz hk hS => ?_)
  obtain ⟨o, ho, hlo, hp1, hp2, hp3⟩ := hp
  have hk := k o u.2 hp1 u.1 H1 locs1 ls (fun z hz => (hp3 z (h2 z hz)).trans (h1 z hz)) (sb_tr h2 hp2) (by rw [← ht]; exact hB) hS (by rw [cvL_xt hp3 h6]; exact h5) (h6.sb hp2) ((hst7.sb hp2).cn hlo)
  have e1 : (vR o :: st).map (cv u.1) = va_rf x :: st.map (cv ad) := by rw [List.map_cons, cvs_xt hp3 hst7, ho]; rfl
  rw [e1] at hk
  exact hk
theorem aw_cINv (X : Cx p s m args meth c cc nL own Ts D dA B zE) {y : MethodName} {bytes : ByteArray} {maxL mc ms n index : Nat} {ws : List Cond} {rm : Room} {host : String} {r : Ro} {post : wM → Prop} (As : List AV) (hM : ∀ ad : Ro → Nat, lvS M (vR (some r) :: As) → Met l y ws rm (PA D dA B zE M ad (vR (some r) :: As)) (QV D dA B zE M ad post) mc ms (wA B)) (cw : va_CN R s args own index y host bytes maxL none ws rm mc ms n ∧ y.name = "<init>" ∧ (Cond.instanceMethod y).before args s = true) {st0 : List AV} (hst : st0 = As.reverse ++ vR (some r) :: st) (hn : As.length = n) (hrm : (st.map acat).sum ≤ 8) (hd : decode cc pc = .ok (.invokespecial index, 3)) (hf : cells + mc ≤ R.cells ∧ slots + ms ≤ R.slots) (k : ∀ M', post M' → AW p l e R s m args below meth c Q D dA B zE nL ad0 M0 M' (cells + mc) (slots + ms) (pc + 3) lv (st)) : AW p l e R s m args below meth c Q D dA B zE nL ad0 M0 M cells slots pc lv st0 := by
  intro ad H locs ls h1 h2 h3 h4 h5 h6 h7
  have hst7 : lvS M st := fun v hv => h7 v (by rw [hst]; exact List.mem_append_right _ (List.mem_cons_of_mem _ hv))
  have hAs : lvS M (vR (some r) :: As) := fun v hv => h7 v (by rw [hst]; rcases List.mem_cons.mp hv with g | g; exact List.mem_append_right _ (g ▸ List.mem_cons_self); exact List.mem_append_left _ (List.mem_reverse.mpr g))
  have hstk : st0.map (cv ad) = (As.map (cv ad)).reverse ++ .ref (ad r) :: st.map (cv ad) := by rw [hst, List.map_append, List.map_reverse]; rfl
  refine va_callv (va_runIN (As := As.map (cv ad)) (rest := st.map (cv ad)) ⟨X.1, X.2.1, X.2.2.1, X.hown, X.hts⟩ (hM ad hAs) cw ⟨PA_blind, PA_pre X.hG h3 h4⟩ rfl (by rw [List.length_map]; exact hn) h5.1 hstk (lv_room (by rw [List.map_map, show (fun v : Value => v.category) ∘ cv ad = acat from funext (cv_cat ad)]; exact hrm)) hd hf) h4 (fun q _ h => h) (fun q h => h) (fun u t H1 locs1 ht hvm hp hB hz hk hS => ?_)
  obtain ⟨hp1, hp2, hp3⟩ := hp
  have hk := k u.2 hp1 u.1 H1 locs1 ls (fun z hz => (hp3 z (h2 z hz)).trans (h1 z hz)) (sb_tr h2 hp2) (by rw [← ht]; exact hB) hS (by rw [cvL_xt hp3 h6]; exact h5) (h6.sb hp2) (hst7.sb hp2)
  have e1 : st.map (cv u.1) = st.map (cv ad) := cvs_xt hp3 hst7
  rw [e1] at hk
  exact hk
end AW2
