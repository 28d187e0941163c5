/-! steps on a heap that is known at a role -/
theorem rne {a b c d : Nat} (h : a ≠ c) : ((a, b) : Ro) ≠ (c, d) := fun e => h (congrArg Prod.fst e)
theorem rne2 {a b c d : Nat} (h : b ≠ d) : ((a, b) : Ro) ≠ (c, d) := fun e => h (congrArg Prod.snd e)
theorem k_gI {M : wM} {r : Ro} {ci k : Nat} {fs : List AV} {x : Int32} {K : Int32 → Prop} (hM : M r = some (ob ci fs)) (hv : fs[k]? = some (vI x)) (kk : K x) : gI M (some r) ci k K := ⟨r, fs, x, rfl, hM, hv, kk⟩
theorem k_gR {M : wM} {r : Ro} {ci k : Nat} {fs : List AV} {x : Option Ro} {K : Option Ro → Prop} (hM : M r = some (ob ci fs)) (hv : fs[k]? = some (vR x)) (kk : K x) : gR M (some r) ci k K := ⟨r, fs, x, rfl, hM, hv, kk⟩
theorem k_pF {M : wM} {r : Ro} {ci k : Nat} {fs fs' : List AV} {v : AV} {K : wM → Prop} (hM : M r = some (ob ci fs)) (hl : k < fs.length) (hs : fs.set k v = fs') (kk : K (up M r (ob ci fs'))) : pF M (some r) ci k v K := ⟨r, fs, rfl, hM, hl, hs ▸ kk⟩
theorem k_pZ {M : wM} {r : Ro} {ci k : Nat} {fs fs' : List AV} {x : Int32} {K : wM → Prop} (hx : x = 0 ∨ x = 1) (hM : M r = some (ob ci fs)) (hl : k < fs.length) (hs : fs.set k (vI x) = fs') (kk : K (up M r (ob ci fs'))) : pZ M (some r) ci k x K := ⟨hx, k_pF hM hl hs kk⟩
theorem k_lR {M : wM} {r : Ro} {t n i : Nat} {f : Nat → Option Ro} {C : String} {K : Option Ro → Prop} {x : Int32} (hM : M r = some (ar t n f)) (hx : x = nI i) (hi : i < n) (hn : n < 2 ^ 31) (ht : aT[t]? = some (.object C)) (kk : K (f i)) : lR M (some r) x K := by
  subst hx
  refine ⟨r, t, n, f, C, rfl, hM, ht, vp_in_nI hi hn, ?_⟩
  rw [nI_clamp (by omega)]
  exact kk
theorem k_lI {M : wM} {r : Ro} {n i : Nat} {f : Nat → Int32} {K : Int32 → Prop} {x : Int32} (hM : M r = some (ai 0 n f)) (hx : x = nI i) (hi : i < n) (hn : n < 2 ^ 31) (kk : K (f i)) : lI M (some r) x K := by
  subst hx
  refine ⟨r, n, f, rfl, hM, vp_in_nI hi hn, ?_⟩
  rw [nI_clamp (by omega)]
  exact kk
theorem k_lL {M : wM} {r : Ro} {n i : Nat} {f : Nat → Int64} {K : Int64 → Prop} {x : Int32} (hM : M r = some (al 1 n f)) (hx : x = nI i) (hi : i < n) (hn : n < 2 ^ 31) (kk : K (f i)) : lL M (some r) x K := by
  subst hx
  refine ⟨r, n, f, rfl, hM, vp_in_nI hi hn, ?_⟩
  rw [nI_clamp (by omega)]
  exact kk
theorem k_sI {M : wM} {r : Ro} {n i : Nat} {f : Nat → Int32} {K : wM → Prop} {x v : Int32} (hM : M r = some (ai 0 n f)) (hx : x = nI i) (hi : i < n) (hn : n < 2 ^ 31) (kk : K (up M r (ai 0 n (upd f i v)))) : sI M (some r) x v K := by
  subst hx
  refine ⟨r, n, f, rfl, hM, vp_in_nI hi hn, ?_⟩
  rw [nI_clamp (by omega)]
  exact kk
theorem k_sL {M : wM} {r : Ro} {n i : Nat} {f : Nat → Int64} {K : wM → Prop} {x : Int32} {v : Int64} (hM : M r = some (al 1 n f)) (hx : x = nI i) (hi : i < n) (hn : n < 2 ^ 31) (kk : K (up M r (al 1 n (vp_updL f i v)))) : sL M (some r) x v K := by
  subst hx
  refine ⟨r, n, f, rfl, hM, vp_in_nI hi hn, ?_⟩
  rw [nI_clamp (by omega)]
  exact kk
theorem k_sR {M : wM} {r : Ro} {t n i : Nat} {f : Nat → Option Ro} {C : String} {K : wM → Prop} {x : Int32} {v : Option Ro} (hM : M r = some (ar t n f)) (hx : x = nI i) (hi : i < n) (hn : n < 2 ^ 31) (ht : aT[t]? = some (.object C)) (hv : ∀ q, v = some q → ∃ ci fs, M q = some (ob ci fs) ∧ asg t ci) (kk : K (up M r (ar t n (va_up f i v)))) : sR M (some r) x v K := by
  subst hx
  refine ⟨r, t, n, f, C, rfl, hM, ht, vp_in_nI hi hn, hv, ?_⟩
  rw [nI_clamp (by omega)]
  exact kk
theorem k_cV {M : wM} {r : Ro} {ci : Nat} {fs : List AV} {K : Prop} (hM : M r = some (ob ci fs)) (kk : K) : cV M (some r) ci K := ⟨⟨r, fs, rfl, hM⟩, kk⟩
theorem k_aN {M : wM} {r : Ro} {t n : Nat} {f : AC} {K : Int32 → Prop} (hM : M r = some (.inr (t, n, f))) (ht : t < 98) (kk : K (nI n)) : aN M (some r) K := ⟨r, t, n, f, rfl, hM, ht, kk⟩
theorem k_nO {M : wM} {ci : Nat} {fs : List AV} {K : Option Ro → wM → Prop} (r : Ro) (hr : r.1 < 90) (hn : M r = none) (kk : K (some r) (up M r (ob ci fs))) : nO M ci fs K := ⟨r, hr, hn, kk⟩
theorem k_nA {M : wM} {x : Int32} {bd i : Nat} {e : Nat → AE} {K : Option Ro → wM → Prop} (r : Ro) (hx : x = nI i) (hi : i ≤ bd) (hb : bd < 2 ^ 31) (hr : r.1 < 90) (hn : M r = none) (kk : K (some r) (up M r (e i))) : nA M x bd e K := by
  subst hx
  have e1 : (nI i).toNatClampNeg = i := nI_clamp (by omega)
  refine ⟨nI_pos (by omega), by rw [e1]; exact hi, r, hr, hn, ?_⟩
  rw [e1]
  exact kk
/-! lists: ArrayList ℓ is the object (8, ℓ), its arrays have the roles (50 + ℓ, ..) -/
def Lst (l : Nat) (xs : List Ro) (M : wM) : Prop := ∃ (v : Nat) (mc : Int32) (ea : Ro), M (8, l) = some (ob 8 [vR (some ea), vI (nI xs.length), vI mc]) ∧ (∀ w, v ≤ w → M (50 + l, w) = none) ∧ ((ea = (90, 0) ∧ xs = []) ∨ ∃ (t cap : Nat) (f : Nat → Option Ro), ea = (50 + l, t) ∧ M (50 + l, t) = some (ar 3 cap f) ∧ xs.length ≤ cap ∧ 10 ≤ cap ∧ cap ≤ 800 ∧ ∀ i, i < xs.length → f i = xs[i]?)
def offL (l : Nat) (M M' : wM) : Prop := ∀ r : Ro, r ≠ (8, l) → r.1 ≠ 50 + l → M' r = M r
theorem offL_rf {l : Nat} {M : wM} : offL l M M := fun _ _ _ => rfl
theorem offL_up {l : Nat} {M M' : wM} {e : AE} (h : offL l M M') : offL l M (up M' (8, l) e) := fun r h1 h2 => by rw [up_n h1]; exact h r h1 h2
theorem offL_upA {l t : Nat} {M M' : wM} {e : AE} (h : offL l M M') : offL l M (up M' (50 + l, t) e) := fun r h1 h2 => by rw [up_n (fun q => h2 (by rw [q]))]; exact h r h1 h2
theorem a_size {l : Nat} {xs : List Ro} {M : wM} {post : Int32 → wM → Prop} (h : Lst l xs M) (k : post (nI xs.length) M) : wp_A_size post (some (8, l)) M := by
  obtain ⟨v, mc, ea, h8, -⟩ := h
  exact k_gI h8 rfl k
theorem a_isEmpty {l : Nat} {xs : List Ro} {M : wM} {post : Int32 → wM → Prop} (h : Lst l xs M) (hl : xs.length < 2 ^ 31) (k : post (if xs = [] then 1 else 0) M) : wp_A_isEmpty post (some (8, l)) M := by
  obtain ⟨v, mc, ea, h8, -⟩ := h
  refine k_gI h8 rfl ⟨fun c => ⟨Or.inl rfl, ?_⟩, fun c => ⟨Or.inr rfl, ?_⟩⟩
  · rw [if_neg (fun e => c (by rw [e]; rfl))] at k
    exact k
  · have : xs = [] := by
      cases xs with
      | nil => rfl
      | cons a t => exact absurd c (nI_ne0 (Nat.succ_pos _) hl)
    rw [if_pos this] at k
    exact k
theorem a_get {l i : Nat} {xs : List Ro} {M : wM} {x : Int32} {post : Option Ro → wM → Prop} (h : Lst l xs M) (hx : x = nI i) (hi : i < xs.length) (k : post xs[i]? M) : wp_A_get post (some (8, l)) x M := by
  obtain ⟨v, mc, ea, h8, -, hc⟩ := h
  rcases hc with ⟨-, rfl⟩ | ⟨t, cap, f, rfl, hA, h1, h2, h3, h4⟩
  · exact absurd hi (Nat.not_lt_zero _)
  · subst hx
    refine k_gI h8 rfl ⟨fun c => absurd c (nI_pos (by omega)), fun _ => ⟨fun _ => ?_, fun c => absurd (nI_lt hi (by omega)) c⟩⟩
    exact k_cV h8 (k_gR h8 rfl (k_lR (C := "java/lang/Object") hA rfl (by omega) (by omega) rfl (by rw [h4 i hi]; exact k)))
set_option maxHeartbeats 1000000 in
theorem a_add {l ci : Nat} {xs : List Ro} {r : Ro} {fs : List AV} {M : wM} {post : Int32 → wM → Prop} (hl : l ≤ 30) (hz : M (90, 0) = some eE) (h : Lst l xs M) (hn : xs.length ≤ 512) (hasg : asg 3 ci) (hca : ∃ q : vw_C, classes[ci]? = some q ∧ Cond.castable q.1 "java/lang/Object" ∈ nestW) (hel : ∀ x, x ∈ xs → ∃ fs, M x = some (ob ci fs) ∧ x ≠ (8, l) ∧ x.1 ≠ 50 + l) (hr : M r = some (ob ci fs)) (hr1 : r ≠ (8, l)) (hr2 : r.1 ≠ 50 + l)
    (k : ∀ M', Lst l (xs ++ [r]) M' → offL l M M' → post 1 M') : wp_A_add0 post (some (8, l)) (some r) M := by
  obtain ⟨v, mc, ea, h8, hfr, hc⟩ := h
  have hne : ∀ w, ((50 + l, w) : Ro) ≠ (8, l) := fun w => rne (by omega)
  unfold wp_A_add0
  refine k_gI h8 rfl (k_pF (fs' := [vR (some ea), vI (nI xs.length), vI (mc + 1)]) h8 (Nat.le_of_ble_eq_true rfl) rfl ?_)
  generalize hM7 : up M (8, l) (ob 8 [vR (some ea), vI (nI xs.length), vI (mc + 1)]) = M7
  have h87 : M7 (8, l) = some (ob 8 [vR (some ea), vI (nI xs.length), vI (mc + 1)]) := by rw [← hM7]; exact up_s
  have ho7 : offL l M M7 := by rw [← hM7]; exact offL_up offL_rf
  have hfr7 : ∀ w, v ≤ w → M7 (50 + l, w) = none := fun w hw => by rw [← hM7, up_n (hne w)]; exact hfr w hw
  have hr7 : M7 r = some (ob ci fs) := (ho7 r hr1 hr2).trans hr
  have hz7 : M7 (90, 0) = some eE := (ho7 (90, 0) (rne (by decide)) (by show 90 ≠ 50 + l; omega)).trans hz
  refine k_gR h87 rfl (k_gI h87 rfl (k_cV h87 ?_))
  -- the element goes into an array with room
  have fin : ∀ (Mx : wM) (t cap : Nat) (f : Nat → Option Ro), offL l M Mx → Mx (8, l) = some (ob 8 [vR (some (50 + l, t)), vI (nI xs.length), vI (mc + 1)]) → Mx (50 + l, t) = some (ar 3 cap f) → (∃ v', ∀ w, v' ≤ w → Mx (50 + l, w) = none) → xs.length < cap → 10 ≤ cap → cap ≤ 800 → (∀ i, i < xs.length → f i = xs[i]?) → wp_A_add1_11 (fun M20 => post 1 M20) (some (8, l)) (some r) (some (50 + l, t)) (nI xs.length) Mx := by
    intro Mx t cap f ho hx8 hxA ⟨v', hv'⟩ g1 g2 g3 g4
    have hrx : Mx r = some (ob ci fs) := (ho r hr1 hr2).trans hr
    have hvt : t < v' := by
      rcases Nat.lt_or_ge t v' with g | g
      · exact g
      · rw [hv' t g] at hxA
        exact nomatch hxA
    unfold wp_A_add1_11
    refine k_sR (C := "java/lang/Object") hxA rfl g1 (by omega) rfl (fun q hq => ?_) (k_pF (fs' := [vR (some (50 + l, t)), vI (nI xs.length + 1), vI (mc + 1)]) ((up_n (hne t).symm).trans hx8) (Nat.le_of_ble_eq_true rfl) rfl (k _ ?_ (offL_up (offL_upA ho))))
    · cases hq
      exact ⟨ci, fs, hrx, hasg⟩
    · refine ⟨v', mc + 1, (50 + l, t), ?_, fun w hw => ?_, Or.inr ⟨t, cap, va_up f xs.length (some r), rfl, ?_, ?_, g2, g3, fun i hi => ?_⟩⟩
      · rw [up_s, nI_1, List.length_append]
        rfl
      · rw [up_n (hne w), up_n (rne2 (by omega))]
        exact hv' w hw
      · rw [up_n (hne t)]
        exact up_s
      · rw [List.length_append]
        exact g1
      · rw [List.length_append] at hi
        by_cases hi2 : i = xs.length
        · subst hi2
          simp [va_up]
        · have hi3 : i < xs.length := by
            have : i < xs.length + 1 := hi
            omega
          rw [List.getElem?_append_left hi3]
          simp only [va_up, hi2, reduceIte]
          exact g4 i hi3
  rcases hc with ⟨rfl, rfl⟩ | ⟨t, cap, f, rfl, hA, g1, g2, g3, g4⟩
  · -- the first element of all
    unfold wp_A_add1
    refine k_aN hz7 (by decide) ⟨fun c => absurd rfl c, fun _ => k_cV h87 ?_⟩
    unfold wp_A_grow0
    refine k_gI h87 rfl (k_cV h87 ?_)
    unfold wp_A_grow1
    refine k_gR h87 rfl (k_aN hz7 (by decide) ⟨fun c => absurd c (by decide), fun _ => k_gR h87 rfl ⟨fun a b ha hb => Or.inl (by cases ha; cases hb; rfl), fun _ => ⟨fun c => absurd c (by decide), fun _ => ?_⟩, fun c => absurd rfl c⟩⟩)
    unfold wp_Ma_max_10
    refine k_nA (i := 10) (bd := 10) (50 + l, v) rfl (Nat.le_refl _) (by decide) (by show 50 + l < 90; omega) (hfr7 v (Nat.le_refl v)) ?_
    refine k_pF (fs' := [vR (some (50 + l, v)), vI (nI ([] : List Ro).length), vI (mc + 1)]) ((up_n (hne v).symm).trans h87) (Nat.le_of_ble_eq_true rfl) rfl ?_
    refine fin _ v 10 _ (offL_up (offL_upA ho7)) up_s ((up_n (hne v)).trans up_s) ⟨v + 1, fun w hw => ?_⟩ (by decide) (by omega) (by omega) (fun i hi => absurd hi (Nat.not_lt_zero _))
    rw [up_n (hne w), up_n (rne2 (by omega))]
    exact hfr7 w (by omega)
  · have hA7 : M7 (50 + l, t) = some (ar 3 cap f) := by rw [← hM7, up_n (hne t)]; exact hA
    unfold wp_A_add1
    refine k_aN hA7 (by decide) ⟨fun c => ?_, fun c => k_cV h87 ?_⟩
    · have hlt : xs.length < cap := by
        rcases Nat.lt_or_ge xs.length cap with g | g
        · exact g
        · exact absurd (by rw [show xs.length = cap by omega]) c
      exact fin M7 t cap f ho7 h87 hA7 ⟨v, hfr7⟩ hlt g2 g3 g4
    · -- full: half as large again
      have hlc : xs.length = cap := (nI_eq (by omega) (by omega)).mp c
      have hg : wp_A_grow1_20 (fun a7 M7 => wp_A_add1_11 (fun M20 => post 1 M20) (some (8, l)) (some r) a7 (nI xs.length) M7) (some (8, l)) (nI xs.length + 1) (nI cap) M7 := by
        unfold wp_A_grow1_20 wp_As_newLength
        have e1 : nI xs.length + 1 - nI cap = nI 1 := by rw [nI_1, pk_sub (by omega), show xs.length + 1 - cap = 1 by omega]
        have e2 : nI cap >>> ((1 : Int32) &&& 31) = nI (cap / 2) := by
          have := pk_shrN (n := cap) (by omega) ((1 : Int32) &&& 31) 1 (by decide)
          rw [Nat.pow_one] at this
          exact this
        rw [e1, e2]
        refine ⟨fun _ => ?_, fun c => absurd (nI_lt (by omega) (by omega)) c⟩
        unfold wp_Ma_max_10
        dsimp only
        rw [nI_add]
        refine ⟨fun c => absurd c (nI_nle (by omega) (by omega)), fun _ => ⟨fun c => absurd c (nI_nlt (a := 2147483639) (by omega) (by decide)), fun _ => ?_⟩⟩
        refine k_gR h87 rfl ⟨⟨_, _, _, rfl, by show 50 + l < 90; omega, hA7⟩, ?_⟩
        refine ⟨fun a b ha hb => Or.inl (by cases ha; cases hb; rfl), fun c => absurd rfl c, fun _ => ?_⟩
        refine k_nA (i := cap + cap / 2) (50 + l, v) rfl (by omega) (by omega) (by show 50 + l < 90; omega) (hfr7 v (Nat.le_refl v)) ?_
        have htv : t < v := by
          rcases Nat.lt_or_ge t v with g | g
          · exact g
          · rw [hfr t g] at hA
            exact nomatch hA
        have hA8 : up M7 (50 + l, v) (ar 3 (cap + cap / 2) (fun _ => none)) (50 + l, t) = some (ar 3 cap f) := (up_n (rne2 (by omega))).trans hA7
        unfold wp_Ar_copyOf1_24
        refine k_aN hA8 (by decide) ⟨fun c => absurd c (nI_nlt (by omega) (by omega)), fun _ => ?_⟩
        unfold wp_Ma_min_10
        obtain ⟨q, hq, hqc⟩ := hca
        have ecap : (nI cap).toNatClampNeg = cap := nI_clamp (by omega)
        refine ⟨(50 + l, t), (50 + l, v), 3, 3, cap, cap + cap / 2, ci, f, _, q, "java/lang/Object", "java/lang/Object", rfl, rfl, hA8, up_s, rfl, rfl, hq, hqc, by decide, by decide, nI_pos (by omega), ?_, ?_, by omega, by omega, ?_, ?_⟩
        · rw [ecap, sb_cl0]; omega
        · rw [ecap, sb_cl0]; omega
        · intro i hi y hy
          rw [ecap] at hi
          rw [sb_cl0, Nat.zero_add, g4 i (by omega)] at hy
          obtain ⟨fs', hf', a1, a2⟩ := hel y (List.mem_of_getElem? hy)
          exact ⟨fs', by rw [up_n (fun e => a2 (by rw [e]))]; exact (ho7 y a1 a2).trans hf'⟩
        · rw [ecap, sb_cl0]
          refine k_pF (fs' := [vR (some (50 + l, v)), vI (nI xs.length), vI (mc + 1)]) ((up_n (hne v).symm).trans ((up_n (hne v).symm).trans h87)) (Nat.le_of_ble_eq_true rfl) rfl ?_
          refine fin _ v (cap + cap / 2) _ (offL_up (offL_upA (offL_upA ho7))) up_s ((up_n (hne v)).trans up_s) ⟨v + 1, fun w hw => ?_⟩ (by omega) (by omega) (by omega) (fun i hi => ?_)
          · rw [up_n (hne w), up_n (rne2 (by omega)), up_n (rne2 (by omega))]
            exact hfr7 w (by omega)
          · rw [pk_cpy_in (by omega) (by omega), Nat.zero_add, Nat.sub_zero]
            exact g4 i hi
      unfold wp_A_grow0
      refine k_gI h87 rfl (k_cV h87 ?_)
      unfold wp_A_grow1
      exact k_gR h87 rfl (k_aN hA7 (by decide) ⟨fun _ => hg, fun c => absurd (nI_lt (a := 0) (by omega) (by omega)) c⟩)
theorem a_rest {l : Nat} {xs : List Ro} {M : wM} {cap t : Nat} {f : Nat → Option Ro} {mc : Int32} {n : Nat} (hv : ∃ v, ∀ w, v ≤ w → M (50 + l, w) = none) (h8 : M (8, l) = some (ob 8 [vR (some (50 + l, t)), vI (nI n), vI mc])) (hA : M (50 + l, t) = some (ar 3 cap f)) (hn : xs.length = n) (h1 : n ≤ cap) (h2 : 10 ≤ cap) (h3 : cap ≤ 800) (h4 : ∀ i, i < xs.length → f i = xs[i]?) : Lst l xs M := by
  obtain ⟨v, hv⟩ := hv
  exact ⟨v, mc, _, by rw [hn]; exact h8, hv, Or.inr ⟨t, cap, f, rfl, hA, by omega, h2, h3, h4⟩⟩
set_option maxHeartbeats 1000000 in
/-- remove(i) -/
theorem a_remove {l ci i : Nat} {xs : List Ro} {M : wM} {x : Int32} {post : Option Ro → wM → Prop} (hl : l ≤ 30) (h : Lst l xs M) (hx : x = nI i) (hi : i < xs.length) (hca : ∃ q : vw_C, classes[ci]? = some q ∧ Cond.castable q.1 "java/lang/Object" ∈ nestW) (hel : ∀ x, x ∈ xs → ∃ fs, M x = some (ob ci fs) ∧ x ≠ (8, l) ∧ x.1 ≠ 50 + l)
    (k : ∀ M', Lst l (xs.eraseIdx i) M' → offL l M M' → post xs[i]? M') : wp_A_remove post (some (8, l)) x M := by
  obtain ⟨v, mc, ea, h8, hfr, hc⟩ := h
  have hne : ∀ w, ((50 + l, w) : Ro) ≠ (8, l) := fun w => rne (by omega)
  rcases hc with ⟨-, rfl⟩ | ⟨t, cap, f, rfl, hA, h1, h2, h3, h4⟩
  · exact absurd hi (Nat.not_lt_zero _)
  subst hx
  unfold wp_A_remove
  refine k_gI h8 rfl ⟨fun c => absurd c (nI_pos (by omega)), fun _ => ⟨fun _ => ?_, fun c => absurd (nI_lt hi (by omega)) c⟩⟩
  refine k_gR h8 rfl (k_lR (C := "java/lang/Object") hA rfl (by omega) (by omega) rfl (k_cV h8 ?_))
  rw [h4 i hi]
  unfold wp_A_fastRemove
  refine k_gI h8 rfl (k_pF (fs' := [vR (some (50 + l, t)), vI (nI xs.length), vI (mc + 1)]) h8 (Nat.le_of_ble_eq_true rfl) rfl ?_)
  generalize hM7 : up M (8, l) (ob 8 [vR (some (50 + l, t)), vI (nI xs.length), vI (mc + 1)]) = M7
  have h87 : M7 (8, l) = some (ob 8 [vR (some (50 + l, t)), vI (nI xs.length), vI (mc + 1)]) := by rw [← hM7]; exact up_s
  have ho7 : offL l M M7 := by rw [← hM7]; exact offL_up offL_rf
  have hfr7 : ∀ w, v ≤ w → M7 (50 + l, w) = none := fun w hw => by rw [← hM7, up_n (hne w)]; exact hfr w hw
  have hA7 : M7 (50 + l, t) = some (ar 3 cap f) := by rw [← hM7, up_n (hne t)]; exact hA
  have htv : t < v := by
    rcases Nat.lt_or_ge t v with g | g
    · exact g
    · rw [hfr t g] at hA
      exact nomatch hA
  have e1 : nI xs.length - 1 = nI (xs.length - 1) := pk_sub (b := 1) (by omega)
  have hlen : (xs.eraseIdx i).length = xs.length - 1 := by rw [List.length_eraseIdx]; simp [hi]
  have fin : ∀ (Mx : wM) (f' : Nat → Option Ro), offL l M Mx → Mx (8, l) = some (ob 8 [vR (some (50 + l, t)), vI (nI xs.length), vI (mc + 1)]) → Mx (50 + l, t) = some (ar 3 cap f') → (∀ w, v ≤ w → Mx (50 + l, w) = none) → (∀ j, j < xs.length - 1 → f' j = (xs.eraseIdx i)[j]?) → wp_A_fastRemove_34 (fun M21 => post xs[i]? M21) (some (8, l)) (some (50 + l, t)) (nI i) (nI (xs.length - 1)) Mx := by
    intro Mx f' ho hx8 hxA hxf hf
    unfold wp_A_fastRemove_34
    refine k_pF (fs' := [vR (some (50 + l, t)), vI (nI (xs.length - 1)), vI (mc + 1)]) hx8 (Nat.le_of_ble_eq_true rfl) rfl ?_
    refine k_sR (C := "java/lang/Object") ((up_n (hne t)).trans hxA) rfl (by omega) (by omega) rfl (fun q hq => nomatch hq) (k _ ?_ (offL_upA (offL_up ho)))
    refine a_rest (n := xs.length - 1) (cap := cap) (t := t) (mc := mc + 1) ⟨v, fun w hw => ?_⟩ ?_ up_s hlen (by omega) h2 h3 (fun j hj => ?_)
    · rw [up_n (rne2 (by omega)), up_n (hne w)]
      exact hxf w hw
    · rw [up_n (hne t).symm]
      exact up_s
    · rw [hlen] at hj
      have : ¬ j = xs.length - 1 := by omega
      simp only [va_up, this, reduceIte]
      exact hf j hj
  refine k_gI h87 rfl ⟨fun c => ?_, fun c => ?_⟩
  · rw [e1] at c ⊢
    have hle : xs.length - 1 ≤ i := (nI_leI (by omega) (by omega)).mp c
    refine fin M7 f ho7 h87 hA7 hfr7 (fun j hj => ?_)
    rw [h4 j (by omega), List.getElem?_eraseIdx_of_lt (by omega)]
  · rw [e1] at c ⊢
    have hlt : i < xs.length - 1 := by
      rcases Nat.lt_or_ge i (xs.length - 1) with g | g
      · exact g
      · exact absurd (nI_le g (by omega)) c
    rw [nI_1, pk_sub (by omega)]
    obtain ⟨q, hq, hqc⟩ := hca
    have c1 : (nI (i + 1)).toNatClampNeg = i + 1 := nI_clamp (by omega)
    have c2 : (nI i).toNatClampNeg = i := nI_clamp (by omega)
    have c3 : (nI (xs.length - 1 - i)).toNatClampNeg = xs.length - 1 - i := nI_clamp (by omega)
    refine ⟨(50 + l, t), (50 + l, t), 3, 3, cap, cap, ci, f, f, q, "java/lang/Object", "java/lang/Object", rfl, rfl, hA7, hA7, rfl, rfl, hq, hqc, nI_pos (by omega), nI_pos (by omega), nI_pos (by omega), ?_, ?_, by omega, by omega, ?_, ?_⟩
    · rw [c1, c3]; omega
    · rw [c2, c3]; omega
    · intro j hj y hy
      rw [c3] at hj
      rw [c1, h4 (i + 1 + j) (by omega)] at hy
      obtain ⟨fs', hf', a1, a2⟩ := hel y (List.mem_of_getElem? hy)
      exact ⟨fs', (ho7 y a1 a2).trans hf'⟩
    · rw [c1, c2, c3]
      refine fin _ _ (offL_upA ho7) ((up_n (hne t).symm).trans h87) up_s (fun w hw => ?_) (fun j hj => ?_)
      · rw [up_n (rne2 (by omega))]
        exact hfr7 w hw
      · by_cases hji : j < i
        · rw [pk_cpy_out (Or.inl hji), h4 j (by omega), List.getElem?_eraseIdx_of_lt hji]
        · rw [pk_cpy_in (by omega) (by omega), show i + 1 + (j - i) = j + 1 by omega, h4 (j + 1) (by omega), List.getElem?_eraseIdx_of_ge (by omega)]
set_option maxHeartbeats 1000000 in
theorem a_clear {l : Nat} {xs : List Ro} {M : wM} {post : wM → Prop} (hl : l ≤ 30) (hn : xs.length ≤ 800) (h : Lst l xs M) (k : ∀ M', Lst l [] M' → offL l M M' → post M') : wp_A_clear post (some (8, l)) M := by
  obtain ⟨v, mc, ea, h8, hfr, hc⟩ := h
  have hne : ∀ w, ((50 + l, w) : Ro) ≠ (8, l) := fun w => rne (by omega)
  unfold wp_A_clear
  refine k_gI h8 rfl (k_pF (fs' := [vR (some ea), vI (nI xs.length), vI (mc + 1)]) h8 (Nat.le_of_ble_eq_true rfl) rfl (k_gR up_s rfl (k_gI up_s rfl (k_pF (fs' := [vR (some ea), vI (nI 0), vI (mc + 1)]) up_s (Nat.le_of_ble_eq_true rfl) rfl ?_))))
  rw [up_up]
  generalize hM8 : up M (8, l) (ob 8 [vR (some ea), vI (nI 0), vI (mc + 1)]) = M8
  have h88 : M8 (8, l) = some (ob 8 [vR (some ea), vI (nI 0), vI (mc + 1)]) := by rw [← hM8]; exact up_s
  have ho8 : offL l M M8 := by rw [← hM8]; exact offL_up offL_rf
  have hfr8 : ∀ w, v ≤ w → M8 (50 + l, w) = none := fun w hw => by rw [← hM8, up_n (hne w)]; exact hfr w hw
  rcases hc with ⟨rfl, rfl⟩ | ⟨t, cap, f, rfl, hA, h1, h2, h3, h4⟩
  · refine ⟨1, fun _ => k _ ⟨v, mc + 1, _, h88, hfr8, Or.inl ⟨rfl, rfl⟩⟩ ho8, fun c => absurd (show (nI 0 : Int32) ≤ 0 by decide) c⟩
  · have hA8 : M8 (50 + l, t) = some (ar 3 cap f) := by rw [← hM8, up_n (hne t)]; exact hA
    have htv : t < v := by
      rcases Nat.lt_or_ge t v with g | g
      · exact g
      · rw [hfr t g] at hA
        exact nomatch hA
    have key : ∀ m i x Mx f', i + m = xs.length → x = nI i → offL l M Mx → Mx (8, l) = some (ob 8 [vR (some (50 + l, t)), vI (nI 0), vI (mc + 1)]) → Mx (50 + l, t) = some (ar 3 cap f') → (∀ w, v ≤ w → Mx (50 + l, w) = none) → wp_A_clear_27 post (m + 1) (some (8, l)) (some (50 + l, t)) (nI xs.length) x Mx := by
      intro m
      induction m with
      | zero =>
        intro i x Mx f' hi ex ho hx8 hxA hxf
        subst ex
        unfold wp_A_clear_27
        exact ⟨fun _ => k _ (a_rest (xs := []) (n := 0) ⟨v, hxf⟩ hx8 hxA rfl (by omega) h2 h3 (fun j hj => absurd hj (Nat.not_lt_zero _))) ho, fun c => absurd (nI_le (by omega) (by omega)) c⟩
      | succ m ih =>
        intro i x Mx f' hi ex ho hx8 hxA hxf
        subst ex
        unfold wp_A_clear_27
        refine ⟨fun c => absurd ((nI_leI (by omega) (by omega)).mp c) (by omega), fun _ => ?_⟩
        refine k_sR (C := "java/lang/Object") hxA rfl (by omega) (by omega) rfl (fun q hq => nomatch hq) ?_
        refine ih (i + 1) _ _ _ (by omega) (nI_1 i) (offL_upA ho) ((up_n (hne t).symm).trans hx8) up_s (fun w hw => ?_)
        rw [up_n (rne2 (by omega))]
        exact hxf w hw
    exact ⟨xs.length + 1, key xs.length 0 0 M8 f (by omega) nI_0.symm ho8 h88 hA8 hfr8⟩
theorem a_init {l : Nat} {fs : List AV} {M : wM} {post : wM → Prop} (hl : l ≤ 30) (h8 : M (8, l) = some (ob 8 [vR none, vI 0, vI 0])) (hA : ∀ w, M (50 + l, w) = none) (k : ∀ M', Lst l [] M' → offL l M M' → post M') : wp_A_init post (some (8, l)) M := by
  unfold wp_A_init wp_Ab_init wp_Ac_init
  refine k_cV h8 (k_cV h8 ⟨⟨_, rfl⟩, k_pF (fs' := [vR none, vI 0, vI 0]) h8 (Nat.le_of_ble_eq_true rfl) rfl (k_pF (fs' := [vR (some (90, 0)), vI (nI 0), vI 0]) up_s (Nat.le_of_ble_eq_true rfl) rfl (k _ ⟨0, 0, (90, 0), up_s, fun w _ => ?_, Or.inl ⟨rfl, rfl⟩⟩ (offL_up (offL_up offL_rf))))⟩)
  rw [up_n (rne (by omega)), up_n (rne (by omega))]
  exact hA w
