/-! class and reference side by side -/
section JN0
variable {P l d c u : Nat} {dr : Option Nat} {dep dep' : Nat → Bool} {mul mul' : Fn} {sn sn' : Nat → Nat} {so sx sy sz so' sx' sy' sz' : Nat → Fn} {ic ml : Nat → Bool} {hm : Nat → Nat} {xo : Nat → DB → Oc} {cl tk : Nat → Nat} {A A' : RA} {F F' : RF} {M : wM} {live base : DB} {dn : Nat → Bool} {cm : Nat → Nat → Bool} {lf : Nat → Nat}
theorem RC_pt (hC : RC P l ic ml hm xo A F) (hn : ∀ n, 1 ≤ n → n ≤ l → A' 16 n = A 16 n ∧ A' 17 (3 * n) = A 17 (3 * n) ∧ A' 17 (3 * n + 1) = A 17 (3 * n + 1) ∧ A' 17 (3 * n + 2) = A 17 (3 * n + 2)) (hp : ∀ p, p < 6 → A 7 p = 1 → A' 7 p = 1 ∧ A' 8 p = A 8 p ∧ A' 9 p = A 9 p ∧ ∀ k, k < 8 → A' 10 (8 * p + k) = A 10 (8 * p + k) ∧ A' 11 (8 * p + k) = A 11 (8 * p + k) ∧ A' 12 (8 * p + k) = A 12 (8 * p + k) ∧ A' 13 (8 * p + k) = A 13 (8 * p + k)) (hF : F' 0 = F 0) : RC P l ic ml hm xo A' F' := by
  intro n h1 h2
  obtain ⟨n1, n2, n3, n4⟩ := hn n h1 h2
  refine ⟨fun g => n1.trans ((hC n h1 h2).1 g), fun g => ?_⟩
  obtain ⟨p, sn, e1, ⟨⟨k1, k2, k3, k4⟩, e7⟩, e3, e4, e5, e6⟩ := (hC n h1 h2).2 g
  obtain ⟨p1, p2, p3, p4⟩ := hp p k1 e7
  have ep : ix (nI p) = p := ix_nI (by omega)
  refine ⟨p, sn, n1.trans e1, ⟨⟨k1, k2, p3.trans k3, fun k hk => ?_⟩, p1⟩, by rw [p2]; exact e3, by rw [n2]; exact e4, e5, fun s => ?_⟩
  · obtain ⟨a, b, c, d⟩ := p4 k (by omega)
    rw [a, b, c, d]
    exact k4 k hk
  · rw [← e6 s]
    unfold exn mu pq
    rw [n1, n2, n3, n4, hF, e1, ep, p2]
    exact ex_ext (fun k hk => p4 k (by omega))
theorem Tk_ext (hT : Tk P l dep mul sn so sx sy sz ic ml hm xo cl tk M) (h : ∀ p, p < 6 → dep p = true → dep' p = true ∧ mul' p = mul p ∧ sn' p = sn p ∧ so' p = so p ∧ sx' p = sx p ∧ sy' p = sy p ∧ sz' p = sz p) : Tk P l dep' mul' sn' so' sx' sy' sz' ic ml hm xo cl tk M := by
  refine ⟨fun n h1 h2 => ⟨(hT.1 n h1 h2).1, fun g => ?_⟩, hT.2⟩
  obtain ⟨p, a, b, e, k1, k2, k3, k4, k5, k6, k7, k8⟩ := (hT.1 n h1 h2).2 g
  obtain ⟨g1, g2, g3, g4, g5, g6, g7⟩ := h p k2 k3
  refine ⟨p, a, b, e, k1, k2, g1, by rw [g2]; exact k4, k5, k6, k7, fun s => ?_⟩
  rw [g2, g3, g4, g5, g6, g7]
  exact k8 s
theorem Tk_le {l' : Nat} (hT : Tk P l dep mul sn so sx sy sz ic ml hm xo cl tk M) (h : l' ≤ l) : Tk P l' dep mul sn so sx sy sz ic ml hm xo cl tk M := ⟨fun n a b => hT.1 n a (by omega), hT.2⟩
theorem JX_le {l' : Nat} (hX : JX P l ic ml hm xo) (h : l' ≤ l) : JX P l' ic ml hm xo := fun n a b => hX n a (by omega)
/-- a new command keeps to its partition -/
theorem JX_new {m : Int32} {h0 k : Nat} {oo xx yy zz : Fn} {a b e : Int32} (hX : JX P l ic ml hm xo) (hh : pt a (nI P) = nI h0) (hhP : h0 < P) (h9 : m = 0 → ∀ j, j < k → ¬ oo j = 9) : JX P (l + 1) (ub ic (l + 1) true) (ub ml (l + 1) (decide (¬ m = 0))) (un hm (l + 1) h0) (ux xo (l + 1) (fun s => ex m (nI P) (pt a (nI P)) k oo xx yy zz a b e s.1 s.2 z0)) := by
  intro n h1 h2 hic
  by_cases en : n = l + 1
  · subst en
    rw [un_s, ub_s]
    refine ⟨hhP, fun g => ?_⟩
    have hm0 : m = 0 := by simpa using g
    have key := fun (s s2 : DB) (hag : agD (nI P) (nI h0) s s2) => ex_loc (mu := m) (P := nI P) (q := nI h0) (sn := k) (so := oo) (sx := xx) (sy := yy) (sz := zz) (a := a) (b := b) (c := e) (w := z0) hm0 (h9 hm0) hag
    refine ⟨⟨fun s => ?_, fun s s2 hag => ?_⟩, fun s s2 hag => ?_⟩
    · obtain ⟨fa, T', H', T2', H2', o', w', e1, e2, r3, r4, r5⟩ := key s s ag_rf
      unfold xd
      rw [ux_s, hh]
      rw [e1]
      exact r4
    · obtain ⟨fa, T', H', T2', H2', o', w', e1, e2, r3, r4, r5⟩ := key s s2 hag
      unfold xd
      rw [ux_s, hh]
      rw [e1, e2]
      exact r3
    · obtain ⟨fa, T', H', T2', H2', o', w', e1, e2, r3, r4, r5⟩ := key s s2 hag
      rw [ux_s, hh]
      rw [e1, e2]
      exact ⟨rfl, rfl⟩
  · rw [ub_n en] at hic
    rw [un_n en, ub_n en]
    have := hX n h1 (by omega) hic
    refine ⟨this.1, fun g => ?_⟩
    obtain ⟨⟨s1, s2⟩, s3⟩ := this.2 g
    have ex : xd (ux xo (l + 1) (fun s => ex m (nI P) (pt a (nI P)) k oo xx yy zz a b e s.1 s.2 z0)) n = xd xo n := by
      funext s
      unfold xd
      rw [ux_n en]
    unfold sgl
    rw [ex, ux_n en]
    exact ⟨⟨s1, s2⟩, s3⟩
theorem JX_snap (hX : JX P l ic ml hm xo) : JX P (l + 1) (ub ic (l + 1) false) ml hm xo := fun n h1 h2 hic => by
  have en : n ≠ l + 1 := fun z => by rw [z, ub_s] at hic; exact absurd hic (by decide)
  rw [ub_n en] at hic
  exact hX n h1 (by omega) hic
theorem RC_new {i p h0 : Nat} {a b e : Int32} (hC : RC P l ic ml hm xo A F) (hl : l + 1 ≤ 1000) (hF : F 0 = nI P) (hF' : F' 0 = F 0) (hQ : RQ dr dep mul sn so sx sy sz A F) (hJ : JP dr dep mul sn so sx sy sz) (hp : p < 6) (hdp : dep p = true) (hh : pt a (nI P) = nI h0) (hhP : h0 < P) (h16 : A' 16 = upd (A 16) (l + 1) (nI p)) (h17 : A' 17 = upd (upd (upd (A 17) (3 * (l + 1)) a) (3 * (l + 1) + 1) b) (3 * (l + 1) + 2) e) (hk : ∀ k, 7 ≤ k → k ≤ 13 → A' k = A k) :
    RC P (l + 1) (ub ic (l + 1) true) (ub ml (l + 1) (decide (¬ mul p = 0))) (un hm (l + 1) h0) (ux xo (l + 1) (fun s => ex (mul p) (nI P) (pt a (nI P)) (sn p) (so p) (sx p) (sy p) (sz p) a b e s.1 s.2 z0)) A' F' := by
  have hold : RC P l ic ml hm xo A' F' := RC_pt hC (fun n n1 n2 => by
    rw [h16, h17]
    refine ⟨upd_n (by omega), ?_, ?_, ?_⟩
    · rw [upd_n (by omega), upd_n (by omega), upd_n (by omega)]
    · rw [upd_n (by omega), upd_n (by omega), upd_n (by omega)]
    · rw [upd_n (by omega), upd_n (by omega), upd_n (by omega)]) (fun p _ h7 => by
    rw [hk 7 (by decide) (by decide), hk 8 (by decide) (by decide), hk 9 (by decide) (by decide), hk 10 (by decide) (by decide), hk 11 (by decide) (by decide), hk 12 (by decide) (by decide), hk 13 (by decide) (by decide)]
    exact ⟨h7, rfl, rfl, fun _ _ => ⟨rfl, rfl, rfl, rfl⟩⟩) hF'
  intro n n1 n2
  by_cases en : n = l + 1
  · subst en
    rw [ub_s, ub_s, un_s, ux_s]
    obtain ⟨q1, q2, q3⟩ := hQ.2.1 p hp hdp
    obtain ⟨⟨p1, p2, p3⟩, -⟩ := hJ.1 p hp hdp
    have t0 : A' 17 (3 * (l + 1)) = a := by rw [h17, upd_n (by omega), upd_n (by omega), upd_s]
    have t1 : A' 17 (3 * (l + 1) + 1) = b := by rw [h17, upd_n (by omega), upd_s]
    have t2 : A' 17 (3 * (l + 1) + 2) = e := by rw [h17, upd_s]
    have t16 : A' 16 (l + 1) = nI p := by rw [h16, upd_s]
    have ep : ix (nI p) = p := ix_nI (by omega)
    refine ⟨fun z => absurd z (by decide), fun _ => ⟨p, sn p, t16, ⟨⟨hp, p2, ?_, fun k hk2 => ?_⟩, ?_⟩, ?_, by rw [t0]; exact hh, hhP, fun s => ?_⟩⟩
    · rw [hk 9 (by decide) (by decide)]
      exact q2
    · obtain ⟨x1, x2, x3, x4⟩ := q3 k hk2
      rw [hk 10 (by decide) (by decide), hk 11 (by decide) (by decide), hk 12 (by decide) (by decide), hk 13 (by decide) (by decide), x1, x2, x3, x4]
      exact p3 k hk2
    · rw [hk 7 (by decide) (by decide), hQ.1 p hp, hdp]
      rfl
    · rw [hk 8 (by decide) (by decide), q1]
      by_cases z : mul p = 0
      · simp [z]
      · simp [z]
    · unfold exn mu pq
      rw [t16, ep, t0, t1, t2, hF', hF, hk 8 (by decide) (by decide), q1]
      exact ex_ext (fun k hk2 => by
        obtain ⟨x1, x2, x3, x4⟩ := q3 k hk2
        rw [← x1, ← x2, ← x3, ← x4]
        unfold pso psx psy psz
        rw [hk 10 (by decide) (by decide), hk 11 (by decide) (by decide), hk 12 (by decide) (by decide), hk 13 (by decide) (by decide)]
        exact ⟨rfl, rfl, rfl, rfl⟩)
  · rw [ub_n en, ub_n en, un_n en, ux_n en]
    exact hold n n1 (by omega)
theorem RG_new {v : Int32} (hG : RG l dn cm A) (h : nxt A A' (l + 1) v) : RG (l + 1) (ub dn (l + 1) false) (cmR cm (l + 1)) A' := fun n n1 n2 => by
  obtain ⟨h1, h2, h3⟩ := h
  rw [h2, h3]
  by_cases en : n = l + 1
  · subst en
    rw [upd_s, upd_s, ub_s, cmR_s]
    exact ⟨rfl, rfl⟩
  · rw [upd_n en, upd_n en, ub_n en, cmR_n en]
    exact hG n n1 (by omega)
theorem RQ_ext (hQ : RQ dr dep mul sn so sx sy sz A F) (h : ∀ k, 7 ≤ k → k ≤ 13 → A' k = A k) (hF : F' 14 = F 14) : RQ dr dep mul sn so sx sy sz A' F' := by
  unfold RQ at hQ ⊢
  rw [h 7 (by decide) (by decide), h 8 (by decide) (by decide), h 9 (by decide) (by decide), h 10 (by decide) (by decide), h 11 (by decide) (by decide), h 12 (by decide) (by decide), h 13 (by decide) (by decide), hF]
  exact hQ
theorem RT_ext (hT : RT live base A) (h : ∀ k, k = 1 ∨ k = 2 ∨ k = 3 ∨ k = 4 ∨ k = 32 → A' k = A k) : RT live base A' := by
  unfold RT at hT ⊢
  rw [h 1 (by omega), h 2 (by omega), h 3 (by omega), h 4 (by omega), h 32 (by omega)]
  exact hT
theorem RS_ext (hS : RS lf A) (h : A' 26 = A 26) : RS lf A' := by
  unfold RS at hS ⊢
  rw [h]
  exact hS
theorem RK_ext {cs : Fn} {cn : Nat → Nat} {cf : Fn} {co : Nat → Nat} {cw : Nat → Fn} (hK : RK cs cn cf co cw A) (h : ∀ k, 27 ≤ k → k ≤ 31 → A' k = A k) : RK cs cn cf co cw A' := by
  unfold RK at hK ⊢
  rw [h 27 (by decide) (by decide), h 28 (by decide) (by decide), h 29 (by decide) (by decide), h 30 (by decide) (by decide), h 31 (by decide) (by decide)]
  exact hK
theorem RG_ext (hG : RG l dn cm A) (h : A' 18 = A 18 ∧ A' 19 = A 19) : RG l dn cm A' := by
  unfold RG at hG ⊢
  rw [h.1, h.2]
  exact hG
end JN0
