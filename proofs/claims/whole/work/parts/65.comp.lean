/-- two outcomes at one place are the same -/
theorem ocm_eq {xo : Nat → DB → Oc} {n : Nat} {s : DB} {fA oA wA fA' oA' wA' : Fn} (h : ocm xo n s fA oA wA) (g : ocm xo n s fA' oA' wA') : fA' n = fA n ∧ oA' n = oA n ∧ ∀ k, k < ix (oA n) → wA' (4 * n + k) = wA (4 * n + k) := by
  obtain ⟨h1, h2, h3⟩ := h
  obtain ⟨g1, g2, g3⟩ := g
  have e : oA' n = oA n := g2.trans h2.symm
  exact ⟨g1.trans h1.symm, e, fun k hk => (g3 k (by rw [e]; exact hk)).trans (h3 k hk).symm⟩
section CMPJ
variable {K P l d c u : Nat} {dr : Option Nat} {dep : Nat → Bool} {mul : Fn} {sn : Nat → Nat} {so sx sy sz : Nat → Fn} {ic ml : Nat → Bool} {hm : Nat → Nat} {xo : Nat → DB → Oc} {cl tk : Nat → Nat} {dn : Nat → Bool} {cm : Nat → Nat → Bool} {q : Nat → List Nat} {sd mk : Nat → Bool} {lf : Nat → Nat} {lg : List Nat} {cs : Fn} {cn : Nat → Nat} {cd cc : Nat → Bool} {cf : Fn} {co : Nat → Nat} {cw : Nat → Fn} {live base base' mid : DB} {A A' : RA} {F F' : RF} {M1 M2 : wM}
/-- the snapshot is complete -/
theorem INV_comp (hl : l ≤ K) (hK : K ≤ 513) (hJ : JN P l d c u ∧ JX P l ic ml hm xo ∧ JQ P l u ic ml hm dn cm q sd mk ∧ JG l c ic lg ∧ JF l c ic dn xo live base (A 20) (A 21) (A 22) ∧ JM P c u ic xo cm base mid ∧ JK l d ic dn cl cs cn cd cc cf co cw (A 20) (A 21) (A 22) ∧ JP dr dep mul sn so sx sy sz) (hu : u ≠ 0) (hf : ∀ i, i < P → cm u i = true)
    (rC : RC P l ic ml hm xo A F) (hF0 : F 0 = nI P) (rG : RG l dn cm A) (rS : RS lf A) (rK : RK cs cn cf co cw A) (rQ : RQ dr dep mul sn so sx sy sz A F) (cr : CR P l d c u ic dn xo cn base base' A A') (rN : RN P l (max d u) u 0 F') (h14 : F' 14 = F 14)
    (hC : St P l (max d u) u 0 dr M1 ∧ Pr dep mul sn so sx sy sz M1 ∧ Tk P l dep mul sn so sx sy sz ic ml hm xo cl tk M1 ∧ Si P tk q sd mk lf M1 ∧ Lst 20 (tq tk (lg.dropWhile (fun m => decide (m ≤ u)))) M1 ∧ Cl (stl (max d u) cs cn cd cc) cn cd cc cf co cw M1 ∧ Ru P live mid mid M1) (rm : RM M1 A' F' M2) : INV K M2 := by
  obtain ⟨jN, jX, jQ, jG, jF, jM, jK, jP⟩ := hJ
  obtain ⟨jP1, jP2, jcd, jdl, jul, jcu⟩ := id jN
  obtain ⟨s1, s2, s3, s4, s5, s6, s7⟩ := hC
  obtain ⟨hb, rT, o1, o2, ⟨A3, x27, x29, x30, x31, x20, x21, x22, hTC⟩, kA⟩ := cr
  have hcu : c < u := jcu.resolve_left hu
  have hic := (jQ.2.2.1 hu).1
  obtain ⟨f1, f2, f3⟩ := JF_done jX jQ jF hcu jul hic hf hb o2
  -- outcomes as they were
  have same : ∀ n, c < n → n ≤ l → dn n = true → ic n = true → A' 20 n = A 20 n ∧ A' 21 n = A 21 n ∧ ∀ k, k < ix (A 21 n) → A' 22 (4 * n + k) = A 22 (4 * n + k) := fun n g1 g2 g3 g4 => by
    have old := jF.2.2 n g1 g2 g3 g4
    rcases Nat.lt_trichotomy n u with z | z | z
    · have new := o1 n g1 z g4
      rw [f3 n g1 z] at new
      exact ocm_eq old new
    · rw [z, hic] at g4
      exact absurd g4 (by decide)
    · have new := o2 n z g2 (cpl_i g3 g4)
      rw [f2 n z g2] at new
      exact ocm_eq old new
  have pend : ∀ i, i < 4 → cs i = 1 → cd i = true → c < cn i ∧ cn i ≤ l ∧ dn (cn i) = true ∧ ic (cn i) = true ∧ co i ≤ 4 ∧ A 21 (cn i) = nI (co i) := fun i hi h1 h2 => by
    obtain ⟨b1, b2, b3, b4, b5, b6, b7⟩ := jK.1 i hi h1
    obtain ⟨m1, m2, m3, m4, m5⟩ := b7 h2
    refine ⟨?_, b2, by rw [← b5]; exact h2, b3, m3, m4⟩
    rcases Nat.lt_or_ge d (cn i) with g | g
    · omega
    · exact absurd ⟨h2, g⟩ b6
  have heq : ∀ i, i < 4 → cs i = 1 → cd i = true → A' 20 (cn i) = A 20 (cn i) ∧ A' 21 (cn i) = A 21 (cn i) ∧ ∀ k, k < co i → A' 22 (4 * cn i + k) = A 22 (4 * cn i + k) := fun i hi h1 h2 => by
    obtain ⟨p1, p2, p3, p4, p5, p6⟩ := pend i hi h1 h2
    obtain ⟨e1, e2, e3⟩ := same _ p1 p2 p3 p4
    exact ⟨e1, e2, fun k hk => e3 k (by rw [p6, ix_nI (by omega)]; exact hk)⟩
  obtain ⟨r1, r2, r3, r4, r5⟩ := s7
  obtain ⟨v1, v2⟩ := JM_sim ⟨jP1, jP2⟩ jM hu hf
  rw [← hb] at v1 v2
  have hlive : live = fo (xd xo) (cpl dn ic) u base' (l - u) := f1.1
  refine ⟨P, l, max d u, u, 0, dr, dep, mul, sn, so, sx, sy, sz, ic, ml, hm, xo, cl, dn, cm, q, sd, mk, lf, lg.dropWhile (fun m => decide (m ≤ u)), live, base', mid, _, cn, cd, cc, cf, co, cw, tk, A', F', hl, ⟨⟨jP1, jP2, by omega, by omega, by omega, Or.inl rfl⟩, jX, JQ_done jQ hf, ?_, f1, fun z => absurd rfl z, JK_stl jK heq, jP⟩, ⟨rN, ?_, RC_ext rC (fun k g1 g2 => kA k (by omega)) (by rw [rN.1, hF0]), RG_ext rG ⟨kA 18 (by omega), kA 19 (by omega)⟩, RS_ext rS (kA 26 (by omega)), ?_, RQ_ext rQ (fun k g1 g2 => kA k (by omega)) h14⟩, CB_off jP2 ⟨s1, s2, s3, s4, s5, s6, r1, r2, r3, Tb_ext r4 v1 v2, r5⟩ rm.2.2, RM_self rm⟩
  · show _ = _
    rw [show lg = _ from jG]
    exact fi_drop (by omega) jul
  · rw [hlive]
    exact rT
  · have hK3 : RK cs cn cf co cw (fun k => if k = 28 then A 28 else A3 k) := by
      unfold RK at rK ⊢
      dsimp only
      rw [x27, x29, x30, x31]
      exact rK
    refine RK_tell (dn := dn) (A3 := fun k => if k = 28 then A 28 else A3 k) hK3 (fun i hi h1 => ?_) (fun i hi => hTC i hi) (kA 28 (by omega))
    obtain ⟨b1, b2, b3, b4, b5, b6, b7⟩ := jK.1 i hi h1
    refine ⟨b5, fun z => ?_⟩
    obtain ⟨m1, m2, m3, m4, m5⟩ := b7 z
    obtain ⟨e1, e2, e3⟩ := heq i hi h1 z
    show (cc i = true ↔ A3 20 (cn i) < 0) ∧ (cc i = false → cf i = A3 20 (cn i)) ∧ co i ≤ 4 ∧ A3 21 (cn i) = nI (co i) ∧ ∀ k, k < co i → cw i k = A3 22 (4 * cn i + k)
    rw [x20, x21, x22, e1, e2]
    exact ⟨m1, m2, m3, m4, fun k hk => (m5 k hk).trans (e3 k hk).symm⟩
end CMPJ
