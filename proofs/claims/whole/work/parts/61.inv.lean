/-! the invariant of the law's loop -/
def INV (K : Nat) (M : wM) : Prop := ∃ (P l d c u : Nat) (dr : Option Nat) (dep : Nat → Bool) (mul : Fn) (sn : Nat → Nat) (so sx sy sz : Nat → Fn) (ic ml : Nat → Bool) (hm : Nat → Nat) (xo : Nat → DB → Oc) (cl : Nat → Nat) (dn : Nat → Bool) (cm : Nat → Nat → Bool) (q : Nat → List Nat) (sd mk : Nat → Bool) (lf : Nat → Nat) (lg : List Nat) (live base mid : DB) (cs : Fn) (cn : Nat → Nat) (cd cc : Nat → Bool) (cf : Fn) (co : Nat → Nat) (cw : Nat → Fn) (tk : Nat → Nat) (A : RA) (F : RF),
  l ≤ K ∧ (JN P l d c u ∧ JX P l ic ml hm xo ∧ JQ P l u ic ml hm dn cm q sd mk ∧ JG l c ic lg ∧ JF l c ic dn xo live base (A 20) (A 21) (A 22) ∧ JM P c u ic xo cm base mid ∧ JK l d ic dn cl cs cn cd cc cf co cw (A 20) (A 21) (A 22) ∧ JP dr dep mul sn so sx sy sz) ∧
  (RN P l d c u F ∧ RT live base A ∧ RC P l ic ml hm xo A F ∧ RG l dn cm A ∧ RS lf A ∧ RK cs cn cf co cw A ∧ RQ dr dep mul sn so sx sy sz A F) ∧
  (St P l d c u dr M ∧ Pr dep mul sn so sx sy sz M ∧ Tk P l dep mul sn so sx sy sz ic ml hm xo cl tk M ∧ Si P tk q sd mk lf M ∧ Lst 20 (tq tk lg) M ∧ Cl cs cn cd cc cf co cw M ∧ Ru P live base mid M) ∧ RM M A F M
/-- what the reference does from M1 on: answer r, and the invariant holds -/
def NX {α : Type} (K : Nat) (r : α) (wpM : (α → wM → Prop) → wM → Prop) (M1 : wM) : Prop := (∃ fs, M1 (40, 0) = some (ob 9 fs)) ∧ ∀ p2 : α → wM → Prop, (∀ M2, INV K M2 → p2 r M2) → wpM p2 M1
theorem RM_mv {N A F M M1} (h : RM N A F M) (o : ∀ r : Ro, r.1 = 40 ∨ r.1 = 41 → M1 r = M r) : RM M1 A F M1 := ⟨(o _ (Or.inl rfl)).trans h.1, fun k hk => (o _ (Or.inr rfl)).trans (h.2.1 k hk), fun _ _ _ => rfl⟩
theorem RM_self {N : wM} {A : RA} {F : RF} {M : wM} (h : RM N A F M) : RM M A F M := ⟨h.1, h.2.1, fun _ _ _ => rfl⟩
section INVS
variable {P l d c u : Nat} {dr : Option Nat} {dep : Nat → Bool} {mul : Fn} {sn : Nat → Nat} {so sx sy sz : Nat → Fn} {ic ml : Nat → Bool} {hm : Nat → Nat} {xo : Nat → DB → Oc} {cl tk : Nat → Nat} {q : Nat → List Nat} {sd mk : Nat → Bool} {lf : Nat → Nat} {lg : List Nat} {cs : Fn} {cn : Nat → Nat} {cd cc : Nat → Bool} {cf : Fn} {co : Nat → Nat} {cw : Nat → Fn} {live base mid : DB} {M M' : wM}
/-- the class's heap, off the reference's cells -/
theorem CB_off (hP : P ≤ 4) (h : St P l d c u dr M ∧ Pr dep mul sn so sx sy sz M ∧ Tk P l dep mul sn so sx sy sz ic ml hm xo cl tk M ∧ Si P tk q sd mk lf M ∧ Lst 20 (tq tk lg) M ∧ Cl cs cn cd cc cf co cw M ∧ Ru P live base mid M) (o : ∀ r : Ro, r.1 ≠ 40 → r.1 ≠ 41 → M' r = M r) : St P l d c u dr M' ∧ Pr dep mul sn so sx sy sz M' ∧ Tk P l dep mul sn so sx sy sz ic ml hm xo cl tk M' ∧ Si P tk q sd mk lf M' ∧ Lst 20 (tq tk lg) M' ∧ Cl cs cn cd cc cf co cw M' ∧ Ru P live base mid M' := by
  obtain ⟨h1, h2, h3, h4, h5, h6, h7⟩ := h
  exact ⟨St_off h1 (fun r hr => o r (by unfold dO at hr; omega) (by unfold dO at hr; omega)), Pr_off h2 (fun r hr => o r (by unfold dP at hr; omega) (by unfold dP at hr; omega)), Tk_off h3 (fun r hr => o r (by omega) (by omega)), Si_off h4 hP (fun r hr => o r (by unfold dS at hr; omega) (by unfold dS at hr; omega)), Lg_off h5 (fun r hr => o r (by unfold dG at hr; omega) (by unfold dG at hr; omega)), Cl_off h6 (fun r hr => o r (by unfold dC at hr; omega) (by unfold dC at hr; omega)), Ru_off h7 (fun r hr => o r (by unfold dR at hr; omega) (by unfold dR at hr; omega))⟩
end INVS
theorem INV_le {K K' : Nat} {M : wM} (h : INV K M) (hk : K ≤ K') : INV K' M := by
  obtain ⟨P, l, d, c, u, dr, dep, mul, sn, so, sx, sy, sz, ic, ml, hm, xo, cl, dn, cm, q, sd, mk, lf, lg, live, base, mid, cs, cn, cd, cc, cf, co, cw, tk, A, F, hl, r⟩ := h
  exact ⟨P, l, d, c, u, dr, dep, mul, sn, so, sx, sy, sz, ic, ml, hm, xo, cl, dn, cm, q, sd, mk, lf, lg, live, base, mid, cs, cn, cd, cc, cf, co, cw, tk, A, F, by omega, r⟩
/-- a call that changes nothing -/
theorem NX_same {α : Type} {K : Nat} {M : wM} {r : α} {wpM : (α → wM → Prop) → wM → Prop} {A : RA} {F : RF} (hI : INV K M) (hR : RM M A F M) (h : ∀ p2 : α → wM → Prop, (∀ M2, RM M A F M2 → p2 r M2) → wpM p2 M) (hAF : ∀ M2, RM M A F M2 → INV K M2) : NX (K + 1) r wpM M := ⟨⟨_, hR.1⟩, fun p2 k => h p2 (fun M2 rm => k M2 (INV_le (hAF M2 rm) (by omega)))⟩
theorem j_answer {K : Nat} {M : wM} {x : Int32} {post : Int32 → wM → Prop} (hI : INV K M) (h : ∀ r M1, NX (K + 1) r (fun p2 M1 => wp_M_answer p2 (some (40, 0)) x M1) M1 → post r M1) : wp_S_answer post (some (0, 0)) x M := by
  obtain ⟨P, l, d, c, u, dr, dep, mul, sn, so, sx, sy, sz, ic, ml, hm, xo, cl, dn, cm, q, sd, mk, lf, lg, live, base, mid, cs, cn, cd, cc, cf, co, cw, tk, A, F, hl, hJ, hR, hC, hRM⟩ := id hI
  obtain ⟨rN, rT, rC, rG, rS, rK, rQ⟩ := id hR
  obtain ⟨sS, sP, sT, sI, sL, sC, sR⟩ := id hC
  have inv : ∀ M2, RM M A F M2 → INV K M2 := fun M2 rm => ⟨P, l, d, c, u, dr, dep, mul, sn, so, sx, sy, sz, ic, ml, hm, xo, cl, dn, cm, q, sd, mk, lf, lg, live, base, mid, cs, cn, cd, cc, cf, co, cw, tk, A, F, hl, hJ, hR, CB_off hJ.1.2.1 hC rm.2.2, RM_self rm⟩
  refine c_answer sS sC (fun g => h _ M (NX_same hI hRM (fun p2 k => fs_M_answer (Q := fun r A' F' => r = -1 ∧ A' = A ∧ F' = F) hRM (f_answer rK (fun _ => ⟨rfl, rfl, rfl⟩) (fun i hi e => absurd e (g i hi))) (fun r A' F' M2 rm e => ?_)) inv)) (fun i hi e => h _ M (NX_same hI hRM (fun p2 k => fs_M_answer (Q := fun r A' F' => r = cs i ∧ A' = A ∧ F' = F) hRM (f_answer rK (fun g => absurd e (g i hi)) (fun j hj e2 => ⟨by rw [(nI_eq (by omega) (by omega)).mp (e2.symm.trans e)], rfl, rfl⟩)) (fun r A' F' M2 rm e => ?_)) inv))
  · obtain ⟨rfl, rfl, rfl⟩ := e
    exact k M2 rm
  · obtain ⟨rfl, rfl, rfl⟩ := e
    exact k M2 rm
