theorem run_loop {post : Int32 → wM → Prop} {P hm mul q fl : Int32} {sn pr : Nat} {so sx sy sz : Fn} {xs : List Ro} {M0 : wM} {sB : DB} {x1 : Option Ro} (hP : ¬ P = 0) (hhm : hm = if mul = 0 then q else -1) (hq : ¬ q = -1) (hs8 : sn ≤ 8) (hpr : pr ≤ 5) (hL : Lst pr xs M0) (hxs : xs.length = sn) (hst : ∀ k, k < sn → ∃ j, xs[k]? = some (5, j) ∧ M0 (5, j) = some (ob 5 [vI (so k), vI (sx k), vI (sy k), vI (sz k)])) (hok : ∀ k, k < sn → okS (so k) (sx k) (sy k) (sz k)) :
    ∀ (d i k f : Nat) (g w : Fn) (o : Nat) (s : DB) (M : wM), i + d = sn → i ≤ k → k ≤ 20 → sn ≤ k + f → o ≤ 4 → (∀ j, 6 ≤ j → g j = 0) → Rn P hm g (nI o) w fl M → Tb 0 s M → Tb 1 sB M → offR M0 M →
    (∀ R, R = rn mul P q sn so sx sy sz f k g s.1 s.2 (nI o) w → (∀ M' g', R.1 < 0 → (∀ j, 6 ≤ j → g' j = 0) → Rn P hm g' R.2.2.2.1 R.2.2.2.2 fl M' → Tb 0 (R.2.1, R.2.2.1) M' → Tb 1 sB M' → offR M0 M' → post 1 M') ∧ (∀ M' g', ¬ R.1 < 0 → (∀ j, 6 ≤ j → g' j = 0) → Rn P hm g' 0 R.2.2.2.2 R.1 M' → Tb 0 sB M' → Tb 1 sB M' → offR M0 M' → post 0 M')) →
    wp_R_run_18 post (d + 1) (some (3, 0)) x1 (some (8, pr)) (nI k) (nI i) M := by
  intro d
  induction d with
  | zero =>
    intro i k f g w o s M hi hik hk hf ho hz hR hT hB hof kk
    have hL' : Lst pr xs M := Lst_off hL (hof _ (fun z => by unfold rR at z; dsimp only at z; omega)) (fun w => hof _ (fun z => by unfold rR at z; dsimp only at z; omega))
    obtain ⟨v, mc, ea, h8, -⟩ := id hL'
    unfold wp_R_run_18
    refine k_cV h8 (a_size hL' ⟨fun _ => ?_, fun c => absurd (nI_le (by omega) (by omega)) c⟩)
    have e : rn mul P q sn so sx sy sz f k g s.1 s.2 (nI o) w = (-1, s.1, s.2, nI o, w) := by
      cases f with
      | zero => rfl
      | succ f => exact if_pos (by omega)
    exact (kk _ rfl).1 M g (by rw [e]; exact (by decide : (-1 : Int32) < 0)) hz (by rw [e]; exact hR) (by rw [e]; exact hT) hB hof
  | succ d ih =>
    intro i k f g w o s M hi hik hk hf ho hz hR hT hB hof kk
    have hL' : Lst pr xs M := Lst_off hL (hof _ (fun z => by unfold rR at z; dsimp only at z; omega)) (fun w => hof _ (fun z => by unfold rR at z; dsimp only at z; omega))
    obtain ⟨v, mc, ea, h8, -⟩ := id hL'
    unfold wp_R_run_18
    refine k_cV h8 (a_size hL' ⟨fun c => absurd ((nI_leI (by omega) (by omega)).mp c) (by omega), fun _ => ⟨fun c => ?_, fun c => ?_⟩⟩)
    · have hki : k = i := by
        have := (nI_leI (by omega) (by omega)).mp c
        omega
      subst hki
      obtain ⟨f', rfl⟩ : ∃ f', f = f' + 1 := ⟨f - 1, by omega⟩
      obtain ⟨j, hj, hj5⟩ := hst k (by omega)
      have hM5 : M (5, j) = some (ob 5 [vI (so k), vI (sx k), vI (sy k), vI (sz k)]) := (hof _ (fun z => by unfold rR at z; dsimp only at z; omega)).trans hj5
      have ern : ∀ x, stm mul P q (so k) (sx k) (sy k) (sz k) g s.1 s.2 (nI o) w = x → rn mul P q sn so sx sy sz (f' + 1) k g s.1 s.2 (nI o) w = match x with | none => (nI k, s.1, s.2, nI o, w) | some r => rn mul P q sn so sx sy sz f' (k + 1 + sk (so k) (sy k) (r.1 (ix (sx k)))) r.1 r.2.1 r.2.2.1 r.2.2.2.1 r.2.2.2.2 := by
        intro x e
        subst e
        exact if_neg (by omega)
      refine k_cV h8 (a_get hL' rfl (by omega) ?_)
      rw [hj]
      refine ⟨fun r e => ?_, k_cV hR.1 (q_exe hR hT hM5 (hok k (by omega)) hP hhm hq ⟨o, ho, rfl⟩ (fun e => ⟨fun c => absurd rfl c, fun _ => k_cV hR.1 (q_abort hR hT hB (fun M' a b c d => ?_))⟩) (fun r M' e a b c => ⟨fun _ => ?_, fun c => absurd c ?_⟩))⟩
      · cases e
        exact ⟨_, hM5⟩
      · have e2 := ern _ e
        refine (kk _ rfl).2 M' g ?_ hz ?_ b c (offR_tr hof d)
        · rw [e2]
          exact nI_pos (by omega)
        · rw [e2]
          exact a
      · have e2 := ern _ e
        unfold wp_R_run_73
        have hsk : sk (so k) (sy k) (r.1 (ix (sx k))) ≤ 7 := sk_le (hok k (by omega)).2.2.2.2
        obtain ⟨o', ho', eo⟩ := stm_o e ho
        rw [nI_1, nI_add]
        refine ih (k + 1) (k + 1 + sk (so k) (sy k) (r.1 (ix (sx k)))) f' r.1 r.2.2.2.2 o' (r.2.1, r.2.2.1) M' (by omega) (by omega) ?_ (by omega) ho' (fun j hj => ?_) (by rw [← eo]; exact a) b ?_ (offR_tr hof (offE_R c)) (fun R eR => kk R ?_)
        · omega
        · rw [stm_g e (hok k (by omega)).2.1 j hj]
          exact hz j hj
        · exact Tb_off hB (c _ (fun z => by unfold rE at z; dsimp only at z; omega)) (c _ (fun z => by unfold rE at z; dsimp only at z; omega)) (c _ (fun z => by unfold rE at z; dsimp only at z; omega))
        · rw [e2]
          dsimp only at eR ⊢
          rw [eo]
          exact eR
      · have hsk : sk (so k) (sy k) (r.1 (ix (sx k))) ≤ 7 := sk_le (hok k (by omega)).2.2.2.2
        intro z
        exact nI_pos (n := sk (so k) (sy k) (r.1 (ix (sx k)))) (by omega) (by rw [z]; decide)
    · have hki : i < k := by
        rcases Nat.lt_or_ge i k with g | g
        · exact g
        · exact absurd (nI_le g (by omega)) c
      unfold wp_R_run_73
      rw [nI_1]
      exact ih (i + 1) k f g w o s M (by omega) (by omega) hk hf ho hz hR hT hB hof kk
set_option maxHeartbeats 1000000 in
/-- run(command) -/
theorem q_run {post : Int32 → wM → Prop} {m sn t pr : Nat} {hm o fl mul nu cl a b c dep : Int32} {g w : Fn} {s s1 : DB} {M : wM} {so sx sy sz : Fn} {xs : List Ro} (h1 : 1 ≤ m) (h4 : m ≤ 4) (hR : Rn (nI m) hm g o w fl M) (hz : ∀ j, 6 ≤ j → g j = 0) (hT : Tb 0 s M) (hB : Tb 1 s1 M) (hK : M (7, t) = some (ob 7 [vI nu, vI cl, vR (some (2, pr)), vI a, vI b, vI c])) (hp : M (2, pr) = some (ob 2 [vR (some (8, pr)), vI mul, vI dep])) (hs8 : sn ≤ 8) (hpr : pr ≤ 5) (hL : Lst pr xs M) (hxs : xs.length = sn) (hst : ∀ k, k < sn → ∃ j, xs[k]? = some (5, j) ∧ M (5, j) = some (ob 5 [vI (so k), vI (sx k), vI (sy k), vI (sz k)])) (hok : ∀ k, k < sn → okS (so k) (sx k) (sy k) (sz k))
    (k : ∀ E, E = ex mul (nI m) (pt a (nI m)) sn so sx sy sz a b c s.1 s.2 w → ∀ M' hm' g', (∀ j, 6 ≤ j → g' j = 0) → Rn (nI m) hm' g' E.2.2.2.1 E.2.2.2.2 (if E.1 < 0 then fl else E.1) M' → Tb 0 (E.2.1, E.2.2.1) M' → Tb 1 s M' → offR M M' → post (if E.1 < 0 then 1 else 0) M') : wp_R_run post (some (3, 0)) (some (7, t)) M := by
  unfold wp_R_run
  refine k_cV hR.1 (q_begin h1 h4 hR hz hT hB hK hp (fun M2 r1 r2 r3 r4 => ?_))
  have hK2 : M2 (7, t) = _ := (r4 (7, t) (fun z => by unfold rR at z; dsimp only at z; omega)).trans hK
  have hp2 : M2 (2, pr) = _ := (r4 (2, pr) (fun z => by unfold rR at z; dsimp only at z; omega)).trans hp
  refine k_gR hK2 rfl (k_gR hp2 rfl ⟨sn + 1, ?_⟩)
  have hL' : Lst pr xs M2 := Lst_off hL (r4 _ (fun z => by unfold rR at z; dsimp only at z; omega)) (fun w => r4 _ (fun z => by unfold rR at z; dsimp only at z; omega))
  have hst' : ∀ k, k < sn → ∃ j, xs[k]? = some (5, j) ∧ M2 (5, j) = some (ob 5 [vI (so k), vI (sx k), vI (sy k), vI (sz k)]) := fun k hk => by
    obtain ⟨j, u, v⟩ := hst k hk
    exact ⟨j, u, (r4 _ (fun z => by unfold rR at z; dsimp only at z; omega)).trans v⟩
  have hq : ¬ pt a (nI m) = -1 := fun z => by
    obtain ⟨q, hq, e⟩ := pt_lt (a := a) h1 h4
    rw [e] at z
    exact nI_pos (n := q) (by omega) (by rw [z]; decide)
  refine run_loop (q := pt a (nI m)) (nI_ne0 (by omega) (by omega)) rfl hq hs8 hpr hL' hxs hst' hok sn 0 0 9 (g0 a b c) w 0 s M2 (by omega) (Nat.le_refl _) (by omega) (by omega) (by omega) (fun j hj => ?_) r1 r2 r3 offR_rf (fun R eR => ?_)
  · unfold g0
    rw [if_neg (by omega), if_neg (by omega), if_neg (by omega)]
  · have hE : ex mul (nI m) (pt a (nI m)) sn so sx sy sz a b c s.1 s.2 w = if R.1 < 0 then (R.1, R.2.1, R.2.2.1, R.2.2.2.1, R.2.2.2.2) else (R.1, s.1, s.2, 0, R.2.2.2.2) := by
      unfold ex
      rw [show rn mul (nI m) (pt a (nI m)) sn so sx sy sz 9 0 (g0 a b c) s.1 s.2 0 w = R from eR.symm]
    clear eR
    obtain ⟨fa, T1, H1, o1, w1⟩ := R
    dsimp only at hE ⊢
    refine ⟨fun M' g' c1 gz a1 a2 a3 a4 => ?_, fun M' g' c1 gz a1 a2 a3 a4 => ?_⟩
    · have := k (fa, T1, H1, o1, w1) (by rw [hE]; exact (if_pos c1).symm) M' _ g' gz (by dsimp only; rw [if_pos c1]; exact a1) a2 a3 (offR_tr r4 a4)
      dsimp only at this
      rw [if_pos c1] at this
      exact this
    · have := k (fa, s.1, s.2, 0, w1) (by rw [hE]; exact (if_neg c1).symm) M' _ g' gz (by dsimp only; rw [if_neg c1]; exact a1) a2 a3 (offR_tr r4 a4)
      dsimp only at this
      rw [if_neg c1] at this
      exact this
