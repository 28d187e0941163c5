/-! the reference: runs one after another -/
def exX (A A' : RA) (n : Nat) (o : Oc) : Prop := A' 20 = upd (A 20) n o.1 ∧ A' 1 = o.2.1 ∧ A' 2 = o.2.2.1 ∧ A' 21 = upd (A 21) n o.2.2.2.1 ∧ (∀ k, k < ix o.2.2.2.1 → A' 22 (4 * n + k) = o.2.2.2.2 k) ∧ (∀ j, ¬ (4 * n ≤ j ∧ j < 4 * n + 4) → A' 22 j = A 22 j) ∧ (∀ j, 6 ≤ j → A' 32 j = 0) ∧ (∀ k, k ≠ 1 → k ≠ 2 → k ≠ 5 → k ≠ 6 → k ≠ 20 → k ≠ 21 → k ≠ 22 → k ≠ 32 → A' k = A k) ∧ b01 (A' 1) ∧ ∀ j, 40 ≤ j → A' 1 j = A 1 j ∧ A' 2 j = A 2 j
theorem ex_hi {mu P q : Int32} {sn : Nat} {so sx sy sz : Fn} {a b c : Int32} {T H w : Fn} : ∀ j, 40 ≤ j → (ex mu P q sn so sx sy sz a b c T H w).2.1 j = T j ∧ (ex mu P q sn so sx sy sz a b c T H w).2.2.1 j = H j := by
  have hb := rn_hi (mu := mu) (P := P) (q := q) (sn := sn) (so := so) (sx := sx) (sy := sy) (sz := sz) 9 0 (g0 a b c) T H 0 w
  unfold ex
  generalize rn mu P q sn so sx sy sz 9 0 (g0 a b c) T H 0 w = r at hb ⊢
  obtain ⟨fa, T1, H1, o, w1⟩ := r
  dsimp only at hb ⊢
  intro j hj
  split
  · exact hb j hj
  · exact ⟨rfl, rfl⟩
section REP
variable {P l d c u : Nat} {ic ml : Nat → Bool} {hm : Nat → Nat} {xo : Nat → DB → Oc} {dn : Nat → Bool} {cm : Nat → Nat → Bool} {A : RA} {F : RF}
theorem f_run {Q : RA → RF → Prop} {n : Nat} (hF : F 0 = nI P) (hP : 1 ≤ P ∧ P ≤ 4) (hC : RC P l ic ml hm xo A F) (h1 : 1 ≤ n) (hn : n ≤ l) (hl : l ≤ 513) (hic : ic n = true) (hb : b01 (A 1)) (hz : ∀ j, 6 ≤ j → A 32 j = 0) (k : ∀ A', exX A A' n (xo n (A 1, A 2)) → Q A' F) : fw_M_execute Q (nI n) A F := by
  obtain ⟨p, sn, e1, e2, e3, e4, e5, e6⟩ := (hC n h1 hn).2 hic
  refine f_exec (p := p) (sn := sn) (by omega) (by rw [hF]; exact nI_ne0 (by omega) (by omega)) e2.1 e1 hb hz (fun A' r => k A' ?_)
  obtain ⟨fa, T', H', o', w', w2', x1, x2, x3, j, hj, x4⟩ := ex_w (mu := mu A n) (P := F 0) (q := pq A F n) (sn := sn) (so := pso A p) (sx := psx A p) (sy := psy A p) (sz := psz A p) (a := A 17 (3 * n)) (b := A 17 (3 * n + 1)) (c := A 17 (3 * n + 2)) (T := A 1) (H := A 2) (wv A n) z0
  have hhi := ex_hi (mu := mu A n) (P := F 0) (q := pq A F n) (sn := sn) (so := pso A p) (sx := psx A p) (sy := psy A p) (sz := psz A p) (a := A 17 (3 * n)) (b := A 17 (3 * n + 1)) (c := A 17 (3 * n + 2)) (T := A 1) (H := A 2) (w := wv A n)
  have hbb := ex_b (mu := mu A n) (P := F 0) (q := pq A F n) (sn := sn) (so := pso A p) (sx := psx A p) (sy := psy A p) (sz := psz A p) (a := A 17 (3 * n)) (b := A 17 (3 * n + 1)) (c := A 17 (3 * n + 2)) (H := A 2) (w := wv A n) hb
  have ex : xo n (A 1, A 2) = (fa, T', H', o', w2') := by rw [← e6]; exact x2
  unfold exn at r
  rw [x1] at r hhi hbb
  rw [ex]
  obtain ⟨r1, r2, r3, r4, r5, r6, r7, r8⟩ := r
  dsimp only at r1 r2 r3 r4 r5 hhi hbb
  refine ⟨r1, r2, r3, r4, fun k hk => ?_, r6, r7, r8, by rw [r2]; exact hbb, fun j hj => by rw [r2, r3]; exact hhi j hj⟩
  have := congrFun r5 k
  exact this.trans (x3 k hk)
theorem RC_ext {A' : RA} {F' : RF} (hC : RC P l ic ml hm xo A F) (h : ∀ k, 7 ≤ k → k ≤ 17 → A' k = A k) (hF : F' 0 = F 0) : RC P l ic ml hm xo A' F' := by
  intro n h1 h2
  refine ⟨fun c => by rw [h 16 (by decide) (by decide)]; exact (hC n h1 h2).1 c, fun c => ?_⟩
  obtain ⟨p, sn, e1, e2, e3, e4, e5, e6⟩ := (hC n h1 h2).2 c
  refine ⟨p, sn, by rw [h 16 (by decide) (by decide)]; exact e1, ?_, by rw [h 8 (by decide) (by decide)]; exact e3, by rw [h 17 (by decide) (by decide)]; exact e4, e5, fun s => ?_⟩
  · unfold okP
    rw [h 7 (by decide) (by decide), h 9 (by decide) (by decide), h 10 (by decide) (by decide), h 11 (by decide) (by decide), h 12 (by decide) (by decide), h 13 (by decide) (by decide)]
    exact e2
  · have := e6 s
    unfold exn mu pq pso psx psy psz at this ⊢
    rw [h 8 (by decide) (by decide), h 16 (by decide) (by decide), h 17 (by decide) (by decide), h 10 (by decide) (by decide), h 11 (by decide) (by decide), h 12 (by decide) (by decide), h 13 (by decide) (by decide), hF]
    exact this
theorem RC_le {l' : Nat} (hC : RC P l ic ml hm xo A F) (h : l' ≤ l) : RC P l' ic ml hm xo A F := fun n a b => hC n a (by omega)
def XO (l : Nat) (ic : Nat → Bool) (xo : Nat → DB → Oc) : Prop := ∀ n, 1 ≤ n → n ≤ l → ic n = true → ∀ s, ∃ j : Nat, j ≤ 4 ∧ (xo n s).2.2.2.1 = nI j
theorem RC_o (hC : RC P l ic ml hm xo A F) : XO l ic xo := fun n h1 h2 c s => by
  obtain ⟨p, sn, e1, e2, e3, e4, e5, e6⟩ := (hC n h1 h2).2 c
  obtain ⟨fa, T', H', o', w', w2', x1, x2, x3, j, hj, x4⟩ := ex_w (mu := mu A n) (P := F 0) (q := pq A F n) (sn := sn) (so := pso A p) (sx := psx A p) (sy := psy A p) (sz := psz A p) (a := A 17 (3 * n)) (b := A 17 (3 * n + 1)) (c := A 17 (3 * n + 2)) (T := s.1) (H := s.2) z0 z0
  rw [← e6 s]
  unfold exn
  rw [x1]
  exact ⟨j, hj, x4⟩
/-- the loop over the numbers above c: those of p below x have run -/
def LI (xo : Nat → DB → Oc) (p : Nat → Bool) (c : Nat) (s0 : DB) (A A1 : RA) (x : Nat) : Prop :=
  A1 1 = (fo (xd xo) p c s0 (x - 1 - c)).1 ∧ A1 2 = (fo (xd xo) p c s0 (x - 1 - c)).2 ∧ b01 (A1 1) ∧ (∀ j, 40 ≤ j → A1 1 j = s0.1 j ∧ A1 2 j = s0.2 j) ∧ (∀ j, 6 ≤ j → A1 32 j = 0) ∧
  (∀ n, c < n → n < x → p n = true → ocm xo n (fo (xd xo) p c s0 (n - 1 - c)) (A1 20) (A1 21) (A1 22)) ∧
  (∀ n, ¬ (c < n ∧ n < x ∧ p n = true) → A1 20 n = A 20 n ∧ A1 21 n = A 21 n ∧ ∀ k, k < 4 → A1 22 (4 * n + k) = A 22 (4 * n + k)) ∧
  ∀ k, k ≠ 1 → k ≠ 2 → k ≠ 5 → k ≠ 6 → k ≠ 20 → k ≠ 21 → k ≠ 22 → k ≠ 32 → A1 k = A k
theorem LI_skip {p : Nat → Bool} {s0 : DB} {A1 : RA} {x : Nat} (h : LI xo p c s0 A A1 x) (hx : c < x) (hp : p x = false) : LI xo p c s0 A A1 (x + 1) := by
  obtain ⟨a1, a2, a3, a4, a5, a6, a7, a8⟩ := h
  have e : fo (xd xo) p c s0 (x + 1 - 1 - c) = fo (xd xo) p c s0 (x - 1 - c) := by
    rw [show x + 1 - 1 - c = x - 1 - c + 1 by omega]
    show (if p (c + (x - 1 - c) + 1) = true then _ else _) = _
    rw [show c + (x - 1 - c) + 1 = x by omega, hp]
    rfl
  refine ⟨by rw [e]; exact a1, by rw [e]; exact a2, a3, a4, a5, fun n g1 g2 g3 => ?_, fun n g => a7 n (fun z => g ⟨z.1, by omega, z.2.2⟩), a8⟩
  have : n ≠ x := fun z => by rw [z, hp] at g3; exact absurd g3 (by decide)
  exact a6 n g1 (by omega) g3
theorem LI_run {p : Nat → Bool} {s0 : DB} {A1 A2 : RA} {x : Nat} (hO : ∀ n, c < n → n ≤ x → p n = true → ∀ s, ∃ j : Nat, j ≤ 4 ∧ (xo n s).2.2.2.1 = nI j) (h : LI xo p c s0 A A1 x) (hx : c < x) (hp : p x = true) (hX : exX A1 A2 x (xo x (A1 1, A1 2))) : LI xo p c s0 A A2 (x + 1) := by
  obtain ⟨a1, a2, a3, a4, a5, a6, a7, a8⟩ := h
  obtain ⟨b1, b2, b3, b4, b5, b6, b7, b8, b9, b10⟩ := hX
  have es : (A1 1, A1 2) = fo (xd xo) p c s0 (x - 1 - c) := Prod.ext a1 a2
  have e : fo (xd xo) p c s0 (x + 1 - 1 - c) = xd xo x (A1 1, A1 2) := by
    rw [es, show x + 1 - 1 - c = x - 1 - c + 1 by omega]
    show (if p (c + (x - 1 - c) + 1) = true then _ else _) = _
    rw [show c + (x - 1 - c) + 1 = x by omega, hp]
    rfl
  refine ⟨by rw [e]; exact b2, by rw [e]; exact b3, b9, fun j hj => ⟨(b10 j hj).1.trans (a4 j hj).1, (b10 j hj).2.trans (a4 j hj).2⟩, b7, fun n g1 g2 g3 => ?_, fun n g => ?_, fun k c1 c2 c3 c4 c5 c6 c7 c8 => (b8 k c1 c2 c3 c4 c5 c6 c7 c8).trans (a8 k c1 c2 c3 c4 c5 c6 c7 c8)⟩
  · by_cases en : n = x
    · subst en
      refine ⟨?_, ?_, fun k hk => ?_⟩
      · rw [b1, upd_s, es]
      · rw [b4, upd_s, es]
      · rw [b4, upd_s] at hk
        rw [b5 k hk, es]
    · obtain ⟨o1, o2, o3⟩ := a6 n g1 (by omega) g3
      refine ⟨by rw [b1, upd_n en]; exact o1, by rw [b4, upd_n en]; exact o2, fun k hk => ?_⟩
      rw [b4, upd_n en] at hk
      have h4 : k < 4 := by
        obtain ⟨j, hj, ej⟩ := hO n g1 (by omega) g3 (fo (xd xo) p c s0 (n - 1 - c))
        rw [o2, ej, ix_nI (by omega)] at hk
        omega
      rw [b6 _ (by omega)]
      exact o3 k hk
  · have en : n ≠ x := fun z => g ⟨by omega, by omega, by rw [z]; exact hp⟩
    obtain ⟨o1, o2, o3⟩ := a7 n (fun z => g ⟨z.1, by omega, z.2.2⟩)
    refine ⟨by rw [b1, upd_n en]; exact o1, by rw [b4, upd_n en]; exact o2, fun k hk => ?_⟩
    rw [b6 _ (by omega)]
    exact o3 k hk
theorem f_replay {Q : RA → RF → Prop} {m : Nat} {base : DB} (hF : F 0 = nI P) (hc : F 24 = nI c) (hP : 1 ≤ P ∧ P ≤ 4) (hC : RC P l ic ml hm xo A F) (hcm : c ≤ m) (hml : m ≤ l) (hl : l ≤ 513) (h3 : A 3 = base.1) (h4 : A 4 = base.2) (hb3 : b01 (A 3)) (hhi : ∀ j, 40 ≤ j → A 1 j = A 3 j ∧ A 2 j = A 4 j) (hz : ∀ j, 6 ≤ j → A 32 j = 0)
    (k : ∀ A', LI xo ic c base A A' (m + 1) → Q A' F) : fw_M_replay Q (nI m) A F := by
  unfold fw_M_replay
  refine f_base (fun j _ => hb3 j) ?_
  rw [cpf_eq (fun j hj => rfl) (fun j hj => (hhi j hj).1), cpf_eq (fun j hj => rfl) (fun j hj => (hhi j hj).2), hc, nI_1]
  have key : ∀ t x A1, x + t = m + 1 → c < x → LI xo ic c base A A1 x → fw_M_replay_45 Q (t + 1) (nI m) (nI x) A1 F := by
    intro t
    induction t with
    | zero =>
      intro x A1 hx hcx hL
      unfold fw_M_replay_45
      refine ⟨fun _ => k A1 (by rw [show m + 1 = x by omega]; exact hL), fun z => absurd (nI_lt (by omega) (by omega)) z⟩
    | succ t ih =>
      intro x A1 hx hcx hL
      have en : (nI x).toNatClampNeg = x := nI_clamp (by omega)
      have hC1 : RC P l ic ml hm xo A1 F := RC_ext hC (fun k g1 g2 => hL.2.2.2.2.2.2.2 k (by omega) (by omega) (by omega) (by omega) (by omega) (by omega) (by omega) (by omega)) rfl
      unfold fw_M_replay_45 fw_M_replay_64
      dsimp only [flI]
      rw [en, nI_1]
      refine ⟨fun z => absurd z (nI_nlt (by omega) (by omega)), fun _ => ⟨vp_in_nI (show x < 514 by omega) (by decide), ?_⟩⟩
      cases hic : ic x with
      | false =>
        rw [(hC1 x (by omega) (by omega)).1 hic]
        exact ⟨fun _ => ih (x + 1) A1 (by omega) (by omega) (LI_skip hL hcx hic), fun z => absurd (by decide : (-1 : Int32) < 0) z⟩
      | true =>
        obtain ⟨p, sn, e1, e2, -⟩ := (hC1 x (by omega) (by omega)).2 hic
        rw [e1]
        refine ⟨fun z => absurd z (nI_pos (by have := e2.1.1; omega)), fun _ => f_run hF hP hC1 (by omega) (by omega) hl hic hL.2.2.1 hL.2.2.2.2.1 (fun A2 hX => ih (x + 1) A2 (by omega) (by omega) (LI_run (fun n g1 g2 g3 s => RC_o hC n (by omega) (by omega) g3 s) hL hcx hic hX))⟩
  refine ⟨m - c + 1, key (m - c) (c + 1) _ (by omega) (by omega) ⟨?_, ?_, ?_, fun j hj => ?_, ?_, fun n g1 g2 g3 => by omega, fun n g => ⟨rfl, rfl, fun _ _ => rfl⟩, fun k g1 g2 g3 g4 g5 g6 g7 g8 => ?_⟩⟩
  · rw [show c + 1 - 1 - c = 0 by omega, upA_n (by decide), upA_s]
    exact h3
  · rw [show c + 1 - 1 - c = 0 by omega, upA_s]
    exact h4
  · rw [upA_n (by decide), upA_s]
    exact hb3
  · rw [upA_n (by decide), upA_s, upA_s, h3, h4]
    exact ⟨rfl, rfl⟩
  · rw [upA_n (by decide), upA_n (by decide)]
    exact hz
  · rw [upA_n g2, upA_n g1]
end REP
