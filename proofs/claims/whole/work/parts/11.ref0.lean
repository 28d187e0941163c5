/-! the reference: its numbers F (by the field's place) and its arrays A (by the field's place); N: all that is not its own -/
abbrev RA : Type := Nat → Nat → Int32
abbrev RF : Type := Nat → Int32
def rf (F : RF) : List AV := [vI (F 0), vR (some (41, 1)), vR (some (41, 2)), vR (some (41, 3)), vR (some (41, 4)), vR (some (41, 5)), vR (some (41, 6)), vR (some (41, 7)), vR (some (41, 8)), vR (some (41, 9)), vR (some (41, 10)), vR (some (41, 11)), vR (some (41, 12)), vR (some (41, 13)), vI (F 14), vI (F 15), vR (some (41, 16)), vR (some (41, 17)), vR (some (41, 18)), vR (some (41, 19)), vR (some (41, 20)), vR (some (41, 21)), vR (some (41, 22)), vI (F 23), vI (F 24), vI (F 25), vR (some (41, 26)), vR (some (41, 27)), vR (some (41, 28)), vR (some (41, 29)), vR (some (41, 30)), vR (some (41, 31)), vR (some (41, 32))]
def rl (k : Nat) : Nat := [0, 40, 40, 40, 40, 40, 40, 6, 7, 7, 56, 56, 56, 56, 0, 0, 514, 1542, 514, 514, 514, 514, 2056, 0, 0, 0, 4, 4, 4, 4, 16, 4, 6].getD k 0
def rt (k : Nat) : Nat := [0, 2, 0, 2, 0, 2, 0, 2, 2, 0, 0, 0, 0, 0, 0, 0, 0, 0, 2, 0, 0, 0, 0, 0, 0, 0, 0, 0, 0, 0, 0, 0, 0].getD k 0
def upA (A : RA) (k : Nat) (g : Nat → Int32) : RA := fun j => if j = k then g else A j
def RM (N : wM) (A : RA) (F : RF) (M : wM) : Prop := M (40, 0) = some (ob 9 (rf F)) ∧ (∀ k, 1 ≤ rl k → M (41, k) = some (ai (rt k) (rl k) (A k))) ∧ ∀ r : Ro, r.1 ≠ 40 → r.1 ≠ 41 → M r = N r
abbrev fpF (F : RF) (k : Nat) (v : Int32) (K : RF → Prop) : Prop := K (upd F k v)
abbrev flI (A : RA) (k : Nat) (x : Int32) (K : Int32 → Prop) : Prop := vp_in x (rl k) ∧ K (A k x.toNatClampNeg)
abbrev fsI (A : RA) (k : Nat) (x v : Int32) (K : RA → Prop) : Prop := vp_in x (rl k) ∧ K (upA A k (upd (A k) x.toNatClampNeg v))
abbrev fsZ (A : RA) (k : Nat) (x v : Int32) (K : RA → Prop) : Prop := vp_in x (rl k) ∧ (v = 0 ∨ v = 1) ∧ K (upA A k (upd (A k) x.toNatClampNeg v))
theorem r_gI {N M : wM} {A : RA} {F : RF} {k : Nat} {K : Int32 → Prop} (h : RM N A F M) (hk : (rf F)[k]? = some (vI (F k))) (kk : K (F k)) : gI M (some (40, 0)) 9 k K := ⟨_, _, _, rfl, h.1, hk, kk⟩
theorem r_gR {N M : wM} {A : RA} {F : RF} {k : Nat} {K : Option Ro → Prop} (h : RM N A F M) (hk : (rf F)[k]? = some (vR (some (41, k)))) (kk : K (some (41, k))) : gR M (some (40, 0)) 9 k K := ⟨_, _, _, rfl, h.1, hk, kk⟩
theorem r_pF {N M : wM} {A : RA} {F : RF} {k : Nat} {v : Int32} {K : wM → Prop} (h : RM N A F M) (hs : (rf F).set k (vI v) = rf (upd F k v)) (kk : ∀ M, RM N A (upd F k v) M → K M) : k < 33 → pF M (some (40, 0)) 9 k (vI v) K := fun hk => by
  refine ⟨_, _, rfl, h.1, hk, kk _ ?_⟩
  rw [hs]
  refine ⟨up_s, fun j hj => ?_, fun r h1 h2 => ?_⟩
  · rw [up_n (fun q => by cases q)]
    exact h.2.1 j hj
  · rw [up_n (fun q => h1 (by rw [q]))]
    exact h.2.2 r h1 h2
theorem r_lI {N M : wM} {A : RA} {F : RF} {k : Nat} {x : Int32} {K : Int32 → Prop} (h : RM N A F M) (hk : rt k = 0) (hl : (1 ≤ rl k) = True) (hx : vp_in x (rl k)) (kk : K (A k x.toNatClampNeg)) : lI M (some (41, k)) x K := ⟨_, _, _, rfl, by rw [h.2.1 k (of_eq_true hl), hk], hx, kk⟩
theorem r_lZ {N M : wM} {A : RA} {F : RF} {k : Nat} {x : Int32} {K : Int32 → Prop} (h : RM N A F M) (hk : rt k = 2) (hl : (1 ≤ rl k) = True) (hx : vp_in x (rl k)) (kk : K (A k x.toNatClampNeg)) : lZ M (some (41, k)) x K := ⟨_, _, _, rfl, by rw [h.2.1 k (of_eq_true hl), hk], hx, kk⟩
theorem RM.set {N M : wM} {A : RA} {F : RF} {k : Nat} {g : Nat → Int32} (h : RM N A F M) : RM N (upA A k g) F (up M (41, k) (ai (rt k) (rl k) g)) := by
  refine ⟨?_, fun j hj => ?_, fun r h1 h2 => ?_⟩
  · rw [up_n (fun q => by cases q)]
    exact h.1
  · by_cases e : j = k
    · subst e
      rw [up_s]
      simp [upA]
    · rw [up_n (fun q => e (by cases q; rfl)), h.2.1 j hj]
      simp [upA, e]
  · rw [up_n (fun q => h2 (by rw [q]))]
    exact h.2.2 r h1 h2
theorem r_sI {N M : wM} {A : RA} {F : RF} {k : Nat} {x v : Int32} {K : wM → Prop} (h : RM N A F M) (hk : rt k = 0) (hl : (1 ≤ rl k) = True) (hx : vp_in x (rl k)) (kk : ∀ M, RM N (upA A k (upd (A k) x.toNatClampNeg v)) F M → K M) : sI M (some (41, k)) x v K := by
  refine ⟨_, _, _, rfl, by rw [h.2.1 k (of_eq_true hl), hk], hx, kk _ ?_⟩
  have := h.set (k := k) (g := upd (A k) x.toNatClampNeg v)
  rw [hk] at this
  exact this
theorem nar_b {v : Int32} (h : v = 0 ∨ v = 1) : vp_nar .boolean v = v := by
  rcases h with rfl | rfl <;> rfl
theorem r_sZ {N M : wM} {A : RA} {F : RF} {k : Nat} {x v : Int32} {K : wM → Prop} (h : RM N A F M) (hk : rt k = 2) (hl : (1 ≤ rl k) = True) (hx : vp_in x (rl k)) (hv : v = 0 ∨ v = 1) (kk : ∀ M, RM N (upA A k (upd (A k) x.toNatClampNeg v)) F M → K M) : sZ M (some (41, k)) x v K := by
  refine ⟨_, _, _, rfl, by rw [h.2.1 k (of_eq_true hl), hk], hx, kk _ ?_⟩
  have := h.set (k := k) (g := upd (A k) x.toNatClampNeg v)
  rw [hk] at this
  rw [nar_b hv]
  exact this
def fw_M_outside_14 (Q : Int32 → Prop) (x0 : Int32) (x1 : Int32) (s0 : Int32) : Prop := (s0 = 0 ∨ s0 = 1) ∧ Q s0
set_option maxRecDepth 100000 in
set_option maxHeartbeats 4000000 in
theorem fs_M_outside_14 {Q : Int32 → Prop} {post : Int32 → wM → Prop} {M : wM} (k : ∀ r, Q r → post r M) {x0 : Int32} {x1 : Int32} {s0 : Int32} (hf : fw_M_outside_14 Q x0 x1 s0) : wp_M_outside_14 post x0 x1 s0 M := by
  unfold fw_M_outside_14 at hf
  unfold wp_M_outside_14
  exact ⟨hf.1, k _ hf.2⟩
def fw_M_outside_9 (Q : Int32 → Prop) (x0 : Int32) (x1 : Int32) : Prop := fw_M_outside_14 Q x0 x1 1
set_option maxRecDepth 100000 in
set_option maxHeartbeats 4000000 in
theorem fs_M_outside_9 {Q : Int32 → Prop} {post : Int32 → wM → Prop} {M : wM} (k : ∀ r, Q r → post r M) {x0 : Int32} {x1 : Int32} (hf : fw_M_outside_9 Q x0 x1) : wp_M_outside_9 post x0 x1 M := by
  unfold fw_M_outside_9 at hf
  unfold wp_M_outside_9
  exact fs_M_outside_14 k hf
def fw_M_outside (Q : Int32 → Prop) (x0 : Int32) (x1 : Int32) : Prop := (x0 < 0 → fw_M_outside_9 Q x0 x1) ∧ (¬ x0 < 0 → (x0 < x1 → fw_M_outside_14 Q x0 x1 0) ∧ (¬ x0 < x1 → fw_M_outside_9 Q x0 x1))
set_option maxRecDepth 100000 in
set_option maxHeartbeats 4000000 in
theorem fs_M_outside {Q : Int32 → Prop} {post : Int32 → wM → Prop} {x0 : Int32} {x1 : Int32} {M : wM} (hf : fw_M_outside Q x0 x1) (k : ∀ r, Q r → post r M) : wp_M_outside post x0 x1 M := by
  unfold fw_M_outside at hf
  unfold wp_M_outside
  refine ⟨fun c => ?_, fun c => ?_⟩
  · have hf := hf.1 c
    exact fs_M_outside_9 k hf
  · have hf := hf.2 c
    refine ⟨fun c => ?_, fun c => ?_⟩
    · have hf := hf.1 c
      exact fs_M_outside_14 k hf
    · have hf := hf.2 c
      exact fs_M_outside_9 k hf
def fw_M_open_18 (Q : Int32 → RA → RF → Prop) (x1 : Int32) (x2 : Int32) (A : RA) (F : RF) : Prop := Q (-1) A F
set_option maxRecDepth 100000 in
set_option maxHeartbeats 4000000 in
theorem fs_M_open_18 {N : wM} {Q : Int32 → RA → RF → Prop} {post : Int32 → wM → Prop} {M : wM} (k : ∀ r A F M, RM N A F M → Q r A F → post r M) {x1 : Int32} {x2 : Int32} {A : RA} {F : RF} (h : RM N A F M) (hf : fw_M_open_18 Q x1 x2 A F) : wp_M_open_18 post (some (40, 0)) x1 x2 M := by
  unfold fw_M_open_18 at hf
  unfold wp_M_open_18
  exact k _ _ _ _ h hf
def fw_M_open (Q : Int32 → RA → RF → Prop) (x1 : Int32) (x2 : Int32) (A : RA) (F : RF) : Prop := fw_M_outside (fun a3 => (¬ a3 = 0 → fw_M_open_18 Q x1 x2 A F) ∧ (a3 = 0 → flI A 7 x1 (fun a14 => (a14 = 0 → fpF F 14 x1 (fun F22 => fsZ A 8 6 x2 (fun A32 => fsI A32 9 6 0 (fun A40 => Q 0 A40 F22)))) ∧ (¬ a14 = 0 → fw_M_open_18 Q x1 x2 A F)))) x1 6
set_option maxRecDepth 100000 in
set_option maxHeartbeats 4000000 in
theorem fs_M_open {N : wM} {Q : Int32 → RA → RF → Prop} {post : Int32 → wM → Prop} {x1 : Int32} {x2 : Int32} {A : RA} {F : RF} {M : wM} (h : RM N A F M) (hf : fw_M_open Q x1 x2 A F) (k : ∀ r A F M, RM N A F M → Q r A F → post r M) : wp_M_open post (some (40, 0)) x1 x2 M := by
  unfold fw_M_open at hf
  unfold wp_M_open
  refine fs_M_outside hf (fun a3 hf => ?_)
  refine ⟨fun c => ?_, fun c => ?_⟩
  · have hf := hf.1 c
    exact fs_M_open_18 k h hf
  · have hf := hf.2 c
    refine r_gR h rfl ?_
    refine r_lZ h rfl (eq_true (by decide)) hf.1 ?_
    have hf := hf.2
    refine ⟨fun c => ?_, fun c => ?_⟩
    · have hf := hf.1 c
      refine r_pF h rfl (fun M h => ?_) (by decide)
      refine r_gR h rfl ?_
      refine r_sZ h rfl (eq_true (by decide)) hf.1 hf.2.1 (fun M h => ?_)
      have hf := hf.2.2
      refine r_gR h rfl ?_
      refine r_sI h rfl (eq_true (by decide)) hf.1 (fun M h => ?_)
      have hf := hf.2
      exact k _ _ _ _ h hf
    · have hf := hf.2 c
      exact fs_M_open_18 k h hf
def fw_M_add_104 (Q : Int32 → RA → RF → Prop) (x1 : Int32) (x2 : Int32) (x3 : Int32) (x4 : Int32) (x5 : Int32) (A : RA) (F : RF) : Prop := flI A 9 6 (fun a110 => (¬ a110 = (8 : Int32) → fsI A 10 (48 + a110) x1 (fun A133 => fsI A133 11 (48 + a110) x2 (fun A144 => fsI A144 12 (48 + a110) x3 (fun A155 => fsI A155 13 (48 + a110) x4 (fun A167 => fsI A167 9 6 (a110 + 1) (fun A178 => Q a110 A178 F)))))) ∧ (a110 = (8 : Int32) → Q (-2) A F))
set_option maxRecDepth 100000 in
set_option maxHeartbeats 4000000 in
theorem fs_M_add_104 {N : wM} {Q : Int32 → RA → RF → Prop} {post : Int32 → wM → Prop} {M : wM} (k : ∀ r A F M, RM N A F M → Q r A F → post r M) {x1 : Int32} {x2 : Int32} {x3 : Int32} {x4 : Int32} {x5 : Int32} {A : RA} {F : RF} (h : RM N A F M) (hf : fw_M_add_104 Q x1 x2 x3 x4 x5 A F) : wp_M_add_104 post (some (40, 0)) x1 x2 x3 x4 x5 M := by
  unfold fw_M_add_104 at hf
  unfold wp_M_add_104
  refine r_gR h rfl ?_
  refine r_lI h rfl (eq_true (by decide)) hf.1 ?_
  have hf := hf.2
  refine ⟨fun c => ?_, fun c => ?_⟩
  · have hf := hf.1 c
    refine r_gR h rfl ?_
    refine r_sI h rfl (eq_true (by decide)) hf.1 (fun M h => ?_)
    have hf := hf.2
    refine r_gR h rfl ?_
    refine r_sI h rfl (eq_true (by decide)) hf.1 (fun M h => ?_)
    have hf := hf.2
    refine r_gR h rfl ?_
    refine r_sI h rfl (eq_true (by decide)) hf.1 (fun M h => ?_)
    have hf := hf.2
    refine r_gR h rfl ?_
    refine r_sI h rfl (eq_true (by decide)) hf.1 (fun M h => ?_)
    have hf := hf.2
    refine r_gR h rfl ?_
    refine r_sI h rfl (eq_true (by decide)) hf.1 (fun M h => ?_)
    have hf := hf.2
    exact k _ _ _ _ h hf
  · have hf := hf.2 c
    exact k _ _ _ _ h hf
def fw_M_add_102 (Q : Int32 → RA → RF → Prop) (x1 : Int32) (x2 : Int32) (x3 : Int32) (x4 : Int32) (x5 : Int32) (A : RA) (F : RF) : Prop := Q (-1) A F
set_option maxRecDepth 100000 in
set_option maxHeartbeats 4000000 in
theorem fs_M_add_102 {N : wM} {Q : Int32 → RA → RF → Prop} {post : Int32 → wM → Prop} {M : wM} (k : ∀ r A F M, RM N A F M → Q r A F → post r M) {x1 : Int32} {x2 : Int32} {x3 : Int32} {x4 : Int32} {x5 : Int32} {A : RA} {F : RF} (h : RM N A F M) (hf : fw_M_add_102 Q x1 x2 x3 x4 x5 A F) : wp_M_add_102 post (some (40, 0)) x1 x2 x3 x4 x5 M := by
  unfold fw_M_add_102 at hf
  unfold wp_M_add_102
  exact k _ _ _ _ h hf
def fw_M_add_85 (Q : Int32 → RA → RF → Prop) (x1 : Int32) (x2 : Int32) (x3 : Int32) (x4 : Int32) (x5 : Int32) (A : RA) (F : RF) : Prop := (¬ x1 = (7 : Int32) → fw_M_add_104 Q x1 x2 x3 x4 x5 A F) ∧ (x1 = (7 : Int32) → (x3 < (1 : Int32) → fw_M_add_102 Q x1 x2 x3 x4 x5 A F) ∧ (¬ x3 < (1 : Int32) → (x3 ≤ (7 : Int32) → fw_M_add_104 Q x1 x2 x3 x4 x5 A F) ∧ (¬ x3 ≤ (7 : Int32) → fw_M_add_102 Q x1 x2 x3 x4 x5 A F)))
set_option maxRecDepth 100000 in
set_option maxHeartbeats 4000000 in
theorem fs_M_add_85 {N : wM} {Q : Int32 → RA → RF → Prop} {post : Int32 → wM → Prop} {M : wM} (k : ∀ r A F M, RM N A F M → Q r A F → post r M) {x1 : Int32} {x2 : Int32} {x3 : Int32} {x4 : Int32} {x5 : Int32} {A : RA} {F : RF} (h : RM N A F M) (hf : fw_M_add_85 Q x1 x2 x3 x4 x5 A F) : wp_M_add_85 post (some (40, 0)) x1 x2 x3 x4 x5 M := by
  unfold fw_M_add_85 at hf
  unfold wp_M_add_85
  refine ⟨fun c => ?_, fun c => ?_⟩
  · have hf := hf.1 c
    exact fs_M_add_104 k h hf
  · have hf := hf.2 c
    refine ⟨fun c => ?_, fun c => ?_⟩
    · have hf := hf.1 c
      exact fs_M_add_102 k h hf
    · have hf := hf.2 c
      refine ⟨fun c => ?_, fun c => ?_⟩
      · have hf := hf.1 c
        exact fs_M_add_104 k h hf
      · have hf := hf.2 c
        exact fs_M_add_102 k h hf
def fw_M_add_70 (Q : Int32 → RA → RF → Prop) (x1 : Int32) (x2 : Int32) (x3 : Int32) (x4 : Int32) (x5 : Int32) (A : RA) (F : RF) : Prop := (¬ x1 = (4 : Int32) → fw_M_add_85 Q x1 x2 x3 x4 x5 A F) ∧ (x1 = (4 : Int32) → fw_M_outside (fun a79 => (¬ a79 = 0 → fw_M_add_102 Q x1 x2 x3 x4 x5 A F) ∧ (a79 = 0 → fw_M_add_85 Q x1 x2 x3 x4 x5 A F)) x4 6)
set_option maxRecDepth 100000 in
set_option maxHeartbeats 4000000 in
theorem fs_M_add_70 {N : wM} {Q : Int32 → RA → RF → Prop} {post : Int32 → wM → Prop} {M : wM} (k : ∀ r A F M, RM N A F M → Q r A F → post r M) {x1 : Int32} {x2 : Int32} {x3 : Int32} {x4 : Int32} {x5 : Int32} {A : RA} {F : RF} (h : RM N A F M) (hf : fw_M_add_70 Q x1 x2 x3 x4 x5 A F) : wp_M_add_70 post (some (40, 0)) x1 x2 x3 x4 x5 M := by
  unfold fw_M_add_70 at hf
  unfold wp_M_add_70
  refine ⟨fun c => ?_, fun c => ?_⟩
  · have hf := hf.1 c
    exact fs_M_add_85 k h hf
  · have hf := hf.2 c
    refine fs_M_outside hf (fun a79 hf => ?_)
    refine ⟨fun c => ?_, fun c => ?_⟩
    · have hf := hf.1 c
      exact fs_M_add_102 k h hf
    · have hf := hf.2 c
      exact fs_M_add_85 k h hf
def fw_M_add_54 (Q : Int32 → RA → RF → Prop) (x1 : Int32) (x2 : Int32) (x3 : Int32) (x4 : Int32) (s0 : Int32) (A : RA) (F : RF) : Prop := (s0 = 0 → fw_M_add_70 Q x1 x2 x3 x4 s0 A F) ∧ (¬ s0 = 0 → fw_M_outside (fun a64 => (¬ a64 = 0 → fw_M_add_102 Q x1 x2 x3 x4 s0 A F) ∧ (a64 = 0 → fw_M_add_70 Q x1 x2 x3 x4 s0 A F)) x3 6)
set_option maxRecDepth 100000 in
set_option maxHeartbeats 4000000 in
theorem fs_M_add_54 {N : wM} {Q : Int32 → RA → RF → Prop} {post : Int32 → wM → Prop} {M : wM} (k : ∀ r A F M, RM N A F M → Q r A F → post r M) {x1 : Int32} {x2 : Int32} {x3 : Int32} {x4 : Int32} {s0 : Int32} {A : RA} {F : RF} (h : RM N A F M) (hf : fw_M_add_54 Q x1 x2 x3 x4 s0 A F) : wp_M_add_54 post (some (40, 0)) x1 x2 x3 x4 s0 M := by
  unfold fw_M_add_54 at hf
  unfold wp_M_add_54
  refine ⟨fun c => ?_, fun c => ?_⟩
  · have hf := hf.1 c
    exact fs_M_add_70 k h hf
  · have hf := hf.2 c
    refine fs_M_outside hf (fun a64 hf => ?_)
    refine ⟨fun c => ?_, fun c => ?_⟩
    · have hf := hf.1 c
      exact fs_M_add_102 k h hf
    · have hf := hf.2 c
      exact fs_M_add_70 k h hf
def fw_M_add_53 (Q : Int32 → RA → RF → Prop) (x1 : Int32) (x2 : Int32) (x3 : Int32) (x4 : Int32) (A : RA) (F : RF) : Prop := fw_M_add_54 Q x1 x2 x3 x4 0 A F
set_option maxRecDepth 100000 in
set_option maxHeartbeats 4000000 in
theorem fs_M_add_53 {N : wM} {Q : Int32 → RA → RF → Prop} {post : Int32 → wM → Prop} {M : wM} (k : ∀ r A F M, RM N A F M → Q r A F → post r M) {x1 : Int32} {x2 : Int32} {x3 : Int32} {x4 : Int32} {A : RA} {F : RF} (h : RM N A F M) (hf : fw_M_add_53 Q x1 x2 x3 x4 A F) : wp_M_add_53 post (some (40, 0)) x1 x2 x3 x4 M := by
  unfold fw_M_add_53 at hf
  unfold wp_M_add_53
  exact fs_M_add_54 k h hf
def fw_M_add_25 (Q : Int32 → RA → RF → Prop) (x1 : Int32) (x2 : Int32) (x3 : Int32) (x4 : Int32) (A : RA) (F : RF) : Prop := Q (-1) A F
set_option maxRecDepth 100000 in
set_option maxHeartbeats 4000000 in
theorem fs_M_add_25 {N : wM} {Q : Int32 → RA → RF → Prop} {post : Int32 → wM → Prop} {M : wM} (k : ∀ r A F M, RM N A F M → Q r A F → post r M) {x1 : Int32} {x2 : Int32} {x3 : Int32} {x4 : Int32} {A : RA} {F : RF} (h : RM N A F M) (hf : fw_M_add_25 Q x1 x2 x3 x4 A F) : wp_M_add_25 post (some (40, 0)) x1 x2 x3 x4 M := by
  unfold fw_M_add_25 at hf
  unfold wp_M_add_25
  exact k _ _ _ _ h hf
def fw_M_add (Q : Int32 → RA → RF → Prop) (x1 : Int32) (x2 : Int32) (x3 : Int32) (x4 : Int32) (A : RA) (F : RF) : Prop := ((F 14) < 0 → fw_M_add_25 Q x1 x2 x3 x4 A F) ∧ (¬ (F 14) < 0 → fw_M_outside (fun a10 => (¬ a10 = 0 → fw_M_add_25 Q x1 x2 x3 x4 A F) ∧ (a10 = 0 → fw_M_outside (fun a19 => (a19 = 0 → (x1 = (3 : Int32) → fw_M_add_53 Q x1 x2 x3 x4 A F) ∧ (¬ x1 = (3 : Int32) → (x1 = (5 : Int32) → fw_M_add_53 Q x1 x2 x3 x4 A F) ∧ (¬ x1 = (5 : Int32) → (x1 = (7 : Int32) → fw_M_add_53 Q x1 x2 x3 x4 A F) ∧ (¬ x1 = (7 : Int32) → (x1 = (10 : Int32) → fw_M_add_53 Q x1 x2 x3 x4 A F) ∧ (¬ x1 = (10 : Int32) → fw_M_add_54 Q x1 x2 x3 x4 1 A F))))) ∧ (¬ a19 = 0 → fw_M_add_25 Q x1 x2 x3 x4 A F)) x2 6)) x1 11)
set_option maxRecDepth 100000 in
set_option maxHeartbeats 4000000 in
theorem fs_M_add {N : wM} {Q : Int32 → RA → RF → Prop} {post : Int32 → wM → Prop} {x1 : Int32} {x2 : Int32} {x3 : Int32} {x4 : Int32} {A : RA} {F : RF} {M : wM} (h : RM N A F M) (hf : fw_M_add Q x1 x2 x3 x4 A F) (k : ∀ r A F M, RM N A F M → Q r A F → post r M) : wp_M_add post (some (40, 0)) x1 x2 x3 x4 M := by
  unfold fw_M_add at hf
  unfold wp_M_add
  refine r_gI h rfl ?_
  refine ⟨fun c => ?_, fun c => ?_⟩
  · have hf := hf.1 c
    exact fs_M_add_25 k h hf
  · have hf := hf.2 c
    refine fs_M_outside hf (fun a10 hf => ?_)
    refine ⟨fun c => ?_, fun c => ?_⟩
    · have hf := hf.1 c
      exact fs_M_add_25 k h hf
    · have hf := hf.2 c
      refine fs_M_outside hf (fun a19 hf => ?_)
      refine ⟨fun c => ?_, fun c => ?_⟩
      · have hf := hf.1 c
        refine ⟨fun c => ?_, fun c => ?_⟩
        · have hf := hf.1 c
          exact fs_M_add_53 k h hf
        · have hf := hf.2 c
          refine ⟨fun c => ?_, fun c => ?_⟩
          · have hf := hf.1 c
            exact fs_M_add_53 k h hf
          · have hf := hf.2 c
            refine ⟨fun c => ?_, fun c => ?_⟩
            · have hf := hf.1 c
              exact fs_M_add_53 k h hf
            · have hf := hf.2 c
              refine ⟨fun c => ?_, fun c => ?_⟩
              · have hf := hf.1 c
                exact fs_M_add_53 k h hf
              · have hf := hf.2 c
                exact fs_M_add_54 k h hf
      · have hf := hf.2 c
        exact fs_M_add_25 k h hf
def fw_M_deploy_125 (Q : Int32 → RA → RF → Prop) : Nat → Int32 → Int32 → Int32 → Int32 → RA → RF → Prop
  | 0, _, _, _, _, _, _ => False
  | n + 1, x1, x2, x3, x4, A, F => (x2 ≤ x4 → fsI A 9 x1 x2 (fun A231 => flI A231 8 6 (fun a243 => fsZ A231 8 x1 a243 (fun A244 => fsZ A244 7 x1 1 (fun A251 => Q 0 A251 F))))) ∧ (¬ x2 ≤ x4 → flI A 10 (48 + x4) (fun a151 => fsI A 10 ((8 * x1) + x4) a151 (fun A152 => flI A152 11 (48 + x4) (fun a173 => fsI A152 11 ((8 * x1) + x4) a173 (fun A174 => flI A174 12 (48 + x4) (fun a195 => fsI A174 12 ((8 * x1) + x4) a195 (fun A196 => flI A196 13 (48 + x4) (fun a217 => fsI A196 13 ((8 * x1) + x4) a217 (fun A218 => fw_M_deploy_125 Q n x1 x2 x3 (x4 + 1) A218 F)))))))))
set_option maxRecDepth 100000 in
set_option maxHeartbeats 4000000 in
theorem fs_M_deploy_125 {N : wM} {Q : Int32 → RA → RF → Prop} {post : Int32 → wM → Prop} (k : ∀ r A F M, RM N A F M → Q r A F → post r M) : ∀ (n : Nat) (x1 : Int32) (x2 : Int32) (x3 : Int32) (x4 : Int32) (A : RA) (F : RF) (M : wM), RM N A F M → fw_M_deploy_125 Q n x1 x2 x3 x4 A F → wp_M_deploy_125 post n (some (40, 0)) x1 x2 x3 x4 M := by
  intro n
  induction n with
  | zero => intro x1 x2 x3 x4 A F M h hf; exact hf.elim
  | succ n ih =>
    intro x1 x2 x3 x4 A F M h hf
    unfold fw_M_deploy_125 at hf
    unfold wp_M_deploy_125
    refine ⟨fun c => ?_, fun c => ?_⟩
    · have hf := hf.1 c
      refine r_gR h rfl ?_
      refine r_sI h rfl (eq_true (by decide)) hf.1 (fun M h => ?_)
      have hf := hf.2
      refine r_gR h rfl ?_
      refine r_gR h rfl ?_
      refine r_lZ h rfl (eq_true (by decide)) hf.1 ?_
      have hf := hf.2
      refine r_sZ h rfl (eq_true (by decide)) hf.1 hf.2.1 (fun M h => ?_)
      have hf := hf.2.2
      refine r_gR h rfl ?_
      refine r_sZ h rfl (eq_true (by decide)) hf.1 hf.2.1 (fun M h => ?_)
      have hf := hf.2.2
      exact k _ _ _ _ h hf
    · have hf := hf.2 c
      refine r_gR h rfl ?_
      refine r_gR h rfl ?_
      refine r_lI h rfl (eq_true (by decide)) hf.1 ?_
      have hf := hf.2
      refine r_sI h rfl (eq_true (by decide)) hf.1 (fun M h => ?_)
      have hf := hf.2
      refine r_gR h rfl ?_
      refine r_gR h rfl ?_
      refine r_lI h rfl (eq_true (by decide)) hf.1 ?_
      have hf := hf.2
      refine r_sI h rfl (eq_true (by decide)) hf.1 (fun M h => ?_)
      have hf := hf.2
      refine r_gR h rfl ?_
      refine r_gR h rfl ?_
      refine r_lI h rfl (eq_true (by decide)) hf.1 ?_
      have hf := hf.2
      refine r_sI h rfl (eq_true (by decide)) hf.1 (fun M h => ?_)
      have hf := hf.2
      refine r_gR h rfl ?_
      refine r_gR h rfl ?_
      refine r_lI h rfl (eq_true (by decide)) hf.1 ?_
      have hf := hf.2
      refine r_sI h rfl (eq_true (by decide)) hf.1 (fun M h => ?_)
      have hf := hf.2
      exact ih _ _ _ _ _ _ _ h hf
def fw_M_deploy_109 (Q : Int32 → RA → RF → Prop) (k40 : Int32 → Int32 → Int32 → Int32 → RA → RF → Prop) (x1 : Int32) (x2 : Int32) (x3 : Int32) (x4 : Int32) (A : RA) (F : RF) : Prop := k40 x1 x2 x3 (x4 + 1) A F
set_option maxRecDepth 100000 in
set_option maxHeartbeats 4000000 in
theorem fs_M_deploy_109 {N : wM} {Q : Int32 → RA → RF → Prop} {post : Int32 → wM → Prop} {M : wM} (k : ∀ r A F M, RM N A F M → Q r A F → post r M) {k40 : Int32 → Int32 → Int32 → Int32 → RA → RF → Prop} {m40 : Option Ro → Int32 → Int32 → Int32 → Int32 → wM → Prop} (hk40 : ∀ (x1 : Int32) (x2 : Int32) (x3 : Int32) (x4 : Int32) (A : RA) (F : RF) (M : wM), RM N A F M → k40 x1 x2 x3 x4 A F → m40 (some (40, 0)) x1 x2 x3 x4 M) {x1 : Int32} {x2 : Int32} {x3 : Int32} {x4 : Int32} {A : RA} {F : RF} (h : RM N A F M) (hf : fw_M_deploy_109 Q k40 x1 x2 x3 x4 A F) : wp_M_deploy_109 post m40 (some (40, 0)) x1 x2 x3 x4 M := by
  unfold fw_M_deploy_109 at hf
  unfold wp_M_deploy_109
  exact hk40 _ _ _ _ _ _ _ h hf
def fw_M_deploy_82 (Q : Int32 → RA → RF → Prop) (k40 : Int32 → Int32 → Int32 → Int32 → RA → RF → Prop) (x1 : Int32) (x2 : Int32) (x3 : Int32) (x4 : Int32) (A : RA) (F : RF) : Prop := flI A 10 (48 + x4) (fun a91 => (¬ a91 = (9 : Int32) → fw_M_deploy_109 Q k40 x1 x2 x3 x4 A F) ∧ (a91 = (9 : Int32) → flI A 8 6 (fun a103 => (¬ a103 = 0 → fw_M_deploy_109 Q k40 x1 x2 x3 x4 A F) ∧ (a103 = 0 → fw_M_deploy_109 Q k40 x1 x2 1 x4 A F))))
set_option maxRecDepth 100000 in
set_option maxHeartbeats 4000000 in
theorem fs_M_deploy_82 {N : wM} {Q : Int32 → RA → RF → Prop} {post : Int32 → wM → Prop} {M : wM} (k : ∀ r A F M, RM N A F M → Q r A F → post r M) {k40 : Int32 → Int32 → Int32 → Int32 → RA → RF → Prop} {m40 : Option Ro → Int32 → Int32 → Int32 → Int32 → wM → Prop} (hk40 : ∀ (x1 : Int32) (x2 : Int32) (x3 : Int32) (x4 : Int32) (A : RA) (F : RF) (M : wM), RM N A F M → k40 x1 x2 x3 x4 A F → m40 (some (40, 0)) x1 x2 x3 x4 M) {x1 : Int32} {x2 : Int32} {x3 : Int32} {x4 : Int32} {A : RA} {F : RF} (h : RM N A F M) (hf : fw_M_deploy_82 Q k40 x1 x2 x3 x4 A F) : wp_M_deploy_82 post m40 (some (40, 0)) x1 x2 x3 x4 M := by
  unfold fw_M_deploy_82 at hf
  unfold wp_M_deploy_82
  refine r_gR h rfl ?_
  refine r_lI h rfl (eq_true (by decide)) hf.1 ?_
  have hf := hf.2
  refine ⟨fun c => ?_, fun c => ?_⟩
  · have hf := hf.1 c
    exact fs_M_deploy_109 k hk40 h hf
  · have hf := hf.2 c
    refine r_gR h rfl ?_
    refine r_lZ h rfl (eq_true (by decide)) hf.1 ?_
    have hf := hf.2
    refine ⟨fun c => ?_, fun c => ?_⟩
    · have hf := hf.1 c
      exact fs_M_deploy_109 k hk40 h hf
    · have hf := hf.2 c
      exact fs_M_deploy_109 k hk40 h hf
def fw_M_deploy_40 (Q : Int32 → RA → RF → Prop) : Nat → Int32 → Int32 → Int32 → Int32 → RA → RF → Prop
  | 0, _, _, _, _, _, _ => False
  | n + 1, x1, x2, x3, x4, A, F => (x2 ≤ x4 → (x3 = 0 → (∃ n, fw_M_deploy_125 Q n x1 x2 x3 0 A F)) ∧ (¬ x3 = 0 → Q (-3) A F)) ∧ (¬ x2 ≤ x4 → flI A 10 (48 + x4) (fun a55 => (¬ a55 = (7 : Int32) → fw_M_deploy_82 Q (fun x1 x2 x3 x4 A F => fw_M_deploy_40 Q n x1 x2 x3 x4 A F) x1 x2 x3 x4 A F) ∧ (a55 = (7 : Int32) → flI A 12 (48 + x4) (fun a70 => (a70 ≤ ((x2 - 1) - x4) → fw_M_deploy_82 Q (fun x1 x2 x3 x4 A F => fw_M_deploy_40 Q n x1 x2 x3 x4 A F) x1 x2 x3 x4 A F) ∧ (¬ a70 ≤ ((x2 - 1) - x4) → fw_M_deploy_82 Q (fun x1 x2 x3 x4 A F => fw_M_deploy_40 Q n x1 x2 x3 x4 A F) x1 x2 1 x4 A F)))))
set_option maxRecDepth 100000 in
set_option maxHeartbeats 4000000 in
theorem fs_M_deploy_40 {N : wM} {Q : Int32 → RA → RF → Prop} {post : Int32 → wM → Prop} (k : ∀ r A F M, RM N A F M → Q r A F → post r M) : ∀ (n : Nat) (x1 : Int32) (x2 : Int32) (x3 : Int32) (x4 : Int32) (A : RA) (F : RF) (M : wM), RM N A F M → fw_M_deploy_40 Q n x1 x2 x3 x4 A F → wp_M_deploy_40 post n (some (40, 0)) x1 x2 x3 x4 M := by
  intro n
  induction n with
  | zero => intro x1 x2 x3 x4 A F M h hf; exact hf.elim
  | succ n ih =>
    intro x1 x2 x3 x4 A F M h hf
    unfold fw_M_deploy_40 at hf
    unfold wp_M_deploy_40
    refine ⟨fun c => ?_, fun c => ?_⟩
    · have hf := hf.1 c
      refine ⟨fun c => ?_, fun c => ?_⟩
      · have hf := hf.1 c
        obtain ⟨n, hf⟩ := hf
        exact ⟨n, fs_M_deploy_125 k n _ _ _ _ _ _ _ h hf⟩
      · have hf := hf.2 c
        exact k _ _ _ _ h hf
    · have hf := hf.2 c
      refine r_gR h rfl ?_
      refine r_lI h rfl (eq_true (by decide)) hf.1 ?_
      have hf := hf.2
      refine ⟨fun c => ?_, fun c => ?_⟩
      · have hf := hf.1 c
        exact fs_M_deploy_82 k ih h hf
      · have hf := hf.2 c
        refine r_gR h rfl ?_
        refine r_lI h rfl (eq_true (by decide)) hf.1 ?_
        have hf := hf.2
        refine ⟨fun c => ?_, fun c => ?_⟩
        · have hf := hf.1 c
          exact fs_M_deploy_82 k ih h hf
        · have hf := hf.2 c
          exact fs_M_deploy_82 k ih h hf
def fw_M_deploy_36 (Q : Int32 → RA → RF → Prop) (x1 : Int32) (x2 : Int32) (s0 : Int32) (A : RA) (F : RF) : Prop := (∃ n, fw_M_deploy_40 Q n x1 x2 s0 0 A F)
set_option maxRecDepth 100000 in
set_option maxHeartbeats 4000000 in
theorem fs_M_deploy_36 {N : wM} {Q : Int32 → RA → RF → Prop} {post : Int32 → wM → Prop} {M : wM} (k : ∀ r A F M, RM N A F M → Q r A F → post r M) {x1 : Int32} {x2 : Int32} {s0 : Int32} {A : RA} {F : RF} (h : RM N A F M) (hf : fw_M_deploy_36 Q x1 x2 s0 A F) : wp_M_deploy_36 post (some (40, 0)) x1 x2 s0 M := by
  unfold fw_M_deploy_36 at hf
  unfold wp_M_deploy_36
  obtain ⟨n, hf⟩ := hf
  exact ⟨n, fs_M_deploy_40 k n _ _ _ _ _ _ _ h hf⟩
def fw_M_deploy (Q : Int32 → RA → RF → Prop)  (A : RA) (F : RF) : Prop := (0 ≤ (F 14) → fpF F 14 (-1) (fun F16 => flI A 9 6 (fun a25 => (¬ a25 = 0 → fw_M_deploy_36 Q (F 14) a25 0 A F16) ∧ (a25 = 0 → fw_M_deploy_36 Q (F 14) a25 1 A F16)))) ∧ (¬ 0 ≤ (F 14) → Q (-1) A F)
set_option maxRecDepth 100000 in
set_option maxHeartbeats 4000000 in
theorem fs_M_deploy {N : wM} {Q : Int32 → RA → RF → Prop} {post : Int32 → wM → Prop}  {A : RA} {F : RF} {M : wM} (h : RM N A F M) (hf : fw_M_deploy Q  A F) (k : ∀ r A F M, RM N A F M → Q r A F → post r M) : wp_M_deploy post (some (40, 0)) M := by
  unfold fw_M_deploy at hf
  unfold wp_M_deploy
  refine r_gI h rfl ?_
  refine ⟨fun c => ?_, fun c => ?_⟩
  · have hf := hf.1 c
    refine r_gI h rfl ?_
    refine r_pF h rfl (fun M h => ?_) (by decide)
    refine r_gR h rfl ?_
    refine r_lI h rfl (eq_true (by decide)) hf.1 ?_
    have hf := hf.2
    refine ⟨fun c => ?_, fun c => ?_⟩
    · have hf := hf.1 c
      exact fs_M_deploy_36 k h hf
    · have hf := hf.2 c
      exact fs_M_deploy_36 k h hf
  · have hf := hf.2 c
    exact k _ _ _ _ h hf
def fw_M_logged_29 (Q : Int32 → RA → RF → Prop) (k9 : Int32 → Int32 → RA → RF → Prop) (x1 : Int32) (x2 : Int32) (A : RA) (F : RF) : Prop := k9 x1 (x2 + 1) A F
set_option maxRecDepth 100000 in
set_option maxHeartbeats 4000000 in
theorem fs_M_logged_29 {N : wM} {Q : Int32 → RA → RF → Prop} {post : Int32 → wM → Prop} {M : wM} (k : ∀ r A F M, RM N A F M → Q r A F → post r M) {k9 : Int32 → Int32 → RA → RF → Prop} {m9 : Option Ro → Int32 → Int32 → wM → Prop} (hk9 : ∀ (x1 : Int32) (x2 : Int32) (A : RA) (F : RF) (M : wM), RM N A F M → k9 x1 x2 A F → m9 (some (40, 0)) x1 x2 M) {x1 : Int32} {x2 : Int32} {A : RA} {F : RF} (h : RM N A F M) (hf : fw_M_logged_29 Q k9 x1 x2 A F) : wp_M_logged_29 post m9 (some (40, 0)) x1 x2 M := by
  unfold fw_M_logged_29 at hf
  unfold wp_M_logged_29
  exact hk9 _ _ _ _ _ h hf
def fw_M_logged_9 (Q : Int32 → RA → RF → Prop) : Nat → Int32 → Int32 → RA → RF → Prop
  | 0, _, _, _, _ => False
  | n + 1, x1, x2, A, F => ((F 15) < x2 → Q x1 A F) ∧ (¬ (F 15) < x2 → flI A 16 x2 (fun a22 => (a22 < 0 → fw_M_logged_29 Q (fun x1 x2 A F => fw_M_logged_9 Q n x1 x2 A F) x1 x2 A F) ∧ (¬ a22 < 0 → fw_M_logged_29 Q (fun x1 x2 A F => fw_M_logged_9 Q n x1 x2 A F) (x1 + 1) x2 A F)))
set_option maxRecDepth 100000 in
set_option maxHeartbeats 4000000 in
theorem fs_M_logged_9 {N : wM} {Q : Int32 → RA → RF → Prop} {post : Int32 → wM → Prop} (k : ∀ r A F M, RM N A F M → Q r A F → post r M) : ∀ (n : Nat) (x1 : Int32) (x2 : Int32) (A : RA) (F : RF) (M : wM), RM N A F M → fw_M_logged_9 Q n x1 x2 A F → wp_M_logged_9 post n (some (40, 0)) x1 x2 M := by
  intro n
  induction n with
  | zero => intro x1 x2 A F M h hf; exact hf.elim
  | succ n ih =>
    intro x1 x2 A F M h hf
    unfold fw_M_logged_9 at hf
    unfold wp_M_logged_9
    refine r_gI h rfl ?_
    refine ⟨fun c => ?_, fun c => ?_⟩
    · have hf := hf.1 c
      exact k _ _ _ _ h hf
    · have hf := hf.2 c
      refine r_gR h rfl ?_
      refine r_lI h rfl (eq_true (by decide)) hf.1 ?_
      have hf := hf.2
      refine ⟨fun c => ?_, fun c => ?_⟩
      · have hf := hf.1 c
        exact fs_M_logged_29 k ih h hf
      · have hf := hf.2 c
        exact fs_M_logged_29 k ih h hf
def fw_M_logged (Q : Int32 → RA → RF → Prop)  (A : RA) (F : RF) : Prop := (∃ n, fw_M_logged_9 Q n 0 ((F 24) + 1) A F)
set_option maxRecDepth 100000 in
set_option maxHeartbeats 4000000 in
theorem fs_M_logged {N : wM} {Q : Int32 → RA → RF → Prop} {post : Int32 → wM → Prop}  {A : RA} {F : RF} {M : wM} (h : RM N A F M) (hf : fw_M_logged Q  A F) (k : ∀ r A F M, RM N A F M → Q r A F → post r M) : wp_M_logged post (some (40, 0)) M := by
  unfold fw_M_logged at hf
  unfold wp_M_logged
  refine r_gI h rfl ?_
  obtain ⟨n, hf⟩ := hf
  exact ⟨n, fs_M_logged_9 k n _ _ _ _ _ h hf⟩
def fw_M_next (Q : Int32 → RA → RF → Prop) (x1 : Int32) (A : RA) (F : RF) : Prop := fpF F 15 ((F 15) + 1) (fun F7 => fsI A 16 (F7 15) x1 (fun A19 => fsZ A19 18 (F7 15) 0 (fun A29 => fsI A29 19 (F7 15) 0 (fun A39 => Q (F7 15) A39 F7))))
set_option maxRecDepth 100000 in
set_option maxHeartbeats 4000000 in
theorem fs_M_next {N : wM} {Q : Int32 → RA → RF → Prop} {post : Int32 → wM → Prop} {x1 : Int32} {A : RA} {F : RF} {M : wM} (h : RM N A F M) (hf : fw_M_next Q x1 A F) (k : ∀ r A F M, RM N A F M → Q r A F → post r M) : wp_M_next post (some (40, 0)) x1 M := by
  unfold fw_M_next at hf
  unfold wp_M_next
  refine r_gI h rfl ?_
  refine r_pF h rfl (fun M h => ?_) (by decide)
  refine r_gR h rfl ?_
  refine r_gI h rfl ?_
  refine r_sI h rfl (eq_true (by decide)) hf.1 (fun M h => ?_)
  have hf := hf.2
  refine r_gR h rfl ?_
  refine r_gI h rfl ?_
  refine r_sZ h rfl (eq_true (by decide)) hf.1 hf.2.1 (fun M h => ?_)
  have hf := hf.2.2
  refine r_gR h rfl ?_
  refine r_gI h rfl ?_
  refine r_sI h rfl (eq_true (by decide)) hf.1 (fun M h => ?_)
  have hf := hf.2
  refine r_gI h rfl ?_
  exact k _ _ _ _ h hf
def fw_M_invoke_36 (Q : Int32 → RA → RF → Prop) (x1 : Int32) (x2 : Int32) (x3 : Int32) (x4 : Int32) (x5 : Int32) (A : RA) (F : RF) : Prop := Q (-1) A F
set_option maxRecDepth 100000 in
set_option maxHeartbeats 4000000 in
theorem fs_M_invoke_36 {N : wM} {Q : Int32 → RA → RF → Prop} {post : Int32 → wM → Prop} {M : wM} (k : ∀ r A F M, RM N A F M → Q r A F → post r M) {x1 : Int32} {x2 : Int32} {x3 : Int32} {x4 : Int32} {x5 : Int32} {A : RA} {F : RF} (h : RM N A F M) (hf : fw_M_invoke_36 Q x1 x2 x3 x4 x5 A F) : wp_M_invoke_36 post (some (40, 0)) x1 x2 x3 x4 x5 M := by
  unfold fw_M_invoke_36 at hf
  unfold wp_M_invoke_36
  exact k _ _ _ _ h hf
def fw_M_invoke (Q : Int32 → RA → RF → Prop) (x1 : Int32) (x2 : Int32) (x3 : Int32) (x4 : Int32) (x5 : Int32) (A : RA) (F : RF) : Prop := fw_M_outside (fun a2 => (¬ a2 = 0 → fw_M_invoke_36 Q x1 x2 x3 x4 x5 A F) ∧ (a2 = 0 → flI A 27 x1 (fun a13 => (a13 = (1 : Int32) → fw_M_invoke_36 Q x1 x2 x3 x4 x5 A F) ∧ (¬ a13 = (1 : Int32) → fw_M_outside (fun a21 => (¬ a21 = 0 → fw_M_invoke_36 Q x1 x2 x3 x4 x5 A F) ∧ (a21 = 0 → flI A 7 x2 (fun a32 => (¬ a32 = 0 → fw_M_logged (fun a39 A39 F39 => (a39 < (48 : Int32) → fw_M_next (fun a52 A52 F52 => fsI A52 17 (3 * a52) x3 (fun A66 => fsI A66 17 ((3 * a52) + 1) x4 (fun A79 => fsI A79 17 ((3 * a52) + 2) x5 (fun A92 => fsI A92 27 x1 1 (fun A99 => fsI A99 28 x1 a52 (fun A107 => Q a52 A107 F52)))))) x2 A39 F39) ∧ (¬ a39 < (48 : Int32) → Q (-2) A39 F39))  A F) ∧ (a32 = 0 → fw_M_invoke_36 Q x1 x2 x3 x4 x5 A F)))) x2 6)))) x1 4
set_option maxRecDepth 100000 in
set_option maxHeartbeats 4000000 in
theorem fs_M_invoke {N : wM} {Q : Int32 → RA → RF → Prop} {post : Int32 → wM → Prop} {x1 : Int32} {x2 : Int32} {x3 : Int32} {x4 : Int32} {x5 : Int32} {A : RA} {F : RF} {M : wM} (h : RM N A F M) (hf : fw_M_invoke Q x1 x2 x3 x4 x5 A F) (k : ∀ r A F M, RM N A F M → Q r A F → post r M) : wp_M_invoke post (some (40, 0)) x1 x2 x3 x4 x5 M := by
  unfold fw_M_invoke at hf
  unfold wp_M_invoke
  refine fs_M_outside hf (fun a2 hf => ?_)
  refine ⟨fun c => ?_, fun c => ?_⟩
  · have hf := hf.1 c
    exact fs_M_invoke_36 k h hf
  · have hf := hf.2 c
    refine r_gR h rfl ?_
    refine r_lI h rfl (eq_true (by decide)) hf.1 ?_
    have hf := hf.2
    refine ⟨fun c => ?_, fun c => ?_⟩
    · have hf := hf.1 c
      exact fs_M_invoke_36 k h hf
    · have hf := hf.2 c
      refine fs_M_outside hf (fun a21 hf => ?_)
      refine ⟨fun c => ?_, fun c => ?_⟩
      · have hf := hf.1 c
        exact fs_M_invoke_36 k h hf
      · have hf := hf.2 c
        refine r_gR h rfl ?_
        refine r_lZ h rfl (eq_true (by decide)) hf.1 ?_
        have hf := hf.2
        refine ⟨fun c => ?_, fun c => ?_⟩
        · have hf := hf.1 c
          refine ⟨⟨_, _, rfl, h.1⟩, ?_⟩
          refine fs_M_logged h hf (fun a39 A39 F39 M h hf => ?_)
          refine ⟨fun c => ?_, fun c => ?_⟩
          · have hf := hf.1 c
            refine ⟨⟨_, _, rfl, h.1⟩, ?_⟩
            refine fs_M_next h hf (fun a52 A52 F52 M h hf => ?_)
            refine r_gR h rfl ?_
            refine r_sI h rfl (eq_true (by decide)) hf.1 (fun M h => ?_)
            have hf := hf.2
            refine r_gR h rfl ?_
            refine r_sI h rfl (eq_true (by decide)) hf.1 (fun M h => ?_)
            have hf := hf.2
            refine r_gR h rfl ?_
            refine r_sI h rfl (eq_true (by decide)) hf.1 (fun M h => ?_)
            have hf := hf.2
            refine r_gR h rfl ?_
            refine r_sI h rfl (eq_true (by decide)) hf.1 (fun M h => ?_)
            have hf := hf.2
            refine r_gR h rfl ?_
            refine r_sI h rfl (eq_true (by decide)) hf.1 (fun M h => ?_)
            have hf := hf.2
            exact k _ _ _ _ h hf
          · have hf := hf.2 c
            exact k _ _ _ _ h hf
        · have hf := hf.2 c
          exact fs_M_invoke_36 k h hf
def fw_M_partitionOf_28 (Q : Int32 → RA → RF → Prop) (x1 : Int32) (x2 : Int32) (s0 : Int32) (A : RA) (F : RF) : Prop := Q s0 A F
set_option maxRecDepth 100000 in
set_option maxHeartbeats 4000000 in
theorem fs_M_partitionOf_28 {N : wM} {Q : Int32 → RA → RF → Prop} {post : Int32 → wM → Prop} {M : wM} (k : ∀ r A F M, RM N A F M → Q r A F → post r M) {x1 : Int32} {x2 : Int32} {s0 : Int32} {A : RA} {F : RF} (h : RM N A F M) (hf : fw_M_partitionOf_28 Q x1 x2 s0 A F) : wp_M_partitionOf_28 post (some (40, 0)) x1 x2 s0 M := by
  unfold fw_M_partitionOf_28 at hf
  unfold wp_M_partitionOf_28
  exact k _ _ _ _ h hf
def fw_M_partitionOf (Q : Int32 → RA → RF → Prop) (x1 : Int32) (A : RA) (F : RF) : Prop := flI A 17 (3 * x1) (fun a7 => (¬ (F 0) = 0) ∧ ((0 ≤ (a7 - a7 / (F 0) * (F 0)) → fw_M_partitionOf_28 Q x1 (a7 - a7 / (F 0) * (F 0)) (a7 - a7 / (F 0) * (F 0)) A F) ∧ (¬ 0 ≤ (a7 - a7 / (F 0) * (F 0)) → fw_M_partitionOf_28 Q x1 (a7 - a7 / (F 0) * (F 0)) ((a7 - a7 / (F 0) * (F 0)) + (F 0)) A F)))
set_option maxRecDepth 100000 in
set_option maxHeartbeats 4000000 in
theorem fs_M_partitionOf {N : wM} {Q : Int32 → RA → RF → Prop} {post : Int32 → wM → Prop} {x1 : Int32} {A : RA} {F : RF} {M : wM} (h : RM N A F M) (hf : fw_M_partitionOf Q x1 A F) (k : ∀ r A F M, RM N A F M → Q r A F → post r M) : wp_M_partitionOf post (some (40, 0)) x1 M := by
  unfold fw_M_partitionOf at hf
  unfold wp_M_partitionOf
  refine r_gR h rfl ?_
  refine r_lI h rfl (eq_true (by decide)) hf.1 ?_
  have hf := hf.2
  refine r_gI h rfl ?_
  refine ⟨hf.1, ?_⟩
  have hf := hf.2
  refine ⟨fun c => ?_, fun c => ?_⟩
  · have hf := hf.1 c
    exact fs_M_partitionOf_28 k h hf
  · have hf := hf.2 c
    refine r_gI h rfl ?_
    exact fs_M_partitionOf_28 k h hf
def fw_M_waits_74 (Q : Int32 → RA → RF → Prop) (x1 : Int32) (x2 : Int32) (s0 : Int32) (A : RA) (F : RF) : Prop := (s0 = 0 ∨ s0 = 1) ∧ Q s0 A F
set_option maxRecDepth 100000 in
set_option maxHeartbeats 4000000 in
theorem fs_M_waits_74 {N : wM} {Q : Int32 → RA → RF → Prop} {post : Int32 → wM → Prop} {M : wM} (k : ∀ r A F M, RM N A F M → Q r A F → post r M) {x1 : Int32} {x2 : Int32} {s0 : Int32} {A : RA} {F : RF} (h : RM N A F M) (hf : fw_M_waits_74 Q x1 x2 s0 A F) : wp_M_waits_74 post (some (40, 0)) x1 x2 s0 M := by
  unfold fw_M_waits_74 at hf
  unfold wp_M_waits_74
  exact ⟨hf.1, k _ _ _ _ h hf.2⟩
def fw_M_waits_73 (Q : Int32 → RA → RF → Prop) (x1 : Int32) (x2 : Int32) (A : RA) (F : RF) : Prop := fw_M_waits_74 Q x1 x2 0 A F
set_option maxRecDepth 100000 in
set_option maxHeartbeats 4000000 in
theorem fs_M_waits_73 {N : wM} {Q : Int32 → RA → RF → Prop} {post : Int32 → wM → Prop} {M : wM} (k : ∀ r A F M, RM N A F M → Q r A F → post r M) {x1 : Int32} {x2 : Int32} {A : RA} {F : RF} (h : RM N A F M) (hf : fw_M_waits_73 Q x1 x2 A F) : wp_M_waits_73 post (some (40, 0)) x1 x2 M := by
  unfold fw_M_waits_73 at hf
  unfold wp_M_waits_73
  exact fs_M_waits_74 k h hf
def fw_M_waits_69 (Q : Int32 → RA → RF → Prop) (x1 : Int32) (x2 : Int32) (A : RA) (F : RF) : Prop := fw_M_waits_74 Q x1 x2 1 A F
set_option maxRecDepth 100000 in
set_option maxHeartbeats 4000000 in
theorem fs_M_waits_69 {N : wM} {Q : Int32 → RA → RF → Prop} {post : Int32 → wM → Prop} {M : wM} (k : ∀ r A F M, RM N A F M → Q r A F → post r M) {x1 : Int32} {x2 : Int32} {A : RA} {F : RF} (h : RM N A F M) (hf : fw_M_waits_69 Q x1 x2 A F) : wp_M_waits_69 post (some (40, 0)) x1 x2 M := by
  unfold fw_M_waits_69 at hf
  unfold wp_M_waits_69
  exact fs_M_waits_74 k h hf
def fw_M_waits_36 (Q : Int32 → RA → RF → Prop) (x1 : Int32) (x2 : Int32) (s0 : Int32) (A : RA) (F : RF) : Prop := (s0 = 0 ∨ s0 = 1) ∧ Q s0 A F
set_option maxRecDepth 100000 in
set_option maxHeartbeats 4000000 in
theorem fs_M_waits_36 {N : wM} {Q : Int32 → RA → RF → Prop} {post : Int32 → wM → Prop} {M : wM} (k : ∀ r A F M, RM N A F M → Q r A F → post r M) {x1 : Int32} {x2 : Int32} {s0 : Int32} {A : RA} {F : RF} (h : RM N A F M) (hf : fw_M_waits_36 Q x1 x2 s0 A F) : wp_M_waits_36 post (some (40, 0)) x1 x2 s0 M := by
  unfold fw_M_waits_36 at hf
  unfold wp_M_waits_36
  exact ⟨hf.1, k _ _ _ _ h hf.2⟩
def fw_M_waits_35 (Q : Int32 → RA → RF → Prop) (x1 : Int32) (x2 : Int32) (A : RA) (F : RF) : Prop := fw_M_waits_36 Q x1 x2 0 A F
set_option maxRecDepth 100000 in
set_option maxHeartbeats 4000000 in
theorem fs_M_waits_35 {N : wM} {Q : Int32 → RA → RF → Prop} {post : Int32 → wM → Prop} {M : wM} (k : ∀ r A F M, RM N A F M → Q r A F → post r M) {x1 : Int32} {x2 : Int32} {A : RA} {F : RF} (h : RM N A F M) (hf : fw_M_waits_35 Q x1 x2 A F) : wp_M_waits_35 post (some (40, 0)) x1 x2 M := by
  unfold fw_M_waits_35 at hf
  unfold wp_M_waits_35
  exact fs_M_waits_36 k h hf
def fw_M_waits (Q : Int32 → RA → RF → Prop) (x1 : Int32) (x2 : Int32) (A : RA) (F : RF) : Prop := flI A 16 x2 (fun a5 => (0 ≤ a5 → flI A 18 x2 (fun a42 => (¬ a42 = 0 → fw_M_waits_73 Q x1 x2 A F) ∧ (a42 = 0 → flI A 16 x2 (fun a55 => flI A 8 a55 (fun a56 => (¬ a56 = 0 → fw_M_waits_69 Q x1 x2 A F) ∧ (a56 = 0 → fw_M_partitionOf (fun a62 A62 F62 => (¬ a62 = x1 → fw_M_waits_73 Q x1 x2 A62 F62) ∧ (a62 = x1 → fw_M_waits_69 Q x1 x2 A62 F62)) x2 A F)))))) ∧ (¬ 0 ≤ a5 → flI A 18 x2 (fun a14 => (¬ a14 = 0 → fw_M_waits_35 Q x1 x2 A F) ∧ (a14 = 0 → flI A 19 x2 (fun a23 => (¬ ((a23 >>> (x1 &&& 31)) &&& 1) = 0 → fw_M_waits_35 Q x1 x2 A F) ∧ (((a23 >>> (x1 &&& 31)) &&& 1) = 0 → fw_M_waits_36 Q x1 x2 1 A F))))))
set_option maxRecDepth 100000 in
set_option maxHeartbeats 4000000 in
theorem fs_M_waits {N : wM} {Q : Int32 → RA → RF → Prop} {post : Int32 → wM → Prop} {x1 : Int32} {x2 : Int32} {A : RA} {F : RF} {M : wM} (h : RM N A F M) (hf : fw_M_waits Q x1 x2 A F) (k : ∀ r A F M, RM N A F M → Q r A F → post r M) : wp_M_waits post (some (40, 0)) x1 x2 M := by
  unfold fw_M_waits at hf
  unfold wp_M_waits
  refine r_gR h rfl ?_
  refine r_lI h rfl (eq_true (by decide)) hf.1 ?_
  have hf := hf.2
  refine ⟨fun c => ?_, fun c => ?_⟩
  · have hf := hf.1 c
    refine r_gR h rfl ?_
    refine r_lZ h rfl (eq_true (by decide)) hf.1 ?_
    have hf := hf.2
    refine ⟨fun c => ?_, fun c => ?_⟩
    · have hf := hf.1 c
      exact fs_M_waits_73 k h hf
    · have hf := hf.2 c
      refine r_gR h rfl ?_
      refine r_gR h rfl ?_
      refine r_lI h rfl (eq_true (by decide)) hf.1 ?_
      have hf := hf.2
      refine r_lZ h rfl (eq_true (by decide)) hf.1 ?_
      have hf := hf.2
      refine ⟨fun c => ?_, fun c => ?_⟩
      · have hf := hf.1 c
        exact fs_M_waits_69 k h hf
      · have hf := hf.2 c
        refine ⟨⟨_, _, rfl, h.1⟩, ?_⟩
        refine fs_M_partitionOf h hf (fun a62 A62 F62 M h hf => ?_)
        refine ⟨fun c => ?_, fun c => ?_⟩
        · have hf := hf.1 c
          exact fs_M_waits_73 k h hf
        · have hf := hf.2 c
          exact fs_M_waits_69 k h hf
  · have hf := hf.2 c
    refine r_gR h rfl ?_
    refine r_lZ h rfl (eq_true (by decide)) hf.1 ?_
    have hf := hf.2
    refine ⟨fun c => ?_, fun c => ?_⟩
    · have hf := hf.1 c
      exact fs_M_waits_35 k h hf
    · have hf := hf.2 c
      refine r_gR h rfl ?_
      refine r_lI h rfl (eq_true (by decide)) hf.1 ?_
      have hf := hf.2
      refine ⟨fun c => ?_, fun c => ?_⟩
      · have hf := hf.1 c
        exact fs_M_waits_35 k h hf
      · have hf := hf.2 c
        exact fs_M_waits_36 k h hf
def fw_M_rowsOf_22 (Q : Int32 → RA → RF → Prop) (k4 : Int32 → Int32 → Int32 → RA → RF → Prop) (x1 : Int32) (x2 : Int32) (x3 : Int32) (A : RA) (F : RF) : Prop := k4 x1 x2 (x3 + (F 0)) A F
set_option maxRecDepth 100000 in
set_option maxHeartbeats 4000000 in
theorem fs_M_rowsOf_22 {N : wM} {Q : Int32 → RA → RF → Prop} {post : Int32 → wM → Prop} {M : wM} (k : ∀ r A F M, RM N A F M → Q r A F → post r M) {k4 : Int32 → Int32 → Int32 → RA → RF → Prop} {m4 : Option Ro → Int32 → Int32 → Int32 → wM → Prop} (hk4 : ∀ (x1 : Int32) (x2 : Int32) (x3 : Int32) (A : RA) (F : RF) (M : wM), RM N A F M → k4 x1 x2 x3 A F → m4 (some (40, 0)) x1 x2 x3 M) {x1 : Int32} {x2 : Int32} {x3 : Int32} {A : RA} {F : RF} (h : RM N A F M) (hf : fw_M_rowsOf_22 Q k4 x1 x2 x3 A F) : wp_M_rowsOf_22 post m4 (some (40, 0)) x1 x2 x3 M := by
  unfold fw_M_rowsOf_22 at hf
  unfold wp_M_rowsOf_22
  refine r_gI h rfl ?_
  exact hk4 _ _ _ _ _ _ h hf
def fw_M_rowsOf_4 (Q : Int32 → RA → RF → Prop) : Nat → Int32 → Int32 → Int32 → RA → RF → Prop
  | 0, _, _, _, _, _ => False
  | n + 1, x1, x2, x3, A, F => ((32 : Int32) ≤ x3 → Q x2 A F) ∧ (¬ (32 : Int32) ≤ x3 → flI A 1 x3 (fun a15 => (a15 = 0 → fw_M_rowsOf_22 Q (fun x1 x2 x3 A F => fw_M_rowsOf_4 Q n x1 x2 x3 A F) x1 x2 x3 A F) ∧ (¬ a15 = 0 → fw_M_rowsOf_22 Q (fun x1 x2 x3 A F => fw_M_rowsOf_4 Q n x1 x2 x3 A F) x1 (x2 + 1) x3 A F)))
set_option maxRecDepth 100000 in
set_option maxHeartbeats 4000000 in
theorem fs_M_rowsOf_4 {N : wM} {Q : Int32 → RA → RF → Prop} {post : Int32 → wM → Prop} (k : ∀ r A F M, RM N A F M → Q r A F → post r M) : ∀ (n : Nat) (x1 : Int32) (x2 : Int32) (x3 : Int32) (A : RA) (F : RF) (M : wM), RM N A F M → fw_M_rowsOf_4 Q n x1 x2 x3 A F → wp_M_rowsOf_4 post n (some (40, 0)) x1 x2 x3 M := by
  intro n
  induction n with
  | zero => intro x1 x2 x3 A F M h hf; exact hf.elim
  | succ n ih =>
    intro x1 x2 x3 A F M h hf
    unfold fw_M_rowsOf_4 at hf
    unfold wp_M_rowsOf_4
    refine ⟨fun c => ?_, fun c => ?_⟩
    · have hf := hf.1 c
      exact k _ _ _ _ h hf
    · have hf := hf.2 c
      refine r_gR h rfl ?_
      refine r_lZ h rfl (eq_true (by decide)) hf.1 ?_
      have hf := hf.2
      refine ⟨fun c => ?_, fun c => ?_⟩
      · have hf := hf.1 c
        exact fs_M_rowsOf_22 k ih h hf
      · have hf := hf.2 c
        exact fs_M_rowsOf_22 k ih h hf
def fw_M_rowsOf (Q : Int32 → RA → RF → Prop) (x1 : Int32) (A : RA) (F : RF) : Prop := (∃ n, fw_M_rowsOf_4 Q n x1 0 x1 A F)
set_option maxRecDepth 100000 in
set_option maxHeartbeats 4000000 in
theorem fs_M_rowsOf {N : wM} {Q : Int32 → RA → RF → Prop} {post : Int32 → wM → Prop} {x1 : Int32} {A : RA} {F : RF} {M : wM} (h : RM N A F M) (hf : fw_M_rowsOf Q x1 A F) (k : ∀ r A F M, RM N A F M → Q r A F → post r M) : wp_M_rowsOf post (some (40, 0)) x1 M := by
  unfold fw_M_rowsOf at hf
  unfold wp_M_rowsOf
  obtain ⟨n, hf⟩ := hf
  exact ⟨n, fs_M_rowsOf_4 k n _ _ _ _ _ _ h hf⟩
def fw_M_foreign_42 (Q : Int32 → RA → RF → Prop) (x1 : Int32) (x2 : Int32) (s0 : Int32) (A : RA) (F : RF) : Prop := (s0 = 0 ∨ s0 = 1) ∧ Q s0 A F
set_option maxRecDepth 100000 in
set_option maxHeartbeats 4000000 in
theorem fs_M_foreign_42 {N : wM} {Q : Int32 → RA → RF → Prop} {post : Int32 → wM → Prop} {M : wM} (k : ∀ r A F M, RM N A F M → Q r A F → post r M) {x1 : Int32} {x2 : Int32} {s0 : Int32} {A : RA} {F : RF} (h : RM N A F M) (hf : fw_M_foreign_42 Q x1 x2 s0 A F) : wp_M_foreign_42 post (some (40, 0)) x1 x2 s0 M := by
  unfold fw_M_foreign_42 at hf
  unfold wp_M_foreign_42
  exact ⟨hf.1, k _ _ _ _ h hf.2⟩
def fw_M_foreign_41 (Q : Int32 → RA → RF → Prop) (x1 : Int32) (x2 : Int32) (A : RA) (F : RF) : Prop := fw_M_foreign_42 Q x1 x2 0 A F
set_option maxRecDepth 100000 in
set_option maxHeartbeats 4000000 in
theorem fs_M_foreign_41 {N : wM} {Q : Int32 → RA → RF → Prop} {post : Int32 → wM → Prop} {M : wM} (k : ∀ r A F M, RM N A F M → Q r A F → post r M) {x1 : Int32} {x2 : Int32} {A : RA} {F : RF} (h : RM N A F M) (hf : fw_M_foreign_41 Q x1 x2 A F) : wp_M_foreign_41 post (some (40, 0)) x1 x2 M := by
  unfold fw_M_foreign_41 at hf
  unfold wp_M_foreign_41
  exact fs_M_foreign_42 k h hf
def fw_M_foreign_37 (Q : Int32 → RA → RF → Prop) (x1 : Int32) (x2 : Int32) (A : RA) (F : RF) : Prop := fw_M_foreign_42 Q x1 x2 1 A F
set_option maxRecDepth 100000 in
set_option maxHeartbeats 4000000 in
theorem fs_M_foreign_37 {N : wM} {Q : Int32 → RA → RF → Prop} {post : Int32 → wM → Prop} {M : wM} (k : ∀ r A F M, RM N A F M → Q r A F → post r M) {x1 : Int32} {x2 : Int32} {A : RA} {F : RF} (h : RM N A F M) (hf : fw_M_foreign_37 Q x1 x2 A F) : wp_M_foreign_37 post (some (40, 0)) x1 x2 M := by
  unfold fw_M_foreign_37 at hf
  unfold wp_M_foreign_37
  exact fs_M_foreign_42 k h hf
def fw_M_foreign (Q : Int32 → RA → RF → Prop) (x1 : Int32) (x2 : Int32) (A : RA) (F : RF) : Prop := fw_M_outside (fun a3 => (¬ a3 = 0 → fw_M_foreign_37 Q x1 x2 A F) ∧ (a3 = 0 → flI A 16 x1 (fun a18 => flI A 8 a18 (fun a19 => (¬ a19 = 0 → fw_M_foreign_41 Q x1 x2 A F) ∧ (a19 = 0 → (¬ (F 0) = 0) ∧ (fw_M_partitionOf (fun a31 A31 F31 => ((x2 - x2 / (F 0) * (F 0)) = a31 → fw_M_foreign_41 Q x1 x2 A31 F31) ∧ (¬ (x2 - x2 / (F 0) * (F 0)) = a31 → fw_M_foreign_37 Q x1 x2 A31 F31)) x1 A F)))))) x2 32
set_option maxRecDepth 100000 in
set_option maxHeartbeats 4000000 in
theorem fs_M_foreign {N : wM} {Q : Int32 → RA → RF → Prop} {post : Int32 → wM → Prop} {x1 : Int32} {x2 : Int32} {A : RA} {F : RF} {M : wM} (h : RM N A F M) (hf : fw_M_foreign Q x1 x2 A F) (k : ∀ r A F M, RM N A F M → Q r A F → post r M) : wp_M_foreign post (some (40, 0)) x1 x2 M := by
  unfold fw_M_foreign at hf
  unfold wp_M_foreign
  refine fs_M_outside hf (fun a3 hf => ?_)
  refine ⟨fun c => ?_, fun c => ?_⟩
  · have hf := hf.1 c
    exact fs_M_foreign_37 k h hf
  · have hf := hf.2 c
    refine r_gR h rfl ?_
    refine r_gR h rfl ?_
    refine r_lI h rfl (eq_true (by decide)) hf.1 ?_
    have hf := hf.2
    refine r_lZ h rfl (eq_true (by decide)) hf.1 ?_
    have hf := hf.2
    refine ⟨fun c => ?_, fun c => ?_⟩
    · have hf := hf.1 c
      exact fs_M_foreign_41 k h hf
    · have hf := hf.2 c
      refine r_gI h rfl ?_
      refine ⟨hf.1, ?_⟩
      have hf := hf.2
      refine ⟨⟨_, _, rfl, h.1⟩, ?_⟩
      refine fs_M_partitionOf h hf (fun a31 A31 F31 M h hf => ?_)
      refine ⟨fun c => ?_, fun c => ?_⟩
      · have hf := hf.1 c
        exact fs_M_foreign_41 k h hf
      · have hf := hf.2 c
        exact fs_M_foreign_37 k h hf
def fw_M_put (Q : Int32 → RA → RF → Prop) (x1 : Int32) (x2 : Int32) (x3 : Int32) (A : RA) (F : RF) : Prop := fsZ A 1 x1 x2 (fun A6 => fsI A6 2 x1 x3 (fun A13 => Q 1 A13 F))
set_option maxRecDepth 100000 in
set_option maxHeartbeats 4000000 in
theorem fs_M_put {N : wM} {Q : Int32 → RA → RF → Prop} {post : Int32 → wM → Prop} {x1 : Int32} {x2 : Int32} {x3 : Int32} {A : RA} {F : RF} {M : wM} (h : RM N A F M) (hf : fw_M_put Q x1 x2 x3 A F) (k : ∀ r A F M, RM N A F M → Q r A F → post r M) : wp_M_put post (some (40, 0)) x1 x2 x3 M := by
  unfold fw_M_put at hf
  unfold wp_M_put
  refine r_gR h rfl ?_
  refine r_sZ h rfl (eq_true (by decide)) hf.1 hf.2.1 (fun M h => ?_)
  have hf := hf.2.2
  refine r_gR h rfl ?_
  refine r_sI h rfl (eq_true (by decide)) hf.1 (fun M h => ?_)
  have hf := hf.2
  exact k _ _ _ _ h hf
def fw_M_statement_394 (Q : Int32 → RA → RF → Prop) (x1 : Int32) (x2 : Int32) (x3 : Int32) (x4 : Int32) (s0 : Int32) (A : RA) (F : RF) : Prop := (s0 = 0 ∨ s0 = 1) ∧ Q s0 A F
set_option maxRecDepth 100000 in
set_option maxHeartbeats 4000000 in
theorem fs_M_statement_394 {N : wM} {Q : Int32 → RA → RF → Prop} {post : Int32 → wM → Prop} {M : wM} (k : ∀ r A F M, RM N A F M → Q r A F → post r M) {x1 : Int32} {x2 : Int32} {x3 : Int32} {x4 : Int32} {s0 : Int32} {A : RA} {F : RF} (h : RM N A F M) (hf : fw_M_statement_394 Q x1 x2 x3 x4 s0 A F) : wp_M_statement_394 post (some (40, 0)) x1 x2 x3 x4 s0 M := by
  unfold fw_M_statement_394 at hf
  unfold wp_M_statement_394
  exact ⟨hf.1, k _ _ _ _ h hf.2⟩
def fw_M_statement_393 (Q : Int32 → RA → RF → Prop) (x1 : Int32) (x2 : Int32) (x3 : Int32) (x4 : Int32) (A : RA) (F : RF) : Prop := fw_M_statement_394 Q x1 x2 x3 x4 0 A F
set_option maxRecDepth 100000 in
set_option maxHeartbeats 4000000 in
theorem fs_M_statement_393 {N : wM} {Q : Int32 → RA → RF → Prop} {post : Int32 → wM → Prop} {M : wM} (k : ∀ r A F M, RM N A F M → Q r A F → post r M) {x1 : Int32} {x2 : Int32} {x3 : Int32} {x4 : Int32} {A : RA} {F : RF} (h : RM N A F M) (hf : fw_M_statement_393 Q x1 x2 x3 x4 A F) : wp_M_statement_393 post (some (40, 0)) x1 x2 x3 x4 M := by
  unfold fw_M_statement_393 at hf
  unfold wp_M_statement_393
  exact fs_M_statement_394 k h hf
def fw_M_statement_330 (Q : Int32 → RA → RF → Prop) (x1 : Int32) (x2 : Int32) (x3 : Int32) (x4 : Int32) (s0 : Int32) (A : RA) (F : RF) : Prop := (s0 = 0 ∨ s0 = 1) ∧ Q s0 A F
set_option maxRecDepth 100000 in
set_option maxHeartbeats 4000000 in
theorem fs_M_statement_330 {N : wM} {Q : Int32 → RA → RF → Prop} {post : Int32 → wM → Prop} {M : wM} (k : ∀ r A F M, RM N A F M → Q r A F → post r M) {x1 : Int32} {x2 : Int32} {x3 : Int32} {x4 : Int32} {s0 : Int32} {A : RA} {F : RF} (h : RM N A F M) (hf : fw_M_statement_330 Q x1 x2 x3 x4 s0 A F) : wp_M_statement_330 post (some (40, 0)) x1 x2 x3 x4 s0 M := by
  unfold fw_M_statement_330 at hf
  unfold wp_M_statement_330
  exact ⟨hf.1, k _ _ _ _ h hf.2⟩
def fw_M_statement_272 (Q : Int32 → RA → RF → Prop) (x1 : Int32) (x2 : Int32) (x3 : Int32) (x4 : Int32) (s0 : Int32) (A : RA) (F : RF) : Prop := (s0 = 0 ∨ s0 = 1) ∧ Q s0 A F
set_option maxRecDepth 100000 in
set_option maxHeartbeats 4000000 in
theorem fs_M_statement_272 {N : wM} {Q : Int32 → RA → RF → Prop} {post : Int32 → wM → Prop} {M : wM} (k : ∀ r A F M, RM N A F M → Q r A F → post r M) {x1 : Int32} {x2 : Int32} {x3 : Int32} {x4 : Int32} {s0 : Int32} {A : RA} {F : RF} (h : RM N A F M) (hf : fw_M_statement_272 Q x1 x2 x3 x4 s0 A F) : wp_M_statement_272 post (some (40, 0)) x1 x2 x3 x4 s0 M := by
  unfold fw_M_statement_272 at hf
  unfold wp_M_statement_272
  exact ⟨hf.1, k _ _ _ _ h hf.2⟩
def fw_M_statement_271 (Q : Int32 → RA → RF → Prop) (x1 : Int32) (x2 : Int32) (x3 : Int32) (x4 : Int32) (A : RA) (F : RF) : Prop := fw_M_statement_272 Q x1 x2 x3 x4 0 A F
set_option maxRecDepth 100000 in
set_option maxHeartbeats 4000000 in
theorem fs_M_statement_271 {N : wM} {Q : Int32 → RA → RF → Prop} {post : Int32 → wM → Prop} {M : wM} (k : ∀ r A F M, RM N A F M → Q r A F → post r M) {x1 : Int32} {x2 : Int32} {x3 : Int32} {x4 : Int32} {A : RA} {F : RF} (h : RM N A F M) (hf : fw_M_statement_271 Q x1 x2 x3 x4 A F) : wp_M_statement_271 post (some (40, 0)) x1 x2 x3 x4 M := by
  unfold fw_M_statement_271 at hf
  unfold wp_M_statement_271
  exact fs_M_statement_272 k h hf
def fw_M_statement_238 (Q : Int32 → RA → RF → Prop) (x1 : Int32) (x2 : Int32) (x3 : Int32) (x4 : Int32) (s0 : Int32) (A : RA) (F : RF) : Prop := (s0 = 0 ∨ s0 = 1) ∧ Q s0 A F
set_option maxRecDepth 100000 in
set_option maxHeartbeats 4000000 in
theorem fs_M_statement_238 {N : wM} {Q : Int32 → RA → RF → Prop} {post : Int32 → wM → Prop} {M : wM} (k : ∀ r A F M, RM N A F M → Q r A F → post r M) {x1 : Int32} {x2 : Int32} {x3 : Int32} {x4 : Int32} {s0 : Int32} {A : RA} {F : RF} (h : RM N A F M) (hf : fw_M_statement_238 Q x1 x2 x3 x4 s0 A F) : wp_M_statement_238 post (some (40, 0)) x1 x2 x3 x4 s0 M := by
  unfold fw_M_statement_238 at hf
  unfold wp_M_statement_238
  exact ⟨hf.1, k _ _ _ _ h hf.2⟩
def fw_M_statement_237 (Q : Int32 → RA → RF → Prop) (x1 : Int32) (x2 : Int32) (x3 : Int32) (x4 : Int32) (A : RA) (F : RF) : Prop := fw_M_statement_238 Q x1 x2 x3 x4 0 A F
set_option maxRecDepth 100000 in
set_option maxHeartbeats 4000000 in
theorem fs_M_statement_237 {N : wM} {Q : Int32 → RA → RF → Prop} {post : Int32 → wM → Prop} {M : wM} (k : ∀ r A F M, RM N A F M → Q r A F → post r M) {x1 : Int32} {x2 : Int32} {x3 : Int32} {x4 : Int32} {A : RA} {F : RF} (h : RM N A F M) (hf : fw_M_statement_237 Q x1 x2 x3 x4 A F) : wp_M_statement_237 post (some (40, 0)) x1 x2 x3 x4 M := by
  unfold fw_M_statement_237 at hf
  unfold wp_M_statement_237
  exact fs_M_statement_238 k h hf
def fw_M_statement_203 (Q : Int32 → RA → RF → Prop) (x1 : Int32) (x2 : Int32) (x3 : Int32) (x4 : Int32) (s0 : Int32) (A : RA) (F : RF) : Prop := (s0 = 0 ∨ s0 = 1) ∧ Q s0 A F
set_option maxRecDepth 100000 in
set_option maxHeartbeats 4000000 in
theorem fs_M_statement_203 {N : wM} {Q : Int32 → RA → RF → Prop} {post : Int32 → wM → Prop} {M : wM} (k : ∀ r A F M, RM N A F M → Q r A F → post r M) {x1 : Int32} {x2 : Int32} {x3 : Int32} {x4 : Int32} {s0 : Int32} {A : RA} {F : RF} (h : RM N A F M) (hf : fw_M_statement_203 Q x1 x2 x3 x4 s0 A F) : wp_M_statement_203 post (some (40, 0)) x1 x2 x3 x4 s0 M := by
  unfold fw_M_statement_203 at hf
  unfold wp_M_statement_203
  exact ⟨hf.1, k _ _ _ _ h hf.2⟩
def fw_M_statement_202 (Q : Int32 → RA → RF → Prop) (x1 : Int32) (x2 : Int32) (x3 : Int32) (x4 : Int32) (A : RA) (F : RF) : Prop := fw_M_statement_203 Q x1 x2 x3 x4 0 A F
set_option maxRecDepth 100000 in
set_option maxHeartbeats 4000000 in
theorem fs_M_statement_202 {N : wM} {Q : Int32 → RA → RF → Prop} {post : Int32 → wM → Prop} {M : wM} (k : ∀ r A F M, RM N A F M → Q r A F → post r M) {x1 : Int32} {x2 : Int32} {x3 : Int32} {x4 : Int32} {A : RA} {F : RF} (h : RM N A F M) (hf : fw_M_statement_202 Q x1 x2 x3 x4 A F) : wp_M_statement_202 post (some (40, 0)) x1 x2 x3 x4 M := by
  unfold fw_M_statement_202 at hf
  unfold wp_M_statement_202
  exact fs_M_statement_203 k h hf
def fw_M_statement_156 (Q : Int32 → RA → RF → Prop) (x1 : Int32) (x2 : Int32) (x3 : Int32) (x4 : Int32) (A : RA) (F : RF) : Prop := Q 0 A F
set_option maxRecDepth 100000 in
set_option maxHeartbeats 4000000 in
theorem fs_M_statement_156 {N : wM} {Q : Int32 → RA → RF → Prop} {post : Int32 → wM → Prop} {M : wM} (k : ∀ r A F M, RM N A F M → Q r A F → post r M) {x1 : Int32} {x2 : Int32} {x3 : Int32} {x4 : Int32} {A : RA} {F : RF} (h : RM N A F M) (hf : fw_M_statement_156 Q x1 x2 x3 x4 A F) : wp_M_statement_156 post (some (40, 0)) x1 x2 x3 x4 M := by
  unfold fw_M_statement_156 at hf
  unfold wp_M_statement_156
  exact k _ _ _ _ h hf
def fw_M_statement_69 (Q : Int32 → RA → RF → Prop) (x1 : Int32) (x2 : Int32) (x3 : Int32) (s0 : Int32) (A : RA) (F : RF) : Prop := flI A 10 x2 (fun a76 => (a76 = 0 → fw_M_foreign (fun a140 A140 F140 => (¬ a140 = 0 → fw_M_statement_156 Q x1 x2 x3 s0 A140 F140) ∧ (a140 = 0 → flI A140 1 s0 (fun a152 => (¬ a152 = 0 → flI A140 11 x2 (fun a167 => flI A140 2 s0 (fun a174 => fsI A140 32 a167 a174 (fun A175 => Q 1 A175 F140)))) ∧ (a152 = 0 → fw_M_statement_156 Q x1 x2 x3 s0 A140 F140)))) x1 s0 A F) ∧ (¬ a76 = 0 → (a76 = 1 → fw_M_foreign (fun a181 A181 F181 => (¬ a181 = 0 → fw_M_statement_202 Q x1 x2 x3 s0 A181 F181) ∧ (a181 = 0 → fw_M_put (fun a192 A192 F192 => (a192 = 0 → fw_M_statement_202 Q x1 x2 x3 s0 A192 F192) ∧ (¬ a192 = 0 → fw_M_statement_203 Q x1 x2 x3 s0 1 A192 F192)) x3 1 s0 A181 F181)) x1 x3 A F) ∧ (¬ a76 = 1 → (a76 = 2 → fw_M_foreign (fun a207 A207 F207 => (¬ a207 = 0 → fw_M_statement_237 Q x1 x2 x3 s0 A207 F207) ∧ (a207 = 0 → flI A207 1 x3 (fun a218 => (¬ a218 = 0 → fw_M_statement_237 Q x1 x2 x3 s0 A207 F207) ∧ (a218 = 0 → fw_M_put (fun a227 A227 F227 => (a227 = 0 → fw_M_statement_237 Q x1 x2 x3 s0 A227 F227) ∧ (¬ a227 = 0 → fw_M_statement_238 Q x1 x2 x3 s0 1 A227 F227)) x3 1 s0 A207 F207)))) x1 x3 A F) ∧ (¬ a76 = 2 → (a76 = 3 → fw_M_foreign (fun a242 A242 F242 => (¬ a242 = 0 → fw_M_statement_271 Q x1 x2 x3 s0 A242 F242) ∧ (a242 = 0 → flI A242 1 x3 (fun a253 => (a253 = 0 → fw_M_statement_271 Q x1 x2 x3 s0 A242 F242) ∧ (¬ a253 = 0 → fw_M_put (fun a261 A261 F261 => (a261 = 0 → fw_M_statement_271 Q x1 x2 x3 s0 A261 F261) ∧ (¬ a261 = 0 → fw_M_statement_272 Q x1 x2 x3 s0 1 A261 F261)) x3 0 0 A242 F242)))) x1 x3 A F) ∧ (¬ a76 = 3 → (a76 = 4 → flI A 11 x2 (fun a282 => flI A 13 x2 (fun a294 => flI A 32 a294 (fun a295 => fsI A 32 a282 (s0 + a295) (fun A297 => Q 1 A297 F))))) ∧ (¬ a76 = 4 → (a76 = 5 → flI A 11 x2 (fun a309 => flI A 12 x2 (fun a315 => fsI A 32 a309 a315 (fun A316 => Q 1 A316 F)))) ∧ (¬ a76 = 5 → (a76 = 6 → (x3 < s0 → fw_M_statement_330 Q x1 x2 x3 s0 0 A F) ∧ (¬ x3 < s0 → fw_M_statement_330 Q x1 x2 x3 s0 1 A F)) ∧ (¬ a76 = 6 → (a76 = 7 → Q 1 A F) ∧ (¬ a76 = 7 → (a76 = 8 → fw_M_outside (fun a335 => (a335 = 0 → flI A 11 x2 (fun a352 => flI A 2 (32 + s0) (fun a362 => fsI A 32 a352 a362 (fun A363 => Q 1 A363 F)))) ∧ (¬ a335 = 0 → Q 0 A F)) s0 8) ∧ (¬ a76 = 8 → (a76 = 9 → fw_M_outside (fun a369 => (¬ a369 = 0 → fw_M_statement_393 Q x1 x2 x3 s0 A F) ∧ (a369 = 0 → fw_M_put (fun a383 A383 F383 => (a383 = 0 → fw_M_statement_393 Q x1 x2 x3 s0 A383 F383) ∧ (¬ a383 = 0 → fw_M_statement_394 Q x1 x2 x3 s0 1 A383 F383)) (32 + x3) 1 s0 A F)) x3 8) ∧ (¬ a76 = 9 → (a76 = 10 → flI A 21 x1 (fun a400 => (¬ a400 = (4 : Int32) → flI A 21 x1 (fun a419 => fsI A 22 ((4 * x1) + a419) x3 (fun A422 => flI A422 21 x1 (fun a429 => fsI A422 21 x1 (a429 + 1) (fun A432 => Q 1 A432 F))))) ∧ (a400 = (4 : Int32) → Q 0 A F))) ∧ (¬ a76 = 10 → Q 1 A F))))))))))))
set_option maxRecDepth 100000 in
set_option maxHeartbeats 4000000 in
theorem fs_M_statement_69 {N : wM} {Q : Int32 → RA → RF → Prop} {post : Int32 → wM → Prop} {M : wM} (k : ∀ r A F M, RM N A F M → Q r A F → post r M) {x1 : Int32} {x2 : Int32} {x3 : Int32} {s0 : Int32} {A : RA} {F : RF} (h : RM N A F M) (hf : fw_M_statement_69 Q x1 x2 x3 s0 A F) : wp_M_statement_69 post (some (40, 0)) x1 x2 x3 s0 M := by
  unfold fw_M_statement_69 at hf
  unfold wp_M_statement_69
  refine r_gR h rfl ?_
  refine r_lI h rfl (eq_true (by decide)) hf.1 ?_
  have hf := hf.2
  refine ⟨fun c => ?_, fun c => ?_⟩
  · have hf := hf.1 c
    refine ⟨⟨_, _, rfl, h.1⟩, ?_⟩
    refine fs_M_foreign h hf (fun a140 A140 F140 M h hf => ?_)
    refine ⟨fun c => ?_, fun c => ?_⟩
    · have hf := hf.1 c
      exact fs_M_statement_156 k h hf
    · have hf := hf.2 c
      refine r_gR h rfl ?_
      refine r_lZ h rfl (eq_true (by decide)) hf.1 ?_
      have hf := hf.2
      refine ⟨fun c => ?_, fun c => ?_⟩
      · have hf := hf.1 c
        refine r_gR h rfl ?_
        refine r_gR h rfl ?_
        refine r_lI h rfl (eq_true (by decide)) hf.1 ?_
        have hf := hf.2
        refine r_gR h rfl ?_
        refine r_lI h rfl (eq_true (by decide)) hf.1 ?_
        have hf := hf.2
        refine r_sI h rfl (eq_true (by decide)) hf.1 (fun M h => ?_)
        have hf := hf.2
        exact k _ _ _ _ h hf
      · have hf := hf.2 c
        exact fs_M_statement_156 k h hf
  · have hf := hf.2 c
    refine ⟨fun c => ?_, fun c => ?_⟩
    · have hf := hf.1 c
      refine ⟨⟨_, _, rfl, h.1⟩, ?_⟩
      refine fs_M_foreign h hf (fun a181 A181 F181 M h hf => ?_)
      refine ⟨fun c => ?_, fun c => ?_⟩
      · have hf := hf.1 c
        exact fs_M_statement_202 k h hf
      · have hf := hf.2 c
        refine ⟨⟨_, _, rfl, h.1⟩, ?_⟩
        refine fs_M_put h hf (fun a192 A192 F192 M h hf => ?_)
        refine ⟨fun c => ?_, fun c => ?_⟩
        · have hf := hf.1 c
          exact fs_M_statement_202 k h hf
        · have hf := hf.2 c
          exact fs_M_statement_203 k h hf
    · have hf := hf.2 c
      refine ⟨fun c => ?_, fun c => ?_⟩
      · have hf := hf.1 c
        refine ⟨⟨_, _, rfl, h.1⟩, ?_⟩
        refine fs_M_foreign h hf (fun a207 A207 F207 M h hf => ?_)
        refine ⟨fun c => ?_, fun c => ?_⟩
        · have hf := hf.1 c
          exact fs_M_statement_237 k h hf
        · have hf := hf.2 c
          refine r_gR h rfl ?_
          refine r_lZ h rfl (eq_true (by decide)) hf.1 ?_
          have hf := hf.2
          refine ⟨fun c => ?_, fun c => ?_⟩
          · have hf := hf.1 c
            exact fs_M_statement_237 k h hf
          · have hf := hf.2 c
            refine ⟨⟨_, _, rfl, h.1⟩, ?_⟩
            refine fs_M_put h hf (fun a227 A227 F227 M h hf => ?_)
            refine ⟨fun c => ?_, fun c => ?_⟩
            · have hf := hf.1 c
              exact fs_M_statement_237 k h hf
            · have hf := hf.2 c
              exact fs_M_statement_238 k h hf
      · have hf := hf.2 c
        refine ⟨fun c => ?_, fun c => ?_⟩
        · have hf := hf.1 c
          refine ⟨⟨_, _, rfl, h.1⟩, ?_⟩
          refine fs_M_foreign h hf (fun a242 A242 F242 M h hf => ?_)
          refine ⟨fun c => ?_, fun c => ?_⟩
          · have hf := hf.1 c
            exact fs_M_statement_271 k h hf
          · have hf := hf.2 c
            refine r_gR h rfl ?_
            refine r_lZ h rfl (eq_true (by decide)) hf.1 ?_
            have hf := hf.2
            refine ⟨fun c => ?_, fun c => ?_⟩
            · have hf := hf.1 c
              exact fs_M_statement_271 k h hf
            · have hf := hf.2 c
              refine ⟨⟨_, _, rfl, h.1⟩, ?_⟩
              refine fs_M_put h hf (fun a261 A261 F261 M h hf => ?_)
              refine ⟨fun c => ?_, fun c => ?_⟩
              · have hf := hf.1 c
                exact fs_M_statement_271 k h hf
              · have hf := hf.2 c
                exact fs_M_statement_272 k h hf
        · have hf := hf.2 c
          refine ⟨fun c => ?_, fun c => ?_⟩
          · have hf := hf.1 c
            refine r_gR h rfl ?_
            refine r_gR h rfl ?_
            refine r_lI h rfl (eq_true (by decide)) hf.1 ?_
            have hf := hf.2
            refine r_gR h rfl ?_
            refine r_gR h rfl ?_
            refine r_lI h rfl (eq_true (by decide)) hf.1 ?_
            have hf := hf.2
            refine r_lI h rfl (eq_true (by decide)) hf.1 ?_
            have hf := hf.2
            refine r_sI h rfl (eq_true (by decide)) hf.1 (fun M h => ?_)
            have hf := hf.2
            exact k _ _ _ _ h hf
          · have hf := hf.2 c
            refine ⟨fun c => ?_, fun c => ?_⟩
            · have hf := hf.1 c
              refine r_gR h rfl ?_
              refine r_gR h rfl ?_
              refine r_lI h rfl (eq_true (by decide)) hf.1 ?_
              have hf := hf.2
              refine r_gR h rfl ?_
              refine r_lI h rfl (eq_true (by decide)) hf.1 ?_
              have hf := hf.2
              refine r_sI h rfl (eq_true (by decide)) hf.1 (fun M h => ?_)
              have hf := hf.2
              exact k _ _ _ _ h hf
            · have hf := hf.2 c
              refine ⟨fun c => ?_, fun c => ?_⟩
              · have hf := hf.1 c
                refine ⟨fun c => ?_, fun c => ?_⟩
                · have hf := hf.1 c
                  exact fs_M_statement_330 k h hf
                · have hf := hf.2 c
                  exact fs_M_statement_330 k h hf
              · have hf := hf.2 c
                refine ⟨fun c => ?_, fun c => ?_⟩
                · have hf := hf.1 c
                  exact k _ _ _ _ h hf
                · have hf := hf.2 c
                  refine ⟨fun c => ?_, fun c => ?_⟩
                  · have hf := hf.1 c
                    refine fs_M_outside hf (fun a335 hf => ?_)
                    refine ⟨fun c => ?_, fun c => ?_⟩
                    · have hf := hf.1 c
                      refine r_gR h rfl ?_
                      refine r_gR h rfl ?_
                      refine r_lI h rfl (eq_true (by decide)) hf.1 ?_
                      have hf := hf.2
                      refine r_gR h rfl ?_
                      refine r_lI h rfl (eq_true (by decide)) hf.1 ?_
                      have hf := hf.2
                      refine r_sI h rfl (eq_true (by decide)) hf.1 (fun M h => ?_)
                      have hf := hf.2
                      exact k _ _ _ _ h hf
                    · have hf := hf.2 c
                      exact k _ _ _ _ h hf
                  · have hf := hf.2 c
                    refine ⟨fun c => ?_, fun c => ?_⟩
                    · have hf := hf.1 c
                      refine fs_M_outside hf (fun a369 hf => ?_)
                      refine ⟨fun c => ?_, fun c => ?_⟩
                      · have hf := hf.1 c
                        exact fs_M_statement_393 k h hf
                      · have hf := hf.2 c
                        refine ⟨⟨_, _, rfl, h.1⟩, ?_⟩
                        refine fs_M_put h hf (fun a383 A383 F383 M h hf => ?_)
                        refine ⟨fun c => ?_, fun c => ?_⟩
                        · have hf := hf.1 c
                          exact fs_M_statement_393 k h hf
                        · have hf := hf.2 c
                          exact fs_M_statement_394 k h hf
                    · have hf := hf.2 c
                      refine ⟨fun c => ?_, fun c => ?_⟩
                      · have hf := hf.1 c
                        refine r_gR h rfl ?_
                        refine r_lI h rfl (eq_true (by decide)) hf.1 ?_
                        have hf := hf.2
                        refine ⟨fun c => ?_, fun c => ?_⟩
                        · have hf := hf.1 c
                          refine r_gR h rfl ?_
                          refine r_gR h rfl ?_
                          refine r_lI h rfl (eq_true (by decide)) hf.1 ?_
                          have hf := hf.2
                          refine r_sI h rfl (eq_true (by decide)) hf.1 (fun M h => ?_)
                          have hf := hf.2
                          refine r_gR h rfl ?_
                          refine r_lI h rfl (eq_true (by decide)) hf.1 ?_
                          have hf := hf.2
                          refine r_sI h rfl (eq_true (by decide)) hf.1 (fun M h => ?_)
                          have hf := hf.2
                          exact k _ _ _ _ h hf
                        · have hf := hf.2 c
                          exact k _ _ _ _ h hf
                      · have hf := hf.2 c
                        exact k _ _ _ _ h hf
def fw_M_statement_54 (Q : Int32 → RA → RF → Prop) (x1 : Int32) (x2 : Int32) (x3 : Int32) (A : RA) (F : RF) : Prop := fw_M_statement_69 Q x1 x2 x3 0 A F
set_option maxRecDepth 100000 in
set_option maxHeartbeats 4000000 in
theorem fs_M_statement_54 {N : wM} {Q : Int32 → RA → RF → Prop} {post : Int32 → wM → Prop} {M : wM} (k : ∀ r A F M, RM N A F M → Q r A F → post r M) {x1 : Int32} {x2 : Int32} {x3 : Int32} {A : RA} {F : RF} (h : RM N A F M) (hf : fw_M_statement_54 Q x1 x2 x3 A F) : wp_M_statement_54 post (some (40, 0)) x1 x2 x3 M := by
  unfold fw_M_statement_54 at hf
  unfold wp_M_statement_54
  exact fs_M_statement_69 k h hf
def fw_M_statement (Q : Int32 → RA → RF → Prop) (x1 : Int32) (x2 : Int32) (A : RA) (F : RF) : Prop := flI A 11 x2 (fun a9 => flI A 32 a9 (fun a10 => flI A 10 x2 (fun a17 => (a17 = (3 : Int32) → fw_M_statement_54 Q x1 x2 a10 A F) ∧ (¬ a17 = (3 : Int32) → flI A 10 x2 (fun a27 => (a27 = (5 : Int32) → fw_M_statement_54 Q x1 x2 a10 A F) ∧ (¬ a27 = (5 : Int32) → flI A 10 x2 (fun a37 => (a37 = (7 : Int32) → fw_M_statement_54 Q x1 x2 a10 A F) ∧ (¬ a37 = (7 : Int32) → flI A 10 x2 (fun a48 => (¬ a48 = (10 : Int32) → flI A 12 x2 (fun a67 => flI A 32 a67 (fun a68 => fw_M_statement_69 Q x1 x2 a10 a68 A F))) ∧ (a48 = (10 : Int32) → fw_M_statement_54 Q x1 x2 a10 A F))))))))))
set_option maxRecDepth 100000 in
set_option maxHeartbeats 4000000 in
theorem fs_M_statement {N : wM} {Q : Int32 → RA → RF → Prop} {post : Int32 → wM → Prop} {x1 : Int32} {x2 : Int32} {A : RA} {F : RF} {M : wM} (h : RM N A F M) (hf : fw_M_statement Q x1 x2 A F) (k : ∀ r A F M, RM N A F M → Q r A F → post r M) : wp_M_statement post (some (40, 0)) x1 x2 M := by
  unfold fw_M_statement at hf
  unfold wp_M_statement
  refine r_gR h rfl ?_
  refine r_gR h rfl ?_
  refine r_lI h rfl (eq_true (by decide)) hf.1 ?_
  have hf := hf.2
  refine r_lI h rfl (eq_true (by decide)) hf.1 ?_
  have hf := hf.2
  refine r_gR h rfl ?_
  refine r_lI h rfl (eq_true (by decide)) hf.1 ?_
  have hf := hf.2
  refine ⟨fun c => ?_, fun c => ?_⟩
  · have hf := hf.1 c
    exact fs_M_statement_54 k h hf
  · have hf := hf.2 c
    refine r_gR h rfl ?_
    refine r_lI h rfl (eq_true (by decide)) hf.1 ?_
    have hf := hf.2
    refine ⟨fun c => ?_, fun c => ?_⟩
    · have hf := hf.1 c
      exact fs_M_statement_54 k h hf
    · have hf := hf.2 c
      refine r_gR h rfl ?_
      refine r_lI h rfl (eq_true (by decide)) hf.1 ?_
      have hf := hf.2
      refine ⟨fun c => ?_, fun c => ?_⟩
      · have hf := hf.1 c
        exact fs_M_statement_54 k h hf
      · have hf := hf.2 c
        refine r_gR h rfl ?_
        refine r_lI h rfl (eq_true (by decide)) hf.1 ?_
        have hf := hf.2
        refine ⟨fun c => ?_, fun c => ?_⟩
        · have hf := hf.1 c
          refine r_gR h rfl ?_
          refine r_gR h rfl ?_
          refine r_lI h rfl (eq_true (by decide)) hf.1 ?_
          have hf := hf.2
          refine r_lI h rfl (eq_true (by decide)) hf.1 ?_
          have hf := hf.2
          exact fs_M_statement_69 k h hf
        · have hf := hf.2 c
          exact fs_M_statement_54 k h hf
