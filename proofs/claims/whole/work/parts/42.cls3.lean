/-! the class: the log, tables -/
section LOG
variable {P l d c u : Nat} {dr : Option Nat} {tk : Nat → Nat} {M M' : wM}
def offG (M M' : wM) : Prop := ∀ r : Ro, ¬ dG r → M' r = M r
theorem offG_L (h : offL 20 M M') : offG M M' := fun r hr => h r (fun z => hr (by rw [z]; unfold dG; omega)) (fun z => hr (by unfold dG; omega))
theorem offG_tr {M1 : wM} (h : offG M M1) (g : offG M1 M') : offG M M' := fun r hr => (g r hr).trans (h r hr)
theorem lg_el {qs : List Nat} (hel : ∀ n, n ∈ qs → ∃ fs, M (7, tk n) = some (ob 7 (vI (nI n) :: fs))) : ∀ x, x ∈ tq tk qs → ∃ fs, M x = some (ob 7 fs) ∧ x ≠ (8, 20) ∧ x.1 ≠ 50 + 20 := fun x hx => by
  obtain ⟨n, hn, rfl⟩ := List.mem_map.mp hx
  obtain ⟨fs, h⟩ := hel n hn
  exact ⟨_, h, rne (by decide), by show (7 : Nat) ≠ 50 + 20; decide⟩
/-- drop the numbers up to n at the front -/
theorem g_upTo {post : wM → Prop} {n : Nat} {lg : List Nat} (hS : St P l d c u dr M) (hL : Lst 20 (tq tk lg) M) (hel : ∀ m, m ∈ lg → ∃ fs, M (7, tk m) = some (ob 7 (vI (nI m) :: fs))) (hb : ∀ m, m ∈ lg → m ≤ 1000) (hn : n ≤ 1000) (hlen : lg.length ≤ 512) (k : ∀ M', Lst 20 (tq tk (lg.dropWhile (fun m => decide (m ≤ n)))) M' → offG M M' → post M') : wp_S_dropLogUpTo post (some (0, 0)) (nI n) M := by
  have key : ∀ (lg : List Nat) (M1 : wM), lg.length ≤ 512 → offG M M1 → Lst 20 (tq tk lg) M1 → (∀ m, m ∈ lg → ∃ fs, M1 (7, tk m) = some (ob 7 (vI (nI m) :: fs))) → (∀ m, m ∈ lg → m ≤ 1000) → (∀ M', Lst 20 (tq tk (lg.dropWhile (fun m => decide (m ≤ n)))) M' → offG M M' → post M') → wp_S_dropLogUpTo_8 post (lg.length + 1) (some (0, 0)) (nI n) (nI lg.length) M1 := by
    intro lg
    induction lg with
    | nil =>
      intro M1 _ ho h1 _ _ kk
      unfold wp_S_dropLogUpTo_8 wp_S_dropLogUpTo_45
      exact ⟨fun _ => kk M1 h1 ho, fun z => absurd (show (nI 0 : Int32) ≤ 0 by decide) z⟩
    | cons a t ih =>
      intro M1 hl ho h1 h2 h3 kk
      have hS1 : St P l d c u dr M1 := St_off hS (fun r hr => ho r (fun z => by unfold dO at hr; unfold dG at z; omega))
      obtain ⟨v, mc, ea, h8, -⟩ := id h1
      obtain ⟨fs, hfs⟩ := h2 a List.mem_cons_self
      rw [List.length_cons] at hl ⊢
      unfold wp_S_dropLogUpTo_8 wp_S_dropLogUpTo_45
      refine ⟨fun z => absurd z (nI_nle (by omega) (by omega)), fun _ => k_gR hS1.1 rfl (k_cV h8 (a_get (i := 0) h1 rfl (Nat.succ_pos _) ⟨fun r e => ?_, k_gI hfs rfl ⟨fun z => ?_, fun z => ?_⟩⟩))⟩
      · cases e
        exact ⟨_, hfs⟩
      · have := (nI_ltI (by omega) (by have := h3 a List.mem_cons_self; omega)).mp z
        rw [List.dropWhile_cons, if_neg (by simp; omega)] at kk
        exact kk M1 h1 ho
      · have : a ≤ n := Nat.not_lt.mp fun y => z (nI_lt y (by have := h3 a List.mem_cons_self; omega))
        rw [List.dropWhile_cons, if_pos (by simp; omega)] at kk
        refine k_gR hS1.1 rfl (k_cV h8 (a_remove (i := 0) (ci := 7) (by omega) h1 rfl (Nat.succ_pos _) hca7 (lg_el h2) (fun M2 g1 g2 => ?_)))
        rw [pk_m1]
        have o7 : ∀ t, M2 (7, t) = M1 (7, t) := fun t => g2 _ (rne (by decide)) (by show (7 : Nat) ≠ 50 + 20; decide)
        exact ih M2 (by omega) (offG_tr ho (offG_L g2)) g1 (fun m hm => by rw [o7]; exact h2 m (List.mem_cons_of_mem _ hm)) (fun m hm => h3 m (List.mem_cons_of_mem _ hm)) kk
  obtain ⟨v, mc, ea, h8, -⟩ := id hL
  unfold wp_S_dropLogUpTo
  refine k_gR hS.1 rfl (k_cV h8 (a_size hL ⟨lg.length + 1, ?_⟩))
  rw [List.length_map]
  exact key lg M hlen (fun _ _ => rfl) hL hel hb k
/-- drop the numbers above n at the end -/
theorem g_above {post : wM → Prop} {n : Nat} {lg : List Nat} (hS : St P l d c u dr M) (hL : Lst 20 (tq tk lg) M) (hel : ∀ m, m ∈ lg → ∃ fs, M (7, tk m) = some (ob 7 (vI (nI m) :: fs))) (hb : ∀ m, m ∈ lg → m ≤ 1000) (hso : lg.Pairwise (· < ·)) (hn : n ≤ 1000) (hlen : lg.length ≤ 512) (k : ∀ M', Lst 20 (tq tk (lg.filter (fun m => decide (m ≤ n)))) M' → offG M M' → post M') : wp_S_dropLogAbove post (some (0, 0)) (nI n) M := by
  have key : ∀ (j : Nat) (lg : List Nat) (M1 : wM), lg.length = j → j ≤ 512 → offG M M1 → Lst 20 (tq tk lg) M1 → (∀ m, m ∈ lg → ∃ fs, M1 (7, tk m) = some (ob 7 (vI (nI m) :: fs))) → (∀ m, m ∈ lg → m ≤ 1000) → lg.Pairwise (· < ·) → (∀ M', Lst 20 (tq tk (lg.filter (fun m => decide (m ≤ n)))) M' → offG M M' → post M') → wp_S_dropLogAbove_10 post (j + 1) (some (0, 0)) (nI n) (nI j - 1) M1 := by
    intro j
    induction j with
    | zero =>
      intro lg M1 hj _ ho h1 _ _ _ kk
      have : lg = [] := List.length_eq_zero_iff.mp hj
      subst this
      unfold wp_S_dropLogAbove_10 wp_S_dropLogAbove_47
      exact ⟨fun _ => kk M1 h1 ho, fun z => absurd (by decide : (nI 0 - 1 : Int32) < 0) z⟩
    | succ j ih =>
      intro lg M1 hj hl ho h1 h2 h3 h4 kk
      have hS1 : St P l d c u dr M1 := St_off hS (fun r hr => ho r (fun z => by unfold dO at hr; unfold dG at z; omega))
      obtain ⟨v, mc, ea, h8, -⟩ := id h1
      have hne : lg ≠ [] := fun z => by rw [z] at hj; exact nomatch hj
      obtain ⟨ini, a, rfl⟩ : ∃ ini a, lg = ini ++ [a] := ⟨lg.dropLast, lg.getLast hne, (List.dropLast_concat_getLast hne).symm⟩
      have hini : ini.length = j := by
        rw [List.length_append] at hj
        exact Nat.succ.inj hj
      have ham : a ∈ ini ++ [a] := List.mem_append_right _ List.mem_cons_self
      obtain ⟨fs, hfs⟩ := h2 a ham
      have hget : (tq tk (ini ++ [a]))[j]? = some (7, tk a) := by
        unfold tq
        rw [List.map_append, List.getElem?_append_right (by rw [List.length_map]; omega), List.length_map, hini, Nat.sub_self]
        rfl
      rw [nI_pred]
      unfold wp_S_dropLogAbove_10 wp_S_dropLogAbove_47
      refine ⟨fun z => absurd z (nI_pos (by omega)), fun _ => k_gR hS1.1 rfl (k_cV h8 (a_get (i := j) h1 rfl (by rw [List.length_map]; omega) ?_))⟩
      rw [hget]
      refine ⟨fun r e => ?_, k_gI hfs rfl ⟨fun z => ?_, fun z => ?_⟩⟩
      · cases e
        exact ⟨_, hfs⟩
      · have han := (nI_leI (by have := h3 a ham; omega) (by omega)).mp z
        rw [List.filter_eq_self.mpr (fun m hm => ?_)] at kk
        · exact kk M1 h1 ho
        · rw [decide_eq_true_eq]
          rcases List.mem_append.mp hm with g | g
          · have := (List.pairwise_append.mp h4).2.2 m g a List.mem_cons_self
            omega
          · rw [List.mem_singleton.mp g]
            exact han
      · have han : ¬ a ≤ n := fun y => z (nI_le y (by omega))
        rw [List.filter_append, show List.filter (fun m => decide (m ≤ n)) [a] = [] by simp [han], List.append_nil] at kk
        refine k_gR hS1.1 rfl (k_cV h8 (a_remove (i := j) (ci := 7) (by omega) h1 rfl (by rw [List.length_map]; omega) hca7 (lg_el h2) (fun M2 g1 g2 => ?_)))
        have e1 : (tq tk (ini ++ [a])).eraseIdx j = tq tk ini := by
          unfold tq
          rw [List.map_append, List.eraseIdx_append_of_length_le (by rw [List.length_map]; omega), List.length_map, hini, Nat.sub_self]
          show _ ++ [] = _
          rw [List.append_nil]
        rw [e1] at g1
        have o7 : ∀ t, M2 (7, t) = M1 (7, t) := fun t => g2 _ (rne (by decide)) (by show (7 : Nat) ≠ 50 + 20; decide)
        rw [show nI j + (-1) = nI j - 1 from by rw [Int32.sub_eq_add_neg]]
        exact ih ini M2 hini (by omega) (offG_tr ho (offG_L g2)) g1 (fun m hm => by rw [o7]; exact h2 m (List.mem_append_left _ hm)) (fun m hm => h3 m (List.mem_append_left _ hm)) (List.pairwise_append.mp h4).1 kk
  obtain ⟨v, mc, ea, h8, -⟩ := id hL
  unfold wp_S_dropLogAbove
  refine k_gR hS.1 rfl (k_cV h8 (a_size hL ⟨lg.length + 1, ?_⟩))
  rw [List.length_map]
  exact key lg.length lg M rfl hlen (fun _ _ => rfl) hL hel hb hso k
end LOG
/-! part of a table -/
theorem vv_eq {s s2 : DB} {k : Nat} (h1 : s.1 k = s2.1 k) (h2 : s.2 k = s2.2 k) : vv s k = vv s2 k := by
  unfold vv
  simp only [h1, h2]
def mixp (P i : Nat) (s m : DB) (j : Nat) : DB := (fun k => if k < j ∧ k % P = i then s.1 k else m.1 k, fun k => if k < j ∧ k % P = i then s.2 k else m.2 k)
theorem b_part {post : wM → Prop} {P i : Nat} {s m : DB} {M : wM} (h1 : 1 ≤ P) (h4 : P ≤ 4) (hi : i < P) (hs : Tb 0 s M) (hm : Tb 3 m M) (k : ∀ M', Tb 3 (mixp P i s m 32) M' → (∀ r, r ≠ (22, 3) → M' r = M r) → post M') : wp_B_copyPart post (some (6, 3)) (some (6, 0)) (nI i) (nI P) M := by
  have key : ∀ t j M1, j + t = 32 → Tb 3 (mixp P i s m j) M1 → (∀ r, r ≠ (22, 3) → M1 r = M r) → wp_B_copyPart_3 post (t + 1) (some (6, 3)) (some (6, 0)) (nI i) (nI P) (nI j) M1 := by
    intro t
    induction t with
    | zero =>
      intro j M1 hj hT ho
      unfold wp_B_copyPart_3
      refine ⟨fun _ => k M1 (by rw [show (32 : Nat) = j by omega]; exact hT) ho, fun z => absurd (nI_le (a := 32) (by omega) (by omega)) z⟩
    | succ t ih =>
      intro j M1 hj hT ho
      have hs1 : Tb 0 s M1 := Tb_off hs (ho _ (rne (by decide))) (ho _ (rne2 (by decide))) (ho _ (rne (by decide)))
      unfold wp_B_copyPart_3 wp_B_copyPart_32
      rw [pk_rem (by omega) (by omega) (by omega), nI_1]
      refine ⟨fun z => absurd ((nI_leI (a := 32) (by omega) (by omega)).mp z) (by omega), fun _ => ⟨nI_ne0 (by omega) (by omega), fun z => ?_, fun z => ?_⟩⟩
      · have hne : ¬ j % P = i := fun y => z (by rw [y])
        refine ih (j + 1) M1 (by omega) (Tb_ext hT (fun x hx => ?_) (fun x hx => ?_)) ho
        · have : (x < j + 1 ∧ x % P = i) ↔ (x < j ∧ x % P = i) := ⟨fun y => ⟨by
            rcases Nat.lt_or_ge x j with g | g
            · exact g
            · have : x = j := by omega
              rw [this] at y
              exact absurd y.2 hne, y.2⟩, fun y => ⟨by omega, y.2⟩⟩
          unfold vv mixp
          simp only [this]
        · unfold mixp
          dsimp only
          rw [if_neg (by omega), if_neg (by omega)]
      · have heq : j % P = i := (nI_eq (by have := Nat.mod_lt j (show 0 < P by omega); omega) (by omega)).mp z
        obtain ⟨a1, ⟨V1, b1, c1⟩, C1, d1, e1⟩ := id hs1
        obtain ⟨a2, ⟨V2, b2, c2⟩, C2, d2, e2⟩ := id hT
        refine k_gR a2 rfl (k_gR a1 rfl (k_lL b1 rfl (by omega) (by decide) (k_sL b2 rfl (by omega) (by decide) ?_)))
        refine ih (j + 1) _ (by omega) ?_ (fun r hr => (up_n hr).trans (ho r hr))
        rw [c1 j (by omega)]
        refine Tb_ext (Tb_row (tv := s.1 j) (hv := s.2 j) hT (by omega) b2 c2 rfl) (fun x hx => ?_) (fun x hx => ?_)
        · by_cases e : x = j
          · subst e
            have hc : x < x + 1 ∧ x % P = i := ⟨by omega, heq⟩
            exact vv_eq (by simp only [mixp, upd_s, if_pos hc]) (by simp only [mixp, upd_s, if_pos hc])
          · have hc : (x < j + 1 ∧ x % P = i) ↔ (x < j ∧ x % P = i) := ⟨fun y => ⟨by omega, y.2⟩, fun y => ⟨by omega, y.2⟩⟩
            exact vv_eq (by simp only [mixp, upd_n e, hc]) (by simp only [mixp, upd_n e, hc])
        · dsimp only
          rw [upd_n (by omega)]
          unfold mixp
          dsimp only
          rw [if_neg (by omega), if_neg (by omega)]
  unfold wp_B_copyPart
  exact ⟨33, key 32 0 M (by omega) (Tb_ext hm (fun x hx => by unfold vv mixp; simp) (fun x hx => by unfold mixp; simp)) (fun _ _ => rfl)⟩
theorem b_count {post : Int32 → wM → Prop} {P i t : Nat} {s : DB} {M : wM} (h1 : 1 ≤ P) (h4 : P ≤ 4) (hi : i < P) (hs : Tb t s M) (k : post (nI (cpn s.1 P i 32)) M) : wp_B_countPart post (some (6, t)) (nI i) (nI P) M := by
  have key : ∀ m j, j + m = 32 → wp_B_countPart_5 post (m + 1) (some (6, t)) (nI i) (nI P) (nI (cpn s.1 P i j)) (nI j) M := by
    intro m
    induction m with
    | zero =>
      intro j hj
      unfold wp_B_countPart_5
      refine ⟨fun _ => by rw [show j = 32 by omega]; exact k, fun z => absurd (nI_le (a := 32) (by omega) (by omega)) z⟩
    | succ m ih =>
      intro j hj
      have ih := ih (j + 1) (by omega)
      rw [cpn] at ih
      unfold wp_B_countPart_5 wp_B_countPart_37
      rw [pk_rem (by omega) (by omega) (by omega), nI_1, nI_1]
      obtain ⟨a1, ⟨V1, b1, c1⟩, C1, d1, e1⟩ := id hs
      refine ⟨fun z => absurd ((nI_leI (a := 32) (by omega) (by omega)).mp z) (by omega), fun _ => ⟨nI_ne0 (by omega) (by omega), fun z => ?_, fun z => k_gR a1 rfl (k_lL b1 rfl (by omega) (by decide) ⟨fun y => ?_, fun y => ?_⟩)⟩⟩
      · rw [if_neg (fun y => z (by rw [y.1]))] at ih
        exact ih
      · rw [lg0, c1 j (by omega), vv_none] at y
        rw [if_neg (fun x => x.2 y)] at ih
        exact ih
      · rw [lg0, c1 j (by omega), vv_none] at y
        rw [if_pos ⟨(nI_eq (by have := Nat.mod_lt j (show 0 < P by omega); omega) (by omega)).mp z, y⟩] at ih
        exact ih
  unfold wp_B_countPart
  exact ⟨33, key 32 0 (by omega)⟩
