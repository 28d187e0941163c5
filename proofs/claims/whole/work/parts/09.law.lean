-- ===== end of PART A; then your names; then what follows =====
/-! THE CLAIM OUT OF ONE WALK OF THE LAW'S BODY. Your part is whole_start (and what it stands on); all else here is the same for every law, but numbers. -/
def R_law : String := "PartitionedProcedureStoreLaw"
def lw_P (b : Addr) (xs : List Int32) (args : Array Value) (s : State) : Prop := args = #[.ref b] ∧ s.IntsAt b xs ∧ xs.length ≤ 3073 ∧ (Jvm.Cond.and given_1 narrow_1).before args s = true
def lw_Q (_ : Array Value) (s : State) (o : Outcome) (t : State) : Prop := o = .returned (some (.int 1)) ∧ Framed s o t [] room_1.cells room_1.slots
def lw_Z (below : List Frame) (a : Array Value) (s : State) : State → Prop := fun t => ∃ o, t.status = .running ∧ Ended t below o ∧ lw_Q a s o t
/-- the law's own end, with 1 on the stack, nothing written that was there before, its room as the claim has it -/
theorem lw_ret {p : Program} {l : Launch} {e : Env} {s : State} {m : MethodId} {below : List Frame} {meth : Method} {c : Code} {b : Nat} (hx : p.tables.exec = Jvm.exec) (hb : c.code = code) (hr : meth.sig.returnType = ret) (hlocks : meth.locks = false) {pc : Nat} {H : Heap} {ls : Array Slot} (hdg : decode code pc = .ok (.ireturn, 1)) : W p l e room_1 s m #[Value.ref b] below meth c H [] room_1.cells room_1.slots (lw_Z below #[Value.ref b] s) (F0 m pc ls [.int 1]) := by
  intro T hT X
  obtain ⟨fs, hret, hrun, hended, hW, hframe⟩ := X.leave (v := some (.int 1)) (hlocks := hlocks) (fun h => by rw [hr] at h; cases h)
  have hmeth' : T.vm.method? m = some meth := X.method'
  refine ⟨T.setFrames fs, ?_, .returned (some (.int 1)), hrun, hended, rfl, ⟨_, rfl⟩, hW, hframe⟩
  jvm_step X.here [X.here.top, hx, hb, hdg, hmeth', hr, ret, narrow_b1]
  (try refine ⟨rfl, ?_⟩); (try refine ⟨rfl, ?_⟩)
  first | (intro acts; rw [hret _ acts rfl rfl rfl]) | rw [hret _ _ rfl rfl rfl]
  exact Steps.refl _
/-- what holds at the law's entry: the machine, the code, the tables' words (any of lw_tbl by 'hts w (by decide +kernel)'), the script of L ints xs at the cell b, what the Statement gives of the start (any of its parts by flat_of_before) -/
def lw_At (p : Program) (s : State) (m : MethodId) (meth : Method) (c : Code) (b L : Nat) (xs : Nat → Int32) : Prop :=
  p.tables.exec = Jvm.exec ∧ c.code = code ∧ meth.sig.returnType = ret ∧ c.maxLocals = 4 ∧ s.vm.findClass R_law = some m.cls ∧ (∀ w ∈ lw_tbl, w.before #[Value.ref b] s = true) ∧ va_X b L xs s s.heap ∧ b < s.heap.size ∧ meth.locks = false ∧ (Jvm.Cond.and given_1 narrow_1).before #[Value.ref b] s = true
theorem le_rc {n : Nat} (h : n ≤ 300000) : n ≤ room_1.cells := Nat.le_trans h (Nat.le_of_ble_eq_true rfl)
theorem le_rs {n : Nat} (h : n ≤ 3500000) : n ≤ room_1.slots := Nat.le_trans h (Nat.le_of_ble_eq_true rfl)
theorem aw_lawret {p : Program} {l : Launch} {e : Env} {s : State} {m : MethodId} {b : Nat} {below : List Frame} {meth : Method} {c : Code} {D : va_G} {dA : Nat → ClassId} {zE : ZT} {ad0 : Ro → Nat} {M0 M : wM} {cells slots pc : Nat} {lv : List (Nat × AV)} (X : Cx p s m #[Value.ref b] meth c code 4 R_L TBL D dA s.heap.size zE) (hr : meth.sig.returnType = ret) (hc : cells ≤ room_1.cells) (hs : slots ≤ room_1.slots) (hd : decode code pc = .ok (.ireturn, 1)) : AW p l e room_1 s m #[Value.ref b] below meth c (lw_Z below #[Value.ref b] s) D dA s.heap.size zE 4 ad0 M0 M cells slots pc lv [vI 1] := by
  intro ad H locs ls h1 h2 h3 h4 h5 h6 h7
  refine va_forget (fun q hq => h4.2.2 q hq) ?_
  refine W.widen hc hs ?_
  exact lw_ret X.1 X.2.1 hr X.hlk hd
section
variable {p : Program} {l : Launch} {e : Env} {s : State} {m : MethodId} {b : Nat} {below : List Frame} {meth : Method} {c : Code} {D : va_G} {dA : Nat → ClassId} {zE : ZT} {ad0 : Ro → Nat} {M0 : wM}
def wp_law_28 (zE : ZT) : Nat → Option Ro → Option Ro → Option Ro → Int32 → wM → Prop
  | 0, _, _, _, _, _ => False
  | n + 1, x0, x1, x2, x3, M => xN zE x0 (fun a30 => ((a30 - 6) < x3 → True) ∧ (¬ (a30 - 6) < x3 → xL zE x0 x3 (fun a39 => ((a39 &&& 15) = 0 → xL zE x0 (x3 + 1) (fun a125 => xL zE x0 (x3 + 2) (fun a130 => (a130 = 0 → cV M x1 0 (wp_S_open (fun a139 M139 => xL zE x0 (x3 + 1) (fun a147 => xL zE x0 (x3 + 2) (fun a152 => (a152 = 0 → cV M139 x2 9 (wp_M_open (fun a161 M161 => (a139 = a161 → wp_law_28 zE n x0 x1 x2 (x3 + 6) M161) ∧ (¬ a139 = a161 → False)) x2 a147 0 M139)) ∧ (¬ a152 = 0 → cV M139 x2 9 (wp_M_open (fun a161 M161 => (a139 = a161 → wp_law_28 zE n x0 x1 x2 (x3 + 6) M161) ∧ (¬ a139 = a161 → False)) x2 a147 1 M139))))) x1 a125 0 M)) ∧ (¬ a130 = 0 → cV M x1 0 (wp_S_open (fun a139 M139 => xL zE x0 (x3 + 1) (fun a147 => xL zE x0 (x3 + 2) (fun a152 => (a152 = 0 → cV M139 x2 9 (wp_M_open (fun a161 M161 => (a139 = a161 → wp_law_28 zE n x0 x1 x2 (x3 + 6) M161) ∧ (¬ a139 = a161 → False)) x2 a147 0 M139)) ∧ (¬ a152 = 0 → cV M139 x2 9 (wp_M_open (fun a161 M161 => (a139 = a161 → wp_law_28 zE n x0 x1 x2 (x3 + 6) M161) ∧ (¬ a139 = a161 → False)) x2 a147 1 M139))))) x1 a125 1 M))))) ∧ (¬ (a39 &&& 15) = 0 → ((a39 &&& 15) = 1 → xL zE x0 (x3 + 1) (fun a174 => xL zE x0 (x3 + 2) (fun a179 => xL zE x0 (x3 + 3) (fun a184 => xL zE x0 (x3 + 4) (fun a189 => cV M x1 0 (wp_S_add (fun a190 M190 => xL zE x0 (x3 + 1) (fun a198 => xL zE x0 (x3 + 2) (fun a203 => xL zE x0 (x3 + 3) (fun a208 => xL zE x0 (x3 + 4) (fun a213 => cV M190 x2 9 (wp_M_add (fun a214 M214 => (a190 = a214 → wp_law_28 zE n x0 x1 x2 (x3 + 6) M214) ∧ (¬ a190 = a214 → False)) x2 a198 a203 a208 a213 M190)))))) x1 a174 a179 a184 a189 M)))))) ∧ (¬ (a39 &&& 15) = 1 → ((a39 &&& 15) = 2 → cV M x1 0 (wp_S_deploy (fun a223 M223 => cV M223 x2 9 (wp_M_deploy (fun a227 M227 => (a223 = a227 → wp_law_28 zE n x0 x1 x2 (x3 + 6) M227) ∧ (¬ a223 = a227 → False)) x2 M223)) x1 M)) ∧ (¬ (a39 &&& 15) = 2 → ((a39 &&& 15) = 3 → xL zE x0 (x3 + 1) (fun a240 => xL zE x0 (x3 + 2) (fun a245 => xL zE x0 (x3 + 3) (fun a250 => xL zE x0 (x3 + 4) (fun a255 => xL zE x0 (x3 + 5) (fun a260 => cV M x1 0 (wp_S_invoke (fun a261 M261 => xL zE x0 (x3 + 1) (fun a269 => xL zE x0 (x3 + 2) (fun a274 => xL zE x0 (x3 + 3) (fun a279 => xL zE x0 (x3 + 4) (fun a284 => xL zE x0 (x3 + 5) (fun a289 => cV M261 x2 9 (wp_M_invoke (fun a290 M290 => (a261 = a290 → wp_law_28 zE n x0 x1 x2 (x3 + 6) M290) ∧ (¬ a261 = a290 → False)) x2 a269 a274 a279 a284 a289 M261))))))) x1 a240 a245 a250 a255 a260 M))))))) ∧ (¬ (a39 &&& 15) = 3 → ((a39 &&& 15) = 4 → xL zE x0 (x3 + 1) (fun a303 => cV M x1 0 (wp_S_step (fun a304 M304 => xL zE x0 (x3 + 1) (fun a312 => cV M304 x2 9 (wp_M_step (fun a313 M313 => (a304 = a313 → wp_law_28 zE n x0 x1 x2 (x3 + 6) M313) ∧ (¬ a304 = a313 → False)) x2 a312 M304))) x1 a303 M))) ∧ (¬ (a39 &&& 15) = 4 → ((a39 &&& 15) = 5 → cV M x1 0 (wp_S_flush (fun a322 M322 => cV M322 x2 9 (wp_M_flush (fun a326 M326 => (a322 = a326 → wp_law_28 zE n x0 x1 x2 (x3 + 6) M326) ∧ (¬ a322 = a326 → False)) x2 M322)) x1 M)) ∧ (¬ (a39 &&& 15) = 5 → ((a39 &&& 15) = 6 → cV M x1 0 (wp_S_snapshot (fun a335 M335 => cV M335 x2 9 (wp_M_snapshot (fun a339 M339 => (a335 = a339 → wp_law_28 zE n x0 x1 x2 (x3 + 6) M339) ∧ (¬ a335 = a339 → False)) x2 M335)) x1 M)) ∧ (¬ (a39 &&& 15) = 6 → ((a39 &&& 15) = 7 → xL zE x0 (x3 + 1) (fun a352 => xL zE x0 (x3 + 2) (fun a357 => cV M x1 0 (wp_S_scan (fun a358 M358 => xL zE x0 (x3 + 1) (fun a366 => xL zE x0 (x3 + 2) (fun a371 => cV M358 x2 9 (wp_M_scan (fun a372 M372 => (a358 = a372 → wp_law_28 zE n x0 x1 x2 (x3 + 6) M372) ∧ (¬ a358 = a372 → False)) x2 a366 a371 M358)))) x1 a352 a357 M)))) ∧ (¬ (a39 &&& 15) = 7 → ((a39 &&& 15) = 8 → cV M x1 0 (wp_S_crash (fun a381 M381 => cV M381 x2 9 (wp_M_crash (fun a385 M385 => (a381 = a385 → wp_law_28 zE n x0 x1 x2 (x3 + 6) M385) ∧ (¬ a381 = a385 → False)) x2 M381)) x1 M)) ∧ (¬ (a39 &&& 15) = 8 → ((a39 &&& 15) = 9 → xL zE x0 (x3 + 1) (fun a398 => cV M x1 0 (wp_S_answer (fun a399 M399 => xL zE x0 (x3 + 1) (fun a407 => cV M399 x2 9 (wp_M_answer (fun a408 M408 => (a399 = a408 → wp_law_28 zE n x0 x1 x2 (x3 + 6) M408) ∧ (¬ a399 = a408 → False)) x2 a407 M399))) x1 a398 M))) ∧ (¬ (a39 &&& 15) = 9 → ((a39 &&& 15) = 10 → xL zE x0 (x3 + 1) (fun a421 => xL zE x0 (x3 + 2) (fun a426 => cV M x1 0 (wp_S_output (fun a427 M427 => xL zE x0 (x3 + 1) (fun a435 => xL zE x0 (x3 + 2) (fun a440 => cV M427 x2 9 (wp_M_output (fun a441 M441 => ((lg_cmp a427 a441) = 0 → wp_law_28 zE n x0 x1 x2 (x3 + 6) M441) ∧ (¬ (lg_cmp a427 a441) = 0 → False)) x2 a435 a440 M427)))) x1 a421 a426 M)))) ∧ (¬ (a39 &&& 15) = 10 → ((a39 &&& 15) = 11 → xL zE x0 (x3 + 1) (fun a455 => cV M x1 0 (wp_S_row (fun a456 M456 => xL zE x0 (x3 + 1) (fun a464 => cV M456 x2 9 (wp_M_row (fun a465 M465 => ((lg_cmp a456 a465) = 0 → wp_law_28 zE n x0 x1 x2 (x3 + 6) M465) ∧ (¬ (lg_cmp a456 a465) = 0 → False)) x2 a464 M456))) x1 a455 M))) ∧ (¬ (a39 &&& 15) = 11 → ((a39 &&& 15) = 12 → xL zE x0 (x3 + 1) (fun a479 => cV M x1 0 (wp_S_replicated (fun a480 M480 => xL zE x0 (x3 + 1) (fun a488 => cV M480 x2 9 (wp_M_replicated (fun a489 M489 => ((lg_cmp a480 a489) = 0 → wp_law_28 zE n x0 x1 x2 (x3 + 6) M489) ∧ (¬ (lg_cmp a480 a489) = 0 → False)) x2 a488 M480))) x1 a479 M))) ∧ (¬ (a39 &&& 15) = 12 → ((a39 &&& 15) = 13 → xL zE x0 (x3 + 1) (fun a503 => cV M x1 0 (wp_S_waiting (fun a504 M504 => xL zE x0 (x3 + 1) (fun a512 => cV M504 x2 9 (wp_M_waiting (fun a513 M513 => (a504 = a513 → wp_law_28 zE n x0 x1 x2 (x3 + 6) M513) ∧ (¬ a504 = a513 → False)) x2 a512 M504))) x1 a503 M))) ∧ (¬ (a39 &&& 15) = 13 → ((a39 &&& 15) = 14 → xL zE x0 (x3 + 1) (fun a526 => cV M x1 0 (wp_S_rows (fun a527 M527 => xL zE x0 (x3 + 1) (fun a535 => cV M527 x2 9 (wp_M_rows (fun a536 M536 => (a527 = a536 → wp_law_28 zE n x0 x1 x2 (x3 + 6) M536) ∧ (¬ a527 = a536 → False)) x2 a535 M527))) x1 a526 M))) ∧ (¬ (a39 &&& 15) = 14 → ((a39 &&& 15) = 15 → xL zE x0 (x3 + 1) (fun a549 => cV M x1 0 (wp_S_count (fun a550 M550 => xL zE x0 (x3 + 1) (fun a558 => cV M550 x2 9 (wp_M_count (fun a559 M559 => (a550 = a559 → wp_law_28 zE n x0 x1 x2 (x3 + 6) M559) ∧ (¬ a550 = a559 → False)) x2 a558 M550))) x1 a549 M))) ∧ (¬ (a39 &&& 15) = 15 → wp_law_28 zE n x0 x1 x2 (x3 + 6) M)))))))))))))))))))
set_option maxRecDepth 100000 in
set_option maxHeartbeats 4000000 in
theorem sd_law_28 (X : Cx p s m #[Value.ref b] meth c code 4 R_L TBL D dA s.heap.size zE) (hr : meth.sig.returnType = ret) : ∀ (n : Nat), n ≤ 513 → ∀ (x0 : Option Ro) (x1 : Option Ro) (x2 : Option Ro) (x3 : Int32) (M : wM), wp_law_28 zE n x0 x1 x2 x3 M → AW p l e room_1 s m #[Value.ref b] below meth c (lw_Z below #[Value.ref b] s) D dA s.heap.size zE 4 ad0 M0 M (78 + (513 - n) * 7) (7058 + (513 - n) * 4806) 28 [(0, vR x0), (1, vR x1), (2, vR x2), (3, vI x3)] [] := by
  intro n
  induction n with
  | zero => intro hn x0 x1 x2 x3 M h; exact h.elim
  | succ n ih =>
    intro hn x0 x1 x2 x3 M h
    unfold wp_law_28 at h
    refine aw_iload_n X 3 rfl d_law_28 rfl ?_
    refine aw_aload_n X 0 rfl d_law_29 rfl ?_
    refine aw_xN X d_law_30 (h.mono (fun a30 h => ?_))
    refine aw_bipush X (6) (by decide) d_law_31 ?_
    refine aw_isub X d_law_33 ?_
    refine aw_icmp_gt (tgt := 573) X d_law_34 (by decide) (fun c => ?_) (fun c => ?_)
    · have h := h.1 c
      refine aw_iconst X (1) (by decide) d_law_573 ?_
      exact aw_lawret X hr (le_rc (by omega)) (le_rs (by omega)) d_law_574
    · have h := h.2 c
      refine aw_aload_n X 0 rfl d_law_37 rfl ?_
      refine aw_iload_n X 3 rfl d_law_38 rfl ?_
      refine aw_xL X d_law_39 (h.mono (fun a39 h => ?_))
      refine aw_bipush X (15) (by decide) d_law_40 ?_
      refine aw_iand X d_law_42 ?_
      rcases Decidable.em ((a39 &&& 15) = 0) with c0 | c0
      · have h := h.1 c0
        refine aw_tableIn (off := 77) (tgt := 120) X d_law_43 c0 (by decide) (by decide) (by decide) (by decide) ?_
        refine aw_aload_n X 1 rfl d_law_120 rfl ?_
        refine aw_aload_n X 0 rfl d_law_121 rfl ?_
        refine aw_iload_n X 3 rfl d_law_122 rfl ?_
        refine aw_iconst X (1) (by decide) d_law_123 ?_
        refine aw_iadd X d_law_124 ?_
        refine aw_xL X d_law_125 (h.mono (fun a125 h => ?_))
        refine aw_aload_n X 0 rfl d_law_126 rfl ?_
        refine aw_iload_n X 3 rfl d_law_127 rfl ?_
        refine aw_iconst X (2) (by decide) d_law_128 ?_
        refine aw_iadd X d_law_129 ?_
        refine aw_xL X d_law_130 (h.mono (fun a130 h => ?_))
        refine aw_if_eq (tgt := 138) X d_law_131 (by decide) (fun c => ?_) (fun c => ?_)
        · have h := h.1 c
          refine aw_iconst X (0) (by decide) d_law_138 ?_
          obtain ⟨⟨r139, f139, e139, g139⟩, h⟩ := h
          cases e139
          refine aw_cVi X [_, _] (fun ad hlv => t_S_open l hlv h) (cwV 2 X.hts (gd_V LK_536 LK_537 LK_538 LK_122 LK_code_S_open) rfl rfl rfl (by decide +kernel) ⟨(Nat.le_of_ble_eq_true rfl), (Nat.le_of_ble_eq_true rfl)⟩) ⟨0, f139, _, g139, hc_0, rfl⟩ rfl rfl (Nat.le_of_ble_eq_true rfl) d_law_139 ⟨le_rc (by omega), le_rs (by omega)⟩ (fun a139 M139 h => ?_)
          refine aw_aload_n X 2 rfl d_law_142 rfl ?_
          refine aw_aload_n X 0 rfl d_law_143 rfl ?_
          refine aw_iload_n X 3 rfl d_law_144 rfl ?_
          refine aw_iconst X (1) (by decide) d_law_145 ?_
          refine aw_iadd X d_law_146 ?_
          refine aw_xL X d_law_147 (h.mono (fun a147 h => ?_))
          refine aw_aload_n X 0 rfl d_law_148 rfl ?_
          refine aw_iload_n X 3 rfl d_law_149 rfl ?_
          refine aw_iconst X (2) (by decide) d_law_150 ?_
          refine aw_iadd X d_law_151 ?_
          refine aw_xL X d_law_152 (h.mono (fun a152 h => ?_))
          refine aw_if_eq (tgt := 160) X d_law_153 (by decide) (fun c => ?_) (fun c => ?_)
          · have h := h.1 c
            refine aw_iconst X (0) (by decide) d_law_160 ?_
            obtain ⟨⟨r161, f161, e161, g161⟩, h⟩ := h
            cases e161
            refine aw_cVi X [_, _] (fun ad hlv => t_M_open l hlv h) (cwV 2 X.hts (gd_V LK_540 LK_541 LK_542 LK_463 LK_code_M_open) rfl rfl rfl (by decide +kernel) ⟨(Nat.le_of_ble_eq_true rfl), (Nat.le_of_ble_eq_true rfl)⟩) ⟨9, f161, _, g161, hc_9, rfl⟩ rfl rfl (Nat.le_of_ble_eq_true rfl) d_law_161 ⟨le_rc (by omega), le_rs (by omega)⟩ (fun a161 M161 h => ?_)
            refine aw_icmp_eq (tgt := 567) X d_law_164 (by decide) (fun c => ?_) (fun c => ?_)
            · have h := h.1 c
              refine aw_iinc (y := x3 + 6) (lvn := [(3, _), (0, _), (1, _), (2, _)]) X 3 rfl d_law_567 rfl (by decide) rfl ?_
              refine aw_goto (tgt := 28) X d_law_570 (by decide) ?_
              refine aw_lv [1, 2, 3, 0] rfl ?_
              refine aw_widen (ce := 78 + (513 - n) * 7) (sl := 7058 + (513 - n) * 4806) (by omega) (by omega) ?_
              exact ih (by omega) _ _ _ _ _ h
            · have h := h.2 c
              refine aw_iconst X (0) (by decide) d_law_167 ?_
              exact h.elim
          · have h := h.2 c
            refine aw_iconst X (1) (by decide) d_law_156 ?_
            refine aw_goto (tgt := 161) X d_law_157 (by decide) ?_
            obtain ⟨⟨r161, f161, e161, g161⟩, h⟩ := h
            cases e161
            refine aw_cVi X [_, _] (fun ad hlv => t_M_open l hlv h) (cwV 2 X.hts (gd_V LK_540 LK_541 LK_542 LK_463 LK_code_M_open) rfl rfl rfl (by decide +kernel) ⟨(Nat.le_of_ble_eq_true rfl), (Nat.le_of_ble_eq_true rfl)⟩) ⟨9, f161, _, g161, hc_9, rfl⟩ rfl rfl (Nat.le_of_ble_eq_true rfl) d_law_161 ⟨le_rc (by omega), le_rs (by omega)⟩ (fun a161 M161 h => ?_)
            refine aw_icmp_eq (tgt := 567) X d_law_164 (by decide) (fun c => ?_) (fun c => ?_)
            · have h := h.1 c
              refine aw_iinc (y := x3 + 6) (lvn := [(3, _), (0, _), (1, _), (2, _)]) X 3 rfl d_law_567 rfl (by decide) rfl ?_
              refine aw_goto (tgt := 28) X d_law_570 (by decide) ?_
              refine aw_lv [1, 2, 3, 0] rfl ?_
              refine aw_widen (ce := 78 + (513 - n) * 7) (sl := 7058 + (513 - n) * 4806) (by omega) (by omega) ?_
              exact ih (by omega) _ _ _ _ _ h
            · have h := h.2 c
              refine aw_iconst X (0) (by decide) d_law_167 ?_
              exact h.elim
        · have h := h.2 c
          refine aw_iconst X (1) (by decide) d_law_134 ?_
          refine aw_goto (tgt := 139) X d_law_135 (by decide) ?_
          obtain ⟨⟨r139, f139, e139, g139⟩, h⟩ := h
          cases e139
          refine aw_cVi X [_, _] (fun ad hlv => t_S_open l hlv h) (cwV 2 X.hts (gd_V LK_536 LK_537 LK_538 LK_122 LK_code_S_open) rfl rfl rfl (by decide +kernel) ⟨(Nat.le_of_ble_eq_true rfl), (Nat.le_of_ble_eq_true rfl)⟩) ⟨0, f139, _, g139, hc_0, rfl⟩ rfl rfl (Nat.le_of_ble_eq_true rfl) d_law_139 ⟨le_rc (by omega), le_rs (by omega)⟩ (fun a139 M139 h => ?_)
          refine aw_aload_n X 2 rfl d_law_142 rfl ?_
          refine aw_aload_n X 0 rfl d_law_143 rfl ?_
          refine aw_iload_n X 3 rfl d_law_144 rfl ?_
          refine aw_iconst X (1) (by decide) d_law_145 ?_
          refine aw_iadd X d_law_146 ?_
          refine aw_xL X d_law_147 (h.mono (fun a147 h => ?_))
          refine aw_aload_n X 0 rfl d_law_148 rfl ?_
          refine aw_iload_n X 3 rfl d_law_149 rfl ?_
          refine aw_iconst X (2) (by decide) d_law_150 ?_
          refine aw_iadd X d_law_151 ?_
          refine aw_xL X d_law_152 (h.mono (fun a152 h => ?_))
          refine aw_if_eq (tgt := 160) X d_law_153 (by decide) (fun c => ?_) (fun c => ?_)
          · have h := h.1 c
            refine aw_iconst X (0) (by decide) d_law_160 ?_
            obtain ⟨⟨r161, f161, e161, g161⟩, h⟩ := h
            cases e161
            refine aw_cVi X [_, _] (fun ad hlv => t_M_open l hlv h) (cwV 2 X.hts (gd_V LK_540 LK_541 LK_542 LK_463 LK_code_M_open) rfl rfl rfl (by decide +kernel) ⟨(Nat.le_of_ble_eq_true rfl), (Nat.le_of_ble_eq_true rfl)⟩) ⟨9, f161, _, g161, hc_9, rfl⟩ rfl rfl (Nat.le_of_ble_eq_true rfl) d_law_161 ⟨le_rc (by omega), le_rs (by omega)⟩ (fun a161 M161 h => ?_)
            refine aw_icmp_eq (tgt := 567) X d_law_164 (by decide) (fun c => ?_) (fun c => ?_)
            · have h := h.1 c
              refine aw_iinc (y := x3 + 6) (lvn := [(3, _), (0, _), (1, _), (2, _)]) X 3 rfl d_law_567 rfl (by decide) rfl ?_
              refine aw_goto (tgt := 28) X d_law_570 (by decide) ?_
              refine aw_lv [1, 2, 3, 0] rfl ?_
              refine aw_widen (ce := 78 + (513 - n) * 7) (sl := 7058 + (513 - n) * 4806) (by omega) (by omega) ?_
              exact ih (by omega) _ _ _ _ _ h
            · have h := h.2 c
              refine aw_iconst X (0) (by decide) d_law_167 ?_
              exact h.elim
          · have h := h.2 c
            refine aw_iconst X (1) (by decide) d_law_156 ?_
            refine aw_goto (tgt := 161) X d_law_157 (by decide) ?_
            obtain ⟨⟨r161, f161, e161, g161⟩, h⟩ := h
            cases e161
            refine aw_cVi X [_, _] (fun ad hlv => t_M_open l hlv h) (cwV 2 X.hts (gd_V LK_540 LK_541 LK_542 LK_463 LK_code_M_open) rfl rfl rfl (by decide +kernel) ⟨(Nat.le_of_ble_eq_true rfl), (Nat.le_of_ble_eq_true rfl)⟩) ⟨9, f161, _, g161, hc_9, rfl⟩ rfl rfl (Nat.le_of_ble_eq_true rfl) d_law_161 ⟨le_rc (by omega), le_rs (by omega)⟩ (fun a161 M161 h => ?_)
            refine aw_icmp_eq (tgt := 567) X d_law_164 (by decide) (fun c => ?_) (fun c => ?_)
            · have h := h.1 c
              refine aw_iinc (y := x3 + 6) (lvn := [(3, _), (0, _), (1, _), (2, _)]) X 3 rfl d_law_567 rfl (by decide) rfl ?_
              refine aw_goto (tgt := 28) X d_law_570 (by decide) ?_
              refine aw_lv [1, 2, 3, 0] rfl ?_
              refine aw_widen (ce := 78 + (513 - n) * 7) (sl := 7058 + (513 - n) * 4806) (by omega) (by omega) ?_
              exact ih (by omega) _ _ _ _ _ h
            · have h := h.2 c
              refine aw_iconst X (0) (by decide) d_law_167 ?_
              exact h.elim
      · have h := h.2 c0
        rcases Decidable.em ((a39 &&& 15) = 1) with c1 | c1
        · have h := h.1 c1
          refine aw_tableIn (off := 126) (tgt := 169) X d_law_43 c1 (by decide) (by decide) (by decide) (by decide) ?_
          refine aw_aload_n X 1 rfl d_law_169 rfl ?_
          refine aw_aload_n X 0 rfl d_law_170 rfl ?_
          refine aw_iload_n X 3 rfl d_law_171 rfl ?_
          refine aw_iconst X (1) (by decide) d_law_172 ?_
          refine aw_iadd X d_law_173 ?_
          refine aw_xL X d_law_174 (h.mono (fun a174 h => ?_))
          refine aw_aload_n X 0 rfl d_law_175 rfl ?_
          refine aw_iload_n X 3 rfl d_law_176 rfl ?_
          refine aw_iconst X (2) (by decide) d_law_177 ?_
          refine aw_iadd X d_law_178 ?_
          refine aw_xL X d_law_179 (h.mono (fun a179 h => ?_))
          refine aw_aload_n X 0 rfl d_law_180 rfl ?_
          refine aw_iload_n X 3 rfl d_law_181 rfl ?_
          refine aw_iconst X (3) (by decide) d_law_182 ?_
          refine aw_iadd X d_law_183 ?_
          refine aw_xL X d_law_184 (h.mono (fun a184 h => ?_))
          refine aw_aload_n X 0 rfl d_law_185 rfl ?_
          refine aw_iload_n X 3 rfl d_law_186 rfl ?_
          refine aw_iconst X (4) (by decide) d_law_187 ?_
          refine aw_iadd X d_law_188 ?_
          refine aw_xL X d_law_189 (h.mono (fun a189 h => ?_))
          obtain ⟨⟨r190, f190, e190, g190⟩, h⟩ := h
          cases e190
          refine aw_cVi X [_, _, _, _] (fun ad hlv => t_S_add l hlv h) (cwV 4 X.hts (gd_V LK_544 LK_545 LK_546 LK_122 LK_code_S_add) rfl rfl rfl (by decide +kernel) ⟨(Nat.le_of_ble_eq_true rfl), (Nat.le_of_ble_eq_true rfl)⟩) ⟨0, f190, _, g190, hc_0, rfl⟩ rfl rfl (Nat.le_of_ble_eq_true rfl) d_law_190 ⟨le_rc (by omega), le_rs (by omega)⟩ (fun a190 M190 h => ?_)
          refine aw_aload_n X 2 rfl d_law_193 rfl ?_
          refine aw_aload_n X 0 rfl d_law_194 rfl ?_
          refine aw_iload_n X 3 rfl d_law_195 rfl ?_
          refine aw_iconst X (1) (by decide) d_law_196 ?_
          refine aw_iadd X d_law_197 ?_
          refine aw_xL X d_law_198 (h.mono (fun a198 h => ?_))
          refine aw_aload_n X 0 rfl d_law_199 rfl ?_
          refine aw_iload_n X 3 rfl d_law_200 rfl ?_
          refine aw_iconst X (2) (by decide) d_law_201 ?_
          refine aw_iadd X d_law_202 ?_
          refine aw_xL X d_law_203 (h.mono (fun a203 h => ?_))
          refine aw_aload_n X 0 rfl d_law_204 rfl ?_
          refine aw_iload_n X 3 rfl d_law_205 rfl ?_
          refine aw_iconst X (3) (by decide) d_law_206 ?_
          refine aw_iadd X d_law_207 ?_
          refine aw_xL X d_law_208 (h.mono (fun a208 h => ?_))
          refine aw_aload_n X 0 rfl d_law_209 rfl ?_
          refine aw_iload_n X 3 rfl d_law_210 rfl ?_
          refine aw_iconst X (4) (by decide) d_law_211 ?_
          refine aw_iadd X d_law_212 ?_
          refine aw_xL X d_law_213 (h.mono (fun a213 h => ?_))
          obtain ⟨⟨r214, f214, e214, g214⟩, h⟩ := h
          cases e214
          refine aw_cVi X [_, _, _, _] (fun ad hlv => t_M_add l hlv h) (cwV 4 X.hts (gd_V LK_548 LK_549 LK_550 LK_463 LK_code_M_add) rfl rfl rfl (by decide +kernel) ⟨(Nat.le_of_ble_eq_true rfl), (Nat.le_of_ble_eq_true rfl)⟩) ⟨9, f214, _, g214, hc_9, rfl⟩ rfl rfl (Nat.le_of_ble_eq_true rfl) d_law_214 ⟨le_rc (by omega), le_rs (by omega)⟩ (fun a214 M214 h => ?_)
          refine aw_icmp_eq (tgt := 567) X d_law_217 (by decide) (fun c => ?_) (fun c => ?_)
          · have h := h.1 c
            refine aw_iinc (y := x3 + 6) (lvn := [(3, _), (0, _), (1, _), (2, _)]) X 3 rfl d_law_567 rfl (by decide) rfl ?_
            refine aw_goto (tgt := 28) X d_law_570 (by decide) ?_
            refine aw_lv [1, 2, 3, 0] rfl ?_
            refine aw_widen (ce := 78 + (513 - n) * 7) (sl := 7058 + (513 - n) * 4806) (by omega) (by omega) ?_
            exact ih (by omega) _ _ _ _ _ h
          · have h := h.2 c
            refine aw_iconst X (0) (by decide) d_law_220 ?_
            exact h.elim
        · have h := h.2 c1
          rcases Decidable.em ((a39 &&& 15) = 2) with c2 | c2
          · have h := h.1 c2
            refine aw_tableIn (off := 179) (tgt := 222) X d_law_43 c2 (by decide) (by decide) (by decide) (by decide) ?_
            refine aw_aload_n X 1 rfl d_law_222 rfl ?_
            obtain ⟨⟨r223, f223, e223, g223⟩, h⟩ := h
            cases e223
            refine aw_cVi X [] (fun ad hlv => t_S_deploy l hlv h) (cwV 0 X.hts (gd_V LK_552 LK_553 LK_554 LK_122 LK_code_S_deploy) rfl rfl rfl (by decide +kernel) ⟨(Nat.le_of_ble_eq_true rfl), (Nat.le_of_ble_eq_true rfl)⟩) ⟨0, f223, _, g223, hc_0, rfl⟩ rfl rfl (Nat.le_of_ble_eq_true rfl) d_law_223 ⟨le_rc (by omega), le_rs (by omega)⟩ (fun a223 M223 h => ?_)
            refine aw_aload_n X 2 rfl d_law_226 rfl ?_
            obtain ⟨⟨r227, f227, e227, g227⟩, h⟩ := h
            cases e227
            refine aw_cVi X [] (fun ad hlv => t_M_deploy l hlv h) (cwV 0 X.hts (gd_V LK_556 LK_557 LK_558 LK_463 LK_code_M_deploy) rfl rfl rfl (by decide +kernel) ⟨(Nat.le_of_ble_eq_true rfl), (Nat.le_of_ble_eq_true rfl)⟩) ⟨9, f227, _, g227, hc_9, rfl⟩ rfl rfl (Nat.le_of_ble_eq_true rfl) d_law_227 ⟨le_rc (by omega), le_rs (by omega)⟩ (fun a227 M227 h => ?_)
            refine aw_icmp_eq (tgt := 567) X d_law_230 (by decide) (fun c => ?_) (fun c => ?_)
            · have h := h.1 c
              refine aw_iinc (y := x3 + 6) (lvn := [(3, _), (0, _), (1, _), (2, _)]) X 3 rfl d_law_567 rfl (by decide) rfl ?_
              refine aw_goto (tgt := 28) X d_law_570 (by decide) ?_
              refine aw_lv [1, 2, 3, 0] rfl ?_
              refine aw_widen (ce := 78 + (513 - n) * 7) (sl := 7058 + (513 - n) * 4806) (by omega) (by omega) ?_
              exact ih (by omega) _ _ _ _ _ h
            · have h := h.2 c
              refine aw_iconst X (0) (by decide) d_law_233 ?_
              exact h.elim
          · have h := h.2 c2
            rcases Decidable.em ((a39 &&& 15) = 3) with c3 | c3
            · have h := h.1 c3
              refine aw_tableIn (off := 192) (tgt := 235) X d_law_43 c3 (by decide) (by decide) (by decide) (by decide) ?_
              refine aw_aload_n X 1 rfl d_law_235 rfl ?_
              refine aw_aload_n X 0 rfl d_law_236 rfl ?_
              refine aw_iload_n X 3 rfl d_law_237 rfl ?_
              refine aw_iconst X (1) (by decide) d_law_238 ?_
              refine aw_iadd X d_law_239 ?_
              refine aw_xL X d_law_240 (h.mono (fun a240 h => ?_))
              refine aw_aload_n X 0 rfl d_law_241 rfl ?_
              refine aw_iload_n X 3 rfl d_law_242 rfl ?_
              refine aw_iconst X (2) (by decide) d_law_243 ?_
              refine aw_iadd X d_law_244 ?_
              refine aw_xL X d_law_245 (h.mono (fun a245 h => ?_))
              refine aw_aload_n X 0 rfl d_law_246 rfl ?_
              refine aw_iload_n X 3 rfl d_law_247 rfl ?_
              refine aw_iconst X (3) (by decide) d_law_248 ?_
              refine aw_iadd X d_law_249 ?_
              refine aw_xL X d_law_250 (h.mono (fun a250 h => ?_))
              refine aw_aload_n X 0 rfl d_law_251 rfl ?_
              refine aw_iload_n X 3 rfl d_law_252 rfl ?_
              refine aw_iconst X (4) (by decide) d_law_253 ?_
              refine aw_iadd X d_law_254 ?_
              refine aw_xL X d_law_255 (h.mono (fun a255 h => ?_))
              refine aw_aload_n X 0 rfl d_law_256 rfl ?_
              refine aw_iload_n X 3 rfl d_law_257 rfl ?_
              refine aw_iconst X (5) (by decide) d_law_258 ?_
              refine aw_iadd X d_law_259 ?_
              refine aw_xL X d_law_260 (h.mono (fun a260 h => ?_))
              obtain ⟨⟨r261, f261, e261, g261⟩, h⟩ := h
              cases e261
              refine aw_cVi X [_, _, _, _, _] (fun ad hlv => t_S_invoke l hlv h) (cwV 5 X.hts (gd_V LK_560 LK_561 LK_562 LK_122 LK_code_S_invoke) rfl rfl rfl (by decide +kernel) ⟨(Nat.le_of_ble_eq_true rfl), (Nat.le_of_ble_eq_true rfl)⟩) ⟨0, f261, _, g261, hc_0, rfl⟩ rfl rfl (Nat.le_of_ble_eq_true rfl) d_law_261 ⟨le_rc (by omega), le_rs (by omega)⟩ (fun a261 M261 h => ?_)
              refine aw_aload_n X 2 rfl d_law_264 rfl ?_
              refine aw_aload_n X 0 rfl d_law_265 rfl ?_
              refine aw_iload_n X 3 rfl d_law_266 rfl ?_
              refine aw_iconst X (1) (by decide) d_law_267 ?_
              refine aw_iadd X d_law_268 ?_
              refine aw_xL X d_law_269 (h.mono (fun a269 h => ?_))
              refine aw_aload_n X 0 rfl d_law_270 rfl ?_
              refine aw_iload_n X 3 rfl d_law_271 rfl ?_
              refine aw_iconst X (2) (by decide) d_law_272 ?_
              refine aw_iadd X d_law_273 ?_
              refine aw_xL X d_law_274 (h.mono (fun a274 h => ?_))
              refine aw_aload_n X 0 rfl d_law_275 rfl ?_
              refine aw_iload_n X 3 rfl d_law_276 rfl ?_
              refine aw_iconst X (3) (by decide) d_law_277 ?_
              refine aw_iadd X d_law_278 ?_
              refine aw_xL X d_law_279 (h.mono (fun a279 h => ?_))
              refine aw_aload_n X 0 rfl d_law_280 rfl ?_
              refine aw_iload_n X 3 rfl d_law_281 rfl ?_
              refine aw_iconst X (4) (by decide) d_law_282 ?_
              refine aw_iadd X d_law_283 ?_
              refine aw_xL X d_law_284 (h.mono (fun a284 h => ?_))
              refine aw_aload_n X 0 rfl d_law_285 rfl ?_
              refine aw_iload_n X 3 rfl d_law_286 rfl ?_
              refine aw_iconst X (5) (by decide) d_law_287 ?_
              refine aw_iadd X d_law_288 ?_
              refine aw_xL X d_law_289 (h.mono (fun a289 h => ?_))
              obtain ⟨⟨r290, f290, e290, g290⟩, h⟩ := h
              cases e290
              refine aw_cVi X [_, _, _, _, _] (fun ad hlv => t_M_invoke l hlv h) (cwV 5 X.hts (gd_V LK_564 LK_565 LK_566 LK_463 LK_code_M_invoke) rfl rfl rfl (by decide +kernel) ⟨(Nat.le_of_ble_eq_true rfl), (Nat.le_of_ble_eq_true rfl)⟩) ⟨9, f290, _, g290, hc_9, rfl⟩ rfl rfl (Nat.le_of_ble_eq_true rfl) d_law_290 ⟨le_rc (by omega), le_rs (by omega)⟩ (fun a290 M290 h => ?_)
              refine aw_icmp_eq (tgt := 567) X d_law_293 (by decide) (fun c => ?_) (fun c => ?_)
              · have h := h.1 c
                refine aw_iinc (y := x3 + 6) (lvn := [(3, _), (0, _), (1, _), (2, _)]) X 3 rfl d_law_567 rfl (by decide) rfl ?_
                refine aw_goto (tgt := 28) X d_law_570 (by decide) ?_
                refine aw_lv [1, 2, 3, 0] rfl ?_
                refine aw_widen (ce := 78 + (513 - n) * 7) (sl := 7058 + (513 - n) * 4806) (by omega) (by omega) ?_
                exact ih (by omega) _ _ _ _ _ h
              · have h := h.2 c
                refine aw_iconst X (0) (by decide) d_law_296 ?_
                exact h.elim
            · have h := h.2 c3
              rcases Decidable.em ((a39 &&& 15) = 4) with c4 | c4
              · have h := h.1 c4
                refine aw_tableIn (off := 255) (tgt := 298) X d_law_43 c4 (by decide) (by decide) (by decide) (by decide) ?_
                refine aw_aload_n X 1 rfl d_law_298 rfl ?_
                refine aw_aload_n X 0 rfl d_law_299 rfl ?_
                refine aw_iload_n X 3 rfl d_law_300 rfl ?_
                refine aw_iconst X (1) (by decide) d_law_301 ?_
                refine aw_iadd X d_law_302 ?_
                refine aw_xL X d_law_303 (h.mono (fun a303 h => ?_))
                obtain ⟨⟨r304, f304, e304, g304⟩, h⟩ := h
                cases e304
                refine aw_cVi X [_] (fun ad hlv => t_S_step l hlv h) (cwV 1 X.hts (gd_V LK_568 LK_569 LK_570 LK_122 LK_code_S_step) rfl rfl rfl (by decide +kernel) ⟨(Nat.le_of_ble_eq_true rfl), (Nat.le_of_ble_eq_true rfl)⟩) ⟨0, f304, _, g304, hc_0, rfl⟩ rfl rfl (Nat.le_of_ble_eq_true rfl) d_law_304 ⟨le_rc (by omega), le_rs (by omega)⟩ (fun a304 M304 h => ?_)
                refine aw_aload_n X 2 rfl d_law_307 rfl ?_
                refine aw_aload_n X 0 rfl d_law_308 rfl ?_
                refine aw_iload_n X 3 rfl d_law_309 rfl ?_
                refine aw_iconst X (1) (by decide) d_law_310 ?_
                refine aw_iadd X d_law_311 ?_
                refine aw_xL X d_law_312 (h.mono (fun a312 h => ?_))
                obtain ⟨⟨r313, f313, e313, g313⟩, h⟩ := h
                cases e313
                refine aw_cVi X [_] (fun ad hlv => t_M_step l hlv h) (cwV 1 X.hts (gd_V LK_572 LK_573 LK_574 LK_463 LK_code_M_step) rfl rfl rfl (by decide +kernel) ⟨(Nat.le_of_ble_eq_true rfl), (Nat.le_of_ble_eq_true rfl)⟩) ⟨9, f313, _, g313, hc_9, rfl⟩ rfl rfl (Nat.le_of_ble_eq_true rfl) d_law_313 ⟨le_rc (by omega), le_rs (by omega)⟩ (fun a313 M313 h => ?_)
                refine aw_icmp_eq (tgt := 567) X d_law_316 (by decide) (fun c => ?_) (fun c => ?_)
                · have h := h.1 c
                  refine aw_iinc (y := x3 + 6) (lvn := [(3, _), (0, _), (1, _), (2, _)]) X 3 rfl d_law_567 rfl (by decide) rfl ?_
                  refine aw_goto (tgt := 28) X d_law_570 (by decide) ?_
                  refine aw_lv [1, 2, 3, 0] rfl ?_
                  refine aw_widen (ce := 78 + (513 - n) * 7) (sl := 7058 + (513 - n) * 4806) (by omega) (by omega) ?_
                  exact ih (by omega) _ _ _ _ _ h
                · have h := h.2 c
                  refine aw_iconst X (0) (by decide) d_law_319 ?_
                  exact h.elim
              · have h := h.2 c4
                rcases Decidable.em ((a39 &&& 15) = 5) with c5 | c5
                · have h := h.1 c5
                  refine aw_tableIn (off := 278) (tgt := 321) X d_law_43 c5 (by decide) (by decide) (by decide) (by decide) ?_
                  refine aw_aload_n X 1 rfl d_law_321 rfl ?_
                  obtain ⟨⟨r322, f322, e322, g322⟩, h⟩ := h
                  cases e322
                  refine aw_cVi X [] (fun ad hlv => t_S_flush l hlv h) (cwV 0 X.hts (gd_V LK_576 LK_577 LK_578 LK_122 LK_code_S_flush) rfl rfl rfl (by decide +kernel) ⟨(Nat.le_of_ble_eq_true rfl), (Nat.le_of_ble_eq_true rfl)⟩) ⟨0, f322, _, g322, hc_0, rfl⟩ rfl rfl (Nat.le_of_ble_eq_true rfl) d_law_322 ⟨le_rc (by omega), le_rs (by omega)⟩ (fun a322 M322 h => ?_)
                  refine aw_aload_n X 2 rfl d_law_325 rfl ?_
                  obtain ⟨⟨r326, f326, e326, g326⟩, h⟩ := h
                  cases e326
                  refine aw_cVi X [] (fun ad hlv => t_M_flush l hlv h) (cwV 0 X.hts (gd_V LK_580 LK_581 LK_582 LK_463 LK_code_M_flush) rfl rfl rfl (by decide +kernel) ⟨(Nat.le_of_ble_eq_true rfl), (Nat.le_of_ble_eq_true rfl)⟩) ⟨9, f326, _, g326, hc_9, rfl⟩ rfl rfl (Nat.le_of_ble_eq_true rfl) d_law_326 ⟨le_rc (by omega), le_rs (by omega)⟩ (fun a326 M326 h => ?_)
                  refine aw_icmp_eq (tgt := 567) X d_law_329 (by decide) (fun c => ?_) (fun c => ?_)
                  · have h := h.1 c
                    refine aw_iinc (y := x3 + 6) (lvn := [(3, _), (0, _), (1, _), (2, _)]) X 3 rfl d_law_567 rfl (by decide) rfl ?_
                    refine aw_goto (tgt := 28) X d_law_570 (by decide) ?_
                    refine aw_lv [1, 2, 3, 0] rfl ?_
                    refine aw_widen (ce := 78 + (513 - n) * 7) (sl := 7058 + (513 - n) * 4806) (by omega) (by omega) ?_
                    exact ih (by omega) _ _ _ _ _ h
                  · have h := h.2 c
                    refine aw_iconst X (0) (by decide) d_law_332 ?_
                    exact h.elim
                · have h := h.2 c5
                  rcases Decidable.em ((a39 &&& 15) = 6) with c6 | c6
                  · have h := h.1 c6
                    refine aw_tableIn (off := 291) (tgt := 334) X d_law_43 c6 (by decide) (by decide) (by decide) (by decide) ?_
                    refine aw_aload_n X 1 rfl d_law_334 rfl ?_
                    obtain ⟨⟨r335, f335, e335, g335⟩, h⟩ := h
                    cases e335
                    refine aw_cVi X [] (fun ad hlv => t_S_snapshot l hlv h) (cwV 0 X.hts (gd_V LK_584 LK_585 LK_586 LK_122 LK_code_S_snapshot) rfl rfl rfl (by decide +kernel) ⟨(Nat.le_of_ble_eq_true rfl), (Nat.le_of_ble_eq_true rfl)⟩) ⟨0, f335, _, g335, hc_0, rfl⟩ rfl rfl (Nat.le_of_ble_eq_true rfl) d_law_335 ⟨le_rc (by omega), le_rs (by omega)⟩ (fun a335 M335 h => ?_)
                    refine aw_aload_n X 2 rfl d_law_338 rfl ?_
                    obtain ⟨⟨r339, f339, e339, g339⟩, h⟩ := h
                    cases e339
                    refine aw_cVi X [] (fun ad hlv => t_M_snapshot l hlv h) (cwV 0 X.hts (gd_V LK_588 LK_589 LK_590 LK_463 LK_code_M_snapshot) rfl rfl rfl (by decide +kernel) ⟨(Nat.le_of_ble_eq_true rfl), (Nat.le_of_ble_eq_true rfl)⟩) ⟨9, f339, _, g339, hc_9, rfl⟩ rfl rfl (Nat.le_of_ble_eq_true rfl) d_law_339 ⟨le_rc (by omega), le_rs (by omega)⟩ (fun a339 M339 h => ?_)
                    refine aw_icmp_eq (tgt := 567) X d_law_342 (by decide) (fun c => ?_) (fun c => ?_)
                    · have h := h.1 c
                      refine aw_iinc (y := x3 + 6) (lvn := [(3, _), (0, _), (1, _), (2, _)]) X 3 rfl d_law_567 rfl (by decide) rfl ?_
                      refine aw_goto (tgt := 28) X d_law_570 (by decide) ?_
                      refine aw_lv [1, 2, 3, 0] rfl ?_
                      refine aw_widen (ce := 78 + (513 - n) * 7) (sl := 7058 + (513 - n) * 4806) (by omega) (by omega) ?_
                      exact ih (by omega) _ _ _ _ _ h
                    · have h := h.2 c
                      refine aw_iconst X (0) (by decide) d_law_345 ?_
                      exact h.elim
                  · have h := h.2 c6
                    rcases Decidable.em ((a39 &&& 15) = 7) with c7 | c7
                    · have h := h.1 c7
                      refine aw_tableIn (off := 304) (tgt := 347) X d_law_43 c7 (by decide) (by decide) (by decide) (by decide) ?_
                      refine aw_aload_n X 1 rfl d_law_347 rfl ?_
                      refine aw_aload_n X 0 rfl d_law_348 rfl ?_
                      refine aw_iload_n X 3 rfl d_law_349 rfl ?_
                      refine aw_iconst X (1) (by decide) d_law_350 ?_
                      refine aw_iadd X d_law_351 ?_
                      refine aw_xL X d_law_352 (h.mono (fun a352 h => ?_))
                      refine aw_aload_n X 0 rfl d_law_353 rfl ?_
                      refine aw_iload_n X 3 rfl d_law_354 rfl ?_
                      refine aw_iconst X (2) (by decide) d_law_355 ?_
                      refine aw_iadd X d_law_356 ?_
                      refine aw_xL X d_law_357 (h.mono (fun a357 h => ?_))
                      obtain ⟨⟨r358, f358, e358, g358⟩, h⟩ := h
                      cases e358
                      refine aw_cVi X [_, _] (fun ad hlv => t_S_scan l hlv h) (cwV 2 X.hts (gd_V LK_592 LK_593 LK_594 LK_122 LK_code_S_scan) rfl rfl rfl (by decide +kernel) ⟨(Nat.le_of_ble_eq_true rfl), (Nat.le_of_ble_eq_true rfl)⟩) ⟨0, f358, _, g358, hc_0, rfl⟩ rfl rfl (Nat.le_of_ble_eq_true rfl) d_law_358 ⟨le_rc (by omega), le_rs (by omega)⟩ (fun a358 M358 h => ?_)
                      refine aw_aload_n X 2 rfl d_law_361 rfl ?_
                      refine aw_aload_n X 0 rfl d_law_362 rfl ?_
                      refine aw_iload_n X 3 rfl d_law_363 rfl ?_
                      refine aw_iconst X (1) (by decide) d_law_364 ?_
                      refine aw_iadd X d_law_365 ?_
                      refine aw_xL X d_law_366 (h.mono (fun a366 h => ?_))
                      refine aw_aload_n X 0 rfl d_law_367 rfl ?_
                      refine aw_iload_n X 3 rfl d_law_368 rfl ?_
                      refine aw_iconst X (2) (by decide) d_law_369 ?_
                      refine aw_iadd X d_law_370 ?_
                      refine aw_xL X d_law_371 (h.mono (fun a371 h => ?_))
                      obtain ⟨⟨r372, f372, e372, g372⟩, h⟩ := h
                      cases e372
                      refine aw_cVi X [_, _] (fun ad hlv => t_M_scan l hlv h) (cwV 2 X.hts (gd_V LK_596 LK_597 LK_598 LK_463 LK_code_M_scan) rfl rfl rfl (by decide +kernel) ⟨(Nat.le_of_ble_eq_true rfl), (Nat.le_of_ble_eq_true rfl)⟩) ⟨9, f372, _, g372, hc_9, rfl⟩ rfl rfl (Nat.le_of_ble_eq_true rfl) d_law_372 ⟨le_rc (by omega), le_rs (by omega)⟩ (fun a372 M372 h => ?_)
                      refine aw_icmp_eq (tgt := 567) X d_law_375 (by decide) (fun c => ?_) (fun c => ?_)
                      · have h := h.1 c
                        refine aw_iinc (y := x3 + 6) (lvn := [(3, _), (0, _), (1, _), (2, _)]) X 3 rfl d_law_567 rfl (by decide) rfl ?_
                        refine aw_goto (tgt := 28) X d_law_570 (by decide) ?_
                        refine aw_lv [1, 2, 3, 0] rfl ?_
                        refine aw_widen (ce := 78 + (513 - n) * 7) (sl := 7058 + (513 - n) * 4806) (by omega) (by omega) ?_
                        exact ih (by omega) _ _ _ _ _ h
                      · have h := h.2 c
                        refine aw_iconst X (0) (by decide) d_law_378 ?_
                        exact h.elim
                    · have h := h.2 c7
                      rcases Decidable.em ((a39 &&& 15) = 8) with c8 | c8
                      · have h := h.1 c8
                        refine aw_tableIn (off := 337) (tgt := 380) X d_law_43 c8 (by decide) (by decide) (by decide) (by decide) ?_
                        refine aw_aload_n X 1 rfl d_law_380 rfl ?_
                        obtain ⟨⟨r381, f381, e381, g381⟩, h⟩ := h
                        cases e381
                        refine aw_cVi X [] (fun ad hlv => t_S_crash l hlv h) (cwV 0 X.hts (gd_V LK_600 LK_601 LK_602 LK_122 LK_code_S_crash) rfl rfl rfl (by decide +kernel) ⟨(Nat.le_of_ble_eq_true rfl), (Nat.le_of_ble_eq_true rfl)⟩) ⟨0, f381, _, g381, hc_0, rfl⟩ rfl rfl (Nat.le_of_ble_eq_true rfl) d_law_381 ⟨le_rc (by omega), le_rs (by omega)⟩ (fun a381 M381 h => ?_)
                        refine aw_aload_n X 2 rfl d_law_384 rfl ?_
                        obtain ⟨⟨r385, f385, e385, g385⟩, h⟩ := h
                        cases e385
                        refine aw_cVi X [] (fun ad hlv => t_M_crash l hlv h) (cwV 0 X.hts (gd_V LK_604 LK_605 LK_606 LK_463 LK_code_M_crash) rfl rfl rfl (by decide +kernel) ⟨(Nat.le_of_ble_eq_true rfl), (Nat.le_of_ble_eq_true rfl)⟩) ⟨9, f385, _, g385, hc_9, rfl⟩ rfl rfl (Nat.le_of_ble_eq_true rfl) d_law_385 ⟨le_rc (by omega), le_rs (by omega)⟩ (fun a385 M385 h => ?_)
                        refine aw_icmp_eq (tgt := 567) X d_law_388 (by decide) (fun c => ?_) (fun c => ?_)
                        · have h := h.1 c
                          refine aw_iinc (y := x3 + 6) (lvn := [(3, _), (0, _), (1, _), (2, _)]) X 3 rfl d_law_567 rfl (by decide) rfl ?_
                          refine aw_goto (tgt := 28) X d_law_570 (by decide) ?_
                          refine aw_lv [1, 2, 3, 0] rfl ?_
                          refine aw_widen (ce := 78 + (513 - n) * 7) (sl := 7058 + (513 - n) * 4806) (by omega) (by omega) ?_
                          exact ih (by omega) _ _ _ _ _ h
                        · have h := h.2 c
                          refine aw_iconst X (0) (by decide) d_law_391 ?_
                          exact h.elim
                      · have h := h.2 c8
                        rcases Decidable.em ((a39 &&& 15) = 9) with c9 | c9
                        · have h := h.1 c9
                          refine aw_tableIn (off := 350) (tgt := 393) X d_law_43 c9 (by decide) (by decide) (by decide) (by decide) ?_
                          refine aw_aload_n X 1 rfl d_law_393 rfl ?_
                          refine aw_aload_n X 0 rfl d_law_394 rfl ?_
                          refine aw_iload_n X 3 rfl d_law_395 rfl ?_
                          refine aw_iconst X (1) (by decide) d_law_396 ?_
                          refine aw_iadd X d_law_397 ?_
                          refine aw_xL X d_law_398 (h.mono (fun a398 h => ?_))
                          obtain ⟨⟨r399, f399, e399, g399⟩, h⟩ := h
                          cases e399
                          refine aw_cVi X [_] (fun ad hlv => t_S_answer l hlv h) (cwV 1 X.hts (gd_V LK_608 LK_609 LK_610 LK_122 LK_code_S_answer) rfl rfl rfl (by decide +kernel) ⟨(Nat.le_of_ble_eq_true rfl), (Nat.le_of_ble_eq_true rfl)⟩) ⟨0, f399, _, g399, hc_0, rfl⟩ rfl rfl (Nat.le_of_ble_eq_true rfl) d_law_399 ⟨le_rc (by omega), le_rs (by omega)⟩ (fun a399 M399 h => ?_)
                          refine aw_aload_n X 2 rfl d_law_402 rfl ?_
                          refine aw_aload_n X 0 rfl d_law_403 rfl ?_
                          refine aw_iload_n X 3 rfl d_law_404 rfl ?_
                          refine aw_iconst X (1) (by decide) d_law_405 ?_
                          refine aw_iadd X d_law_406 ?_
                          refine aw_xL X d_law_407 (h.mono (fun a407 h => ?_))
                          obtain ⟨⟨r408, f408, e408, g408⟩, h⟩ := h
                          cases e408
                          refine aw_cVi X [_] (fun ad hlv => t_M_answer l hlv h) (cwV 1 X.hts (gd_V LK_612 LK_613 LK_614 LK_463 LK_code_M_answer) rfl rfl rfl (by decide +kernel) ⟨(Nat.le_of_ble_eq_true rfl), (Nat.le_of_ble_eq_true rfl)⟩) ⟨9, f408, _, g408, hc_9, rfl⟩ rfl rfl (Nat.le_of_ble_eq_true rfl) d_law_408 ⟨le_rc (by omega), le_rs (by omega)⟩ (fun a408 M408 h => ?_)
                          refine aw_icmp_eq (tgt := 567) X d_law_411 (by decide) (fun c => ?_) (fun c => ?_)
                          · have h := h.1 c
                            refine aw_iinc (y := x3 + 6) (lvn := [(3, _), (0, _), (1, _), (2, _)]) X 3 rfl d_law_567 rfl (by decide) rfl ?_
                            refine aw_goto (tgt := 28) X d_law_570 (by decide) ?_
                            refine aw_lv [1, 2, 3, 0] rfl ?_
                            refine aw_widen (ce := 78 + (513 - n) * 7) (sl := 7058 + (513 - n) * 4806) (by omega) (by omega) ?_
                            exact ih (by omega) _ _ _ _ _ h
                          · have h := h.2 c
                            refine aw_iconst X (0) (by decide) d_law_414 ?_
                            exact h.elim
                        · have h := h.2 c9
                          rcases Decidable.em ((a39 &&& 15) = 10) with c10 | c10
                          · have h := h.1 c10
                            refine aw_tableIn (off := 373) (tgt := 416) X d_law_43 c10 (by decide) (by decide) (by decide) (by decide) ?_
                            refine aw_aload_n X 1 rfl d_law_416 rfl ?_
                            refine aw_aload_n X 0 rfl d_law_417 rfl ?_
                            refine aw_iload_n X 3 rfl d_law_418 rfl ?_
                            refine aw_iconst X (1) (by decide) d_law_419 ?_
                            refine aw_iadd X d_law_420 ?_
                            refine aw_xL X d_law_421 (h.mono (fun a421 h => ?_))
                            refine aw_aload_n X 0 rfl d_law_422 rfl ?_
                            refine aw_iload_n X 3 rfl d_law_423 rfl ?_
                            refine aw_iconst X (2) (by decide) d_law_424 ?_
                            refine aw_iadd X d_law_425 ?_
                            refine aw_xL X d_law_426 (h.mono (fun a426 h => ?_))
                            obtain ⟨⟨r427, f427, e427, g427⟩, h⟩ := h
                            cases e427
                            refine aw_cVl X [_, _] (fun ad hlv => t_S_output l hlv h) (cwV 2 X.hts (gd_V LK_616 LK_617 LK_618 LK_122 LK_code_S_output) rfl rfl rfl (by decide +kernel) ⟨(Nat.le_of_ble_eq_true rfl), (Nat.le_of_ble_eq_true rfl)⟩) ⟨0, f427, _, g427, hc_0, rfl⟩ rfl rfl (Nat.le_of_ble_eq_true rfl) d_law_427 ⟨le_rc (by omega), le_rs (by omega)⟩ (fun a427 M427 h => ?_)
                            refine aw_aload_n X 2 rfl d_law_430 rfl ?_
                            refine aw_aload_n X 0 rfl d_law_431 rfl ?_
                            refine aw_iload_n X 3 rfl d_law_432 rfl ?_
                            refine aw_iconst X (1) (by decide) d_law_433 ?_
                            refine aw_iadd X d_law_434 ?_
                            refine aw_xL X d_law_435 (h.mono (fun a435 h => ?_))
                            refine aw_aload_n X 0 rfl d_law_436 rfl ?_
                            refine aw_iload_n X 3 rfl d_law_437 rfl ?_
                            refine aw_iconst X (2) (by decide) d_law_438 ?_
                            refine aw_iadd X d_law_439 ?_
                            refine aw_xL X d_law_440 (h.mono (fun a440 h => ?_))
                            obtain ⟨⟨r441, f441, e441, g441⟩, h⟩ := h
                            cases e441
                            refine aw_cVl X [_, _] (fun ad hlv => t_M_output l hlv h) (cwV 2 X.hts (gd_V LK_620 LK_621 LK_622 LK_463 LK_code_M_output) rfl rfl rfl (by decide +kernel) ⟨(Nat.le_of_ble_eq_true rfl), (Nat.le_of_ble_eq_true rfl)⟩) ⟨9, f441, _, g441, hc_9, rfl⟩ rfl rfl (Nat.le_of_ble_eq_true rfl) d_law_441 ⟨le_rc (by omega), le_rs (by omega)⟩ (fun a441 M441 h => ?_)
                            refine aw_lcmp X d_law_444 ?_
                            refine aw_if_eq (tgt := 567) X d_law_445 (by decide) (fun c => ?_) (fun c => ?_)
                            · have h := h.1 c
                              refine aw_iinc (y := x3 + 6) (lvn := [(3, _), (0, _), (1, _), (2, _)]) X 3 rfl d_law_567 rfl (by decide) rfl ?_
                              refine aw_goto (tgt := 28) X d_law_570 (by decide) ?_
                              refine aw_lv [1, 2, 3, 0] rfl ?_
                              refine aw_widen (ce := 78 + (513 - n) * 7) (sl := 7058 + (513 - n) * 4806) (by omega) (by omega) ?_
                              exact ih (by omega) _ _ _ _ _ h
                            · have h := h.2 c
                              refine aw_iconst X (0) (by decide) d_law_448 ?_
                              exact h.elim
                          · have h := h.2 c10
                            rcases Decidable.em ((a39 &&& 15) = 11) with c11 | c11
                            · have h := h.1 c11
                              refine aw_tableIn (off := 407) (tgt := 450) X d_law_43 c11 (by decide) (by decide) (by decide) (by decide) ?_
                              refine aw_aload_n X 1 rfl d_law_450 rfl ?_
                              refine aw_aload_n X 0 rfl d_law_451 rfl ?_
                              refine aw_iload_n X 3 rfl d_law_452 rfl ?_
                              refine aw_iconst X (1) (by decide) d_law_453 ?_
                              refine aw_iadd X d_law_454 ?_
                              refine aw_xL X d_law_455 (h.mono (fun a455 h => ?_))
                              obtain ⟨⟨r456, f456, e456, g456⟩, h⟩ := h
                              cases e456
                              refine aw_cVl X [_] (fun ad hlv => t_S_row l hlv h) (cwV 1 X.hts (gd_V LK_624 LK_625 LK_626 LK_122 LK_code_S_row) rfl rfl rfl (by decide +kernel) ⟨(Nat.le_of_ble_eq_true rfl), (Nat.le_of_ble_eq_true rfl)⟩) ⟨0, f456, _, g456, hc_0, rfl⟩ rfl rfl (Nat.le_of_ble_eq_true rfl) d_law_456 ⟨le_rc (by omega), le_rs (by omega)⟩ (fun a456 M456 h => ?_)
                              refine aw_aload_n X 2 rfl d_law_459 rfl ?_
                              refine aw_aload_n X 0 rfl d_law_460 rfl ?_
                              refine aw_iload_n X 3 rfl d_law_461 rfl ?_
                              refine aw_iconst X (1) (by decide) d_law_462 ?_
                              refine aw_iadd X d_law_463 ?_
                              refine aw_xL X d_law_464 (h.mono (fun a464 h => ?_))
                              obtain ⟨⟨r465, f465, e465, g465⟩, h⟩ := h
                              cases e465
                              refine aw_cVl X [_] (fun ad hlv => t_M_row l hlv h) (cwV 1 X.hts (gd_V LK_628 LK_629 LK_630 LK_463 LK_code_M_row) rfl rfl rfl (by decide +kernel) ⟨(Nat.le_of_ble_eq_true rfl), (Nat.le_of_ble_eq_true rfl)⟩) ⟨9, f465, _, g465, hc_9, rfl⟩ rfl rfl (Nat.le_of_ble_eq_true rfl) d_law_465 ⟨le_rc (by omega), le_rs (by omega)⟩ (fun a465 M465 h => ?_)
                              refine aw_lcmp X d_law_468 ?_
                              refine aw_if_eq (tgt := 567) X d_law_469 (by decide) (fun c => ?_) (fun c => ?_)
                              · have h := h.1 c
                                refine aw_iinc (y := x3 + 6) (lvn := [(3, _), (0, _), (1, _), (2, _)]) X 3 rfl d_law_567 rfl (by decide) rfl ?_
                                refine aw_goto (tgt := 28) X d_law_570 (by decide) ?_
                                refine aw_lv [1, 2, 3, 0] rfl ?_
                                refine aw_widen (ce := 78 + (513 - n) * 7) (sl := 7058 + (513 - n) * 4806) (by omega) (by omega) ?_
                                exact ih (by omega) _ _ _ _ _ h
                              · have h := h.2 c
                                refine aw_iconst X (0) (by decide) d_law_472 ?_
                                exact h.elim
                            · have h := h.2 c11
                              rcases Decidable.em ((a39 &&& 15) = 12) with c12 | c12
                              · have h := h.1 c12
                                refine aw_tableIn (off := 431) (tgt := 474) X d_law_43 c12 (by decide) (by decide) (by decide) (by decide) ?_
                                refine aw_aload_n X 1 rfl d_law_474 rfl ?_
                                refine aw_aload_n X 0 rfl d_law_475 rfl ?_
                                refine aw_iload_n X 3 rfl d_law_476 rfl ?_
                                refine aw_iconst X (1) (by decide) d_law_477 ?_
                                refine aw_iadd X d_law_478 ?_
                                refine aw_xL X d_law_479 (h.mono (fun a479 h => ?_))
                                obtain ⟨⟨r480, f480, e480, g480⟩, h⟩ := h
                                cases e480
                                refine aw_cVl X [_] (fun ad hlv => t_S_replicated l hlv h) (cwV 1 X.hts (gd_V LK_632 LK_633 LK_634 LK_122 LK_code_S_replicated) rfl rfl rfl (by decide +kernel) ⟨(Nat.le_of_ble_eq_true rfl), (Nat.le_of_ble_eq_true rfl)⟩) ⟨0, f480, _, g480, hc_0, rfl⟩ rfl rfl (Nat.le_of_ble_eq_true rfl) d_law_480 ⟨le_rc (by omega), le_rs (by omega)⟩ (fun a480 M480 h => ?_)
                                refine aw_aload_n X 2 rfl d_law_483 rfl ?_
                                refine aw_aload_n X 0 rfl d_law_484 rfl ?_
                                refine aw_iload_n X 3 rfl d_law_485 rfl ?_
                                refine aw_iconst X (1) (by decide) d_law_486 ?_
                                refine aw_iadd X d_law_487 ?_
                                refine aw_xL X d_law_488 (h.mono (fun a488 h => ?_))
                                obtain ⟨⟨r489, f489, e489, g489⟩, h⟩ := h
                                cases e489
                                refine aw_cVl X [_] (fun ad hlv => t_M_replicated l hlv h) (cwV 1 X.hts (gd_V LK_636 LK_637 LK_638 LK_463 LK_code_M_replicated) rfl rfl rfl (by decide +kernel) ⟨(Nat.le_of_ble_eq_true rfl), (Nat.le_of_ble_eq_true rfl)⟩) ⟨9, f489, _, g489, hc_9, rfl⟩ rfl rfl (Nat.le_of_ble_eq_true rfl) d_law_489 ⟨le_rc (by omega), le_rs (by omega)⟩ (fun a489 M489 h => ?_)
                                refine aw_lcmp X d_law_492 ?_
                                refine aw_if_eq (tgt := 567) X d_law_493 (by decide) (fun c => ?_) (fun c => ?_)
                                · have h := h.1 c
                                  refine aw_iinc (y := x3 + 6) (lvn := [(3, _), (0, _), (1, _), (2, _)]) X 3 rfl d_law_567 rfl (by decide) rfl ?_
                                  refine aw_goto (tgt := 28) X d_law_570 (by decide) ?_
                                  refine aw_lv [1, 2, 3, 0] rfl ?_
                                  refine aw_widen (ce := 78 + (513 - n) * 7) (sl := 7058 + (513 - n) * 4806) (by omega) (by omega) ?_
                                  exact ih (by omega) _ _ _ _ _ h
                                · have h := h.2 c
                                  refine aw_iconst X (0) (by decide) d_law_496 ?_
                                  exact h.elim
                              · have h := h.2 c12
                                rcases Decidable.em ((a39 &&& 15) = 13) with c13 | c13
                                · have h := h.1 c13
                                  refine aw_tableIn (off := 455) (tgt := 498) X d_law_43 c13 (by decide) (by decide) (by decide) (by decide) ?_
                                  refine aw_aload_n X 1 rfl d_law_498 rfl ?_
                                  refine aw_aload_n X 0 rfl d_law_499 rfl ?_
                                  refine aw_iload_n X 3 rfl d_law_500 rfl ?_
                                  refine aw_iconst X (1) (by decide) d_law_501 ?_
                                  refine aw_iadd X d_law_502 ?_
                                  refine aw_xL X d_law_503 (h.mono (fun a503 h => ?_))
                                  obtain ⟨⟨r504, f504, e504, g504⟩, h⟩ := h
                                  cases e504
                                  refine aw_cVi X [_] (fun ad hlv => t_S_waiting l hlv h) (cwV 1 X.hts (gd_V LK_640 LK_641 LK_642 LK_122 LK_code_S_waiting) rfl rfl rfl (by decide +kernel) ⟨(Nat.le_of_ble_eq_true rfl), (Nat.le_of_ble_eq_true rfl)⟩) ⟨0, f504, _, g504, hc_0, rfl⟩ rfl rfl (Nat.le_of_ble_eq_true rfl) d_law_504 ⟨le_rc (by omega), le_rs (by omega)⟩ (fun a504 M504 h => ?_)
                                  refine aw_aload_n X 2 rfl d_law_507 rfl ?_
                                  refine aw_aload_n X 0 rfl d_law_508 rfl ?_
                                  refine aw_iload_n X 3 rfl d_law_509 rfl ?_
                                  refine aw_iconst X (1) (by decide) d_law_510 ?_
                                  refine aw_iadd X d_law_511 ?_
                                  refine aw_xL X d_law_512 (h.mono (fun a512 h => ?_))
                                  obtain ⟨⟨r513, f513, e513, g513⟩, h⟩ := h
                                  cases e513
                                  refine aw_cVi X [_] (fun ad hlv => t_M_waiting l hlv h) (cwV 1 X.hts (gd_V LK_644 LK_645 LK_646 LK_463 LK_code_M_waiting) rfl rfl rfl (by decide +kernel) ⟨(Nat.le_of_ble_eq_true rfl), (Nat.le_of_ble_eq_true rfl)⟩) ⟨9, f513, _, g513, hc_9, rfl⟩ rfl rfl (Nat.le_of_ble_eq_true rfl) d_law_513 ⟨le_rc (by omega), le_rs (by omega)⟩ (fun a513 M513 h => ?_)
                                  refine aw_icmp_eq (tgt := 567) X d_law_516 (by decide) (fun c => ?_) (fun c => ?_)
                                  · have h := h.1 c
                                    refine aw_iinc (y := x3 + 6) (lvn := [(3, _), (0, _), (1, _), (2, _)]) X 3 rfl d_law_567 rfl (by decide) rfl ?_
                                    refine aw_goto (tgt := 28) X d_law_570 (by decide) ?_
                                    refine aw_lv [1, 2, 3, 0] rfl ?_
                                    refine aw_widen (ce := 78 + (513 - n) * 7) (sl := 7058 + (513 - n) * 4806) (by omega) (by omega) ?_
                                    exact ih (by omega) _ _ _ _ _ h
                                  · have h := h.2 c
                                    refine aw_iconst X (0) (by decide) d_law_519 ?_
                                    exact h.elim
                                · have h := h.2 c13
                                  rcases Decidable.em ((a39 &&& 15) = 14) with c14 | c14
                                  · have h := h.1 c14
                                    refine aw_tableIn (off := 478) (tgt := 521) X d_law_43 c14 (by decide) (by decide) (by decide) (by decide) ?_
                                    refine aw_aload_n X 1 rfl d_law_521 rfl ?_
                                    refine aw_aload_n X 0 rfl d_law_522 rfl ?_
                                    refine aw_iload_n X 3 rfl d_law_523 rfl ?_
                                    refine aw_iconst X (1) (by decide) d_law_524 ?_
                                    refine aw_iadd X d_law_525 ?_
                                    refine aw_xL X d_law_526 (h.mono (fun a526 h => ?_))
                                    obtain ⟨⟨r527, f527, e527, g527⟩, h⟩ := h
                                    cases e527
                                    refine aw_cVi X [_] (fun ad hlv => t_S_rows l hlv h) (cwV 1 X.hts (gd_V LK_648 LK_649 LK_650 LK_122 LK_code_S_rows) rfl rfl rfl (by decide +kernel) ⟨(Nat.le_of_ble_eq_true rfl), (Nat.le_of_ble_eq_true rfl)⟩) ⟨0, f527, _, g527, hc_0, rfl⟩ rfl rfl (Nat.le_of_ble_eq_true rfl) d_law_527 ⟨le_rc (by omega), le_rs (by omega)⟩ (fun a527 M527 h => ?_)
                                    refine aw_aload_n X 2 rfl d_law_530 rfl ?_
                                    refine aw_aload_n X 0 rfl d_law_531 rfl ?_
                                    refine aw_iload_n X 3 rfl d_law_532 rfl ?_
                                    refine aw_iconst X (1) (by decide) d_law_533 ?_
                                    refine aw_iadd X d_law_534 ?_
                                    refine aw_xL X d_law_535 (h.mono (fun a535 h => ?_))
                                    obtain ⟨⟨r536, f536, e536, g536⟩, h⟩ := h
                                    cases e536
                                    refine aw_cVi X [_] (fun ad hlv => t_M_rows l hlv h) (cwV 1 X.hts (gd_V LK_652 LK_653 LK_654 LK_463 LK_code_M_rows) rfl rfl rfl (by decide +kernel) ⟨(Nat.le_of_ble_eq_true rfl), (Nat.le_of_ble_eq_true rfl)⟩) ⟨9, f536, _, g536, hc_9, rfl⟩ rfl rfl (Nat.le_of_ble_eq_true rfl) d_law_536 ⟨le_rc (by omega), le_rs (by omega)⟩ (fun a536 M536 h => ?_)
                                    refine aw_icmp_eq (tgt := 567) X d_law_539 (by decide) (fun c => ?_) (fun c => ?_)
                                    · have h := h.1 c
                                      refine aw_iinc (y := x3 + 6) (lvn := [(3, _), (0, _), (1, _), (2, _)]) X 3 rfl d_law_567 rfl (by decide) rfl ?_
                                      refine aw_goto (tgt := 28) X d_law_570 (by decide) ?_
                                      refine aw_lv [1, 2, 3, 0] rfl ?_
                                      refine aw_widen (ce := 78 + (513 - n) * 7) (sl := 7058 + (513 - n) * 4806) (by omega) (by omega) ?_
                                      exact ih (by omega) _ _ _ _ _ h
                                    · have h := h.2 c
                                      refine aw_iconst X (0) (by decide) d_law_542 ?_
                                      exact h.elim
                                  · have h := h.2 c14
                                    rcases Decidable.em ((a39 &&& 15) = 15) with c15 | c15
                                    · have h := h.1 c15
                                      refine aw_tableIn (off := 501) (tgt := 544) X d_law_43 c15 (by decide) (by decide) (by decide) (by decide) ?_
                                      refine aw_aload_n X 1 rfl d_law_544 rfl ?_
                                      refine aw_aload_n X 0 rfl d_law_545 rfl ?_
                                      refine aw_iload_n X 3 rfl d_law_546 rfl ?_
                                      refine aw_iconst X (1) (by decide) d_law_547 ?_
                                      refine aw_iadd X d_law_548 ?_
                                      refine aw_xL X d_law_549 (h.mono (fun a549 h => ?_))
                                      obtain ⟨⟨r550, f550, e550, g550⟩, h⟩ := h
                                      cases e550
                                      refine aw_cVi X [_] (fun ad hlv => t_S_count l hlv h) (cwV 1 X.hts (gd_V LK_656 LK_657 LK_658 LK_122 LK_code_S_count) rfl rfl rfl (by decide +kernel) ⟨(Nat.le_of_ble_eq_true rfl), (Nat.le_of_ble_eq_true rfl)⟩) ⟨0, f550, _, g550, hc_0, rfl⟩ rfl rfl (Nat.le_of_ble_eq_true rfl) d_law_550 ⟨le_rc (by omega), le_rs (by omega)⟩ (fun a550 M550 h => ?_)
                                      refine aw_aload_n X 2 rfl d_law_553 rfl ?_
                                      refine aw_aload_n X 0 rfl d_law_554 rfl ?_
                                      refine aw_iload_n X 3 rfl d_law_555 rfl ?_
                                      refine aw_iconst X (1) (by decide) d_law_556 ?_
                                      refine aw_iadd X d_law_557 ?_
                                      refine aw_xL X d_law_558 (h.mono (fun a558 h => ?_))
                                      obtain ⟨⟨r559, f559, e559, g559⟩, h⟩ := h
                                      cases e559
                                      refine aw_cVi X [_] (fun ad hlv => t_M_count l hlv h) (cwV 1 X.hts (gd_V LK_660 LK_661 LK_662 LK_463 LK_code_M_count) rfl rfl rfl (by decide +kernel) ⟨(Nat.le_of_ble_eq_true rfl), (Nat.le_of_ble_eq_true rfl)⟩) ⟨9, f559, _, g559, hc_9, rfl⟩ rfl rfl (Nat.le_of_ble_eq_true rfl) d_law_559 ⟨le_rc (by omega), le_rs (by omega)⟩ (fun a559 M559 h => ?_)
                                      refine aw_icmp_eq (tgt := 567) X d_law_562 (by decide) (fun c => ?_) (fun c => ?_)
                                      · have h := h.1 c
                                        refine aw_iinc (y := x3 + 6) (lvn := [(3, _), (0, _), (1, _), (2, _)]) X 3 rfl d_law_567 rfl (by decide) rfl ?_
                                        refine aw_goto (tgt := 28) X d_law_570 (by decide) ?_
                                        refine aw_lv [1, 2, 3, 0] rfl ?_
                                        refine aw_widen (ce := 78 + (513 - n) * 7) (sl := 7058 + (513 - n) * 4806) (by omega) (by omega) ?_
                                        exact ih (by omega) _ _ _ _ _ h
                                      · have h := h.2 c
                                        refine aw_iconst X (0) (by decide) d_law_565 ?_
                                        exact h.elim
                                    · have h := h.2 c15
                                      have z0 := lv_neT (a := 0) c0 (by decide)
                                      have z1 := lv_neT (a := 1) c1 (by decide)
                                      have z2 := lv_neT (a := 2) c2 (by decide)
                                      have z3 := lv_neT (a := 3) c3 (by decide)
                                      have z4 := lv_neT (a := 4) c4 (by decide)
                                      have z5 := lv_neT (a := 5) c5 (by decide)
                                      have z6 := lv_neT (a := 6) c6 (by decide)
                                      have z7 := lv_neT (a := 7) c7 (by decide)
                                      have z8 := lv_neT (a := 8) c8 (by decide)
                                      have z9 := lv_neT (a := 9) c9 (by decide)
                                      have z10 := lv_neT (a := 10) c10 (by decide)
                                      have z11 := lv_neT (a := 11) c11 (by decide)
                                      have z12 := lv_neT (a := 12) c12 (by decide)
                                      have z13 := lv_neT (a := 13) c13 (by decide)
                                      have z14 := lv_neT (a := 14) c14 (by decide)
                                      have z15 := lv_neT (a := 15) c15 (by decide)
                                      refine aw_tableOut (tgt := 567) X d_law_43 (by omega) (by decide) ?_
                                      refine aw_iinc (y := x3 + 6) (lvn := [(3, _), (0, _), (1, _), (2, _)]) X 3 rfl d_law_567 rfl (by decide) rfl ?_
                                      refine aw_goto (tgt := 28) X d_law_570 (by decide) ?_
                                      refine aw_lv [1, 2, 3, 0] rfl ?_
                                      refine aw_widen (ce := 78 + (513 - n) * 7) (sl := 7058 + (513 - n) * 4806) (by omega) (by omega) ?_
                                      exact ih (by omega) _ _ _ _ _ h
def wp_law (zE : ZT) (x0 : Option Ro) (M : wM) : Prop := nO M 0 fd_0 (fun a0 M0 => wp_L_cell (fun a6 M6 => cV M6 a0 0 (wp_S_init (fun M9 => nO M9 9 fd_9 (fun a13 M13 => wp_L_cell (fun a19 M19 => cV M19 a13 9 (wp_M_init (fun M22 => (∃ n, n ≤ 513 ∧ wp_law_28 zE n x0 a0 a13 1 M22)) a13 a19 M19)) zE x0 0 M13)) a0 a6 M6)) zE x0 0 M0)
set_option maxRecDepth 100000 in
set_option maxHeartbeats 4000000 in
theorem sd_law_0 (X : Cx p s m #[Value.ref b] meth c code 4 R_L TBL D dA s.heap.size zE) (hr : meth.sig.returnType = ret) {x0 : Option Ro} {M : wM} (h : wp_law zE x0 M) : AW p l e room_1 s m #[Value.ref b] below meth c (lw_Z below #[Value.ref b] s) D dA s.heap.size zE 4 ad0 M0 M 0 0 0 [(0, vR x0)] [] := by
  unfold wp_law at h
  refine aw_nO X hc_0 in_0 ty_0 tyok_0 LK_522 LK_523 LK_122 fs_0 fl_0 (Nat.le_of_ble_eq_true rfl) (Nat.le_of_ble_eq_true rfl) d_law_0 (h.mono (fun a0 M0 h => ?_))
  refine aw_dup X rfl d_law_3 ?_
  refine aw_aload_n X 0 rfl d_law_4 rfl ?_
  refine aw_iconst X (0) (by decide) d_law_5 ?_
  refine aw_cSi X [_, _] (fun ad hlv => t_L_cell l hlv h) (cwS 2 X.hts (gd_S LK_524 LK_525 LK_526 LK_code_L_cell) rfl rfl rfl (by decide +kernel) ⟨(Nat.le_of_ble_eq_true rfl), (Nat.le_of_ble_eq_true rfl)⟩) rfl rfl (Nat.le_of_ble_eq_true rfl) d_law_6 ⟨(Nat.le_of_ble_eq_true rfl), (Nat.le_of_ble_eq_true rfl)⟩ (fun a6 M6 h => ?_)
  obtain ⟨⟨r9, f9, e9, g9⟩, h⟩ := h
  cases e9
  refine aw_cIv X [_] (fun ad hlv => t_S_init l hlv h) (cwI 1 X.hts (gd_in LK_code_S_init) rfl rfl rfl (X.hts _ LK_122) (X.hts _ LK_529) (X.hts _ LK_530) rfl (by decide +kernel) ⟨(Nat.le_of_ble_eq_true rfl), (Nat.le_of_ble_eq_true rfl)⟩) rfl rfl (Nat.le_of_ble_eq_true rfl) d_law_9 ⟨(Nat.le_of_ble_eq_true rfl), (Nat.le_of_ble_eq_true rfl)⟩ (fun M9 h => ?_)
  refine aw_astore_n (lvn := [(1, _), (0, _)]) X d_law_12 rfl (by decide) rfl ?_
  refine aw_nO X hc_9 in_9 ty_9 tyok_9 LK_531 LK_532 LK_463 fs_9 fl_9 (Nat.le_of_ble_eq_true rfl) (Nat.le_of_ble_eq_true rfl) d_law_13 (h.mono (fun a13 M13 h => ?_))
  refine aw_dup X rfl d_law_16 ?_
  refine aw_aload_n X 1 rfl d_law_17 rfl ?_
  refine aw_iconst X (0) (by decide) d_law_18 ?_
  refine aw_cSi X [_, _] (fun ad hlv => t_L_cell l hlv h) (cwS 2 X.hts (gd_S LK_524 LK_525 LK_526 LK_code_L_cell) rfl rfl rfl (by decide +kernel) ⟨(Nat.le_of_ble_eq_true rfl), (Nat.le_of_ble_eq_true rfl)⟩) rfl rfl (Nat.le_of_ble_eq_true rfl) d_law_19 ⟨(Nat.le_of_ble_eq_true rfl), (Nat.le_of_ble_eq_true rfl)⟩ (fun a19 M19 h => ?_)
  obtain ⟨⟨r22, f22, e22, g22⟩, h⟩ := h
  cases e22
  refine aw_cIv X [_] (fun ad hlv => t_M_init l hlv h) (cwI 1 X.hts (gd_in LK_code_M_init) rfl rfl rfl (X.hts _ LK_463) (X.hts _ LK_534) (X.hts _ LK_535) rfl (by decide +kernel) ⟨(Nat.le_of_ble_eq_true rfl), (Nat.le_of_ble_eq_true rfl)⟩) rfl rfl (Nat.le_of_ble_eq_true rfl) d_law_22 ⟨(Nat.le_of_ble_eq_true rfl), (Nat.le_of_ble_eq_true rfl)⟩ (fun M22 h => ?_)
  refine aw_astore_n (lvn := [(2, _), (1, _), (0, _)]) X d_law_25 rfl (by decide) rfl ?_
  refine aw_iconst X (1) (by decide) d_law_26 ?_
  refine aw_istore_n (lvn := [(3, _), (2, _), (1, _), (0, _)]) X d_law_27 rfl (by decide) rfl ?_
  refine aw_lv [3, 2, 1, 0] rfl ?_
  obtain ⟨n, hn, h⟩ := h
  refine aw_widen (ce := 78 + (513 - n) * 7) (sl := 7058 + (513 - n) * 4806) (by omega) (by omega) ?_
  exact sd_law_28 X hr n hn _ _ _ _ _ h
end
