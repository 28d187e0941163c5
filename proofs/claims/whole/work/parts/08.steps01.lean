abbrev rm_S_isWithin : Room := { frames := 0, cells := 0, slots := 0, locals := 0 }
section
variable {p : Program} {l : Launch} {e : Env} {s : State} {m : MethodId} {args : Array Value} {below : List Frame} {meth : Method} {c : Code} {D : va_G} {dA : Nat → ClassId} {B : Nat} {zE : ZT} {ad0 : Ro → Nat} {M0 : wM}
def wp_S_isWithin_14 (post : Int32 → wM → Prop) (x0 : Int32) (x1 : Int32) (s0 : Int32) (M : wM) : Prop := (s0 = 0 ∨ s0 = 1) ∧ post s0 M
set_option maxRecDepth 100000 in
set_option maxHeartbeats 4000000 in
theorem sd_S_isWithin_14 (X : Cx p s m args meth c b_S_isWithin 2 R_S TBL D dA B zE) (hr : meth.sig.returnType = (some .boolean)) (hin : meth.name = y_S_isWithin.name) {post : Int32 → wM → Prop} {x0 : Int32} {x1 : Int32} {s0 : Int32} {M : wM} (h : wp_S_isWithin_14 post x0 x1 s0 M) : AW p l e (headSpec w_S_isWithin rm_S_isWithin).room s m args below meth c (MQ below (QI D dA B zE M0 ad0 post) args s 0 0 (wA B)) D dA B zE 2 ad0 M0 M 0 0 14 [(0, vI x0), (1, vI x1)] [vI s0] := by
  unfold wp_S_isWithin_14 at h
  exact aw_zret X hr h.1 (Nat.le_of_ble_eq_true rfl) (Nat.le_of_ble_eq_true rfl) d_S_isWithin_14 h.2
def wp_S_isWithin_13 (post : Int32 → wM → Prop) (x0 : Int32) (x1 : Int32) (M : wM) : Prop := wp_S_isWithin_14 post x0 x1 0 M
set_option maxRecDepth 100000 in
set_option maxHeartbeats 4000000 in
theorem sd_S_isWithin_13 (X : Cx p s m args meth c b_S_isWithin 2 R_S TBL D dA B zE) (hr : meth.sig.returnType = (some .boolean)) (hin : meth.name = y_S_isWithin.name) {post : Int32 → wM → Prop} {x0 : Int32} {x1 : Int32} {M : wM} (h : wp_S_isWithin_13 post x0 x1 M) : AW p l e (headSpec w_S_isWithin rm_S_isWithin).room s m args below meth c (MQ below (QI D dA B zE M0 ad0 post) args s 0 0 (wA B)) D dA B zE 2 ad0 M0 M 0 0 13 [(0, vI x0), (1, vI x1)] [] := by
  unfold wp_S_isWithin_13 at h
  refine aw_iconst X (0) (by decide) d_S_isWithin_13 ?_
  exact sd_S_isWithin_14 X hr hin h
def wp_S_isWithin (post : Int32 → wM → Prop) (x0 : Int32) (x1 : Int32) (M : wM) : Prop := (x0 < 0 → wp_S_isWithin_13 post x0 x1 M) ∧ (¬ x0 < 0 → (x1 ≤ x0 → wp_S_isWithin_13 post x0 x1 M) ∧ (¬ x1 ≤ x0 → wp_S_isWithin_14 post x0 x1 1 M))
set_option maxRecDepth 100000 in
set_option maxHeartbeats 4000000 in
theorem sd_S_isWithin_0 (X : Cx p s m args meth c b_S_isWithin 2 R_S TBL D dA B zE) (hr : meth.sig.returnType = (some .boolean)) (hin : meth.name = y_S_isWithin.name) {post : Int32 → wM → Prop} {x0 : Int32} {x1 : Int32} {M : wM} (h : wp_S_isWithin post x0 x1 M) : AW p l e (headSpec w_S_isWithin rm_S_isWithin).room s m args below meth c (MQ below (QI D dA B zE M0 ad0 post) args s 0 0 (wA B)) D dA B zE 2 ad0 M0 M 0 0 0 [(0, vI x0), (1, vI x1)] [] := by
  unfold wp_S_isWithin at h
  refine aw_iload_n X 0 rfl d_S_isWithin_0 rfl ?_
  refine aw_if_lt (tgt := 13) X d_S_isWithin_1 (by decide) (fun c => ?_) (fun c => ?_)
  · have h := h.1 c
    exact sd_S_isWithin_13 X hr hin h
  · have h := h.2 c
    refine aw_iload_n X 0 rfl d_S_isWithin_4 rfl ?_
    refine aw_iload_n X 1 rfl d_S_isWithin_5 rfl ?_
    refine aw_icmp_ge (tgt := 13) X d_S_isWithin_6 (by decide) (fun c => ?_) (fun c => ?_)
    · have h := h.1 c
      exact sd_S_isWithin_13 X hr hin h
    · have h := h.2 c
      refine aw_iconst X (1) (by decide) d_S_isWithin_9 ?_
      refine aw_goto (tgt := 14) X d_S_isWithin_10 (by decide) ?_
      exact sd_S_isWithin_14 X hr hin h
end
theorem t_S_isWithin (l : Launch) {D : va_G} {dA : Nat → ClassId} {B : Nat} {zE : ZT} {M : wM} {ad : Ro → Nat} {post : Int32 → wM → Prop} {x0 : Int32} {x1 : Int32} (hlv : lvS M [vI x0, vI x1]) (h : wp_S_isWithin post x0 x1 M) : Met l y_S_isWithin w_S_isWithin rm_S_isWithin (PA D dA B zE M ad [vI x0, vI x1]) (QI D dA B zE M ad post) 0 0 (wA B) :=
  AW_start [vI x0, vI x1] [(0, vI x0), (1, vI x1)] hlv (by decide +kernel) rfl (fun _ hw => List.mem_cons_of_mem _ hw) rfl (Nat.le_of_ble_eq_true rfl) (fun p e s m args below meth c X hr hin => sd_S_isWithin_0 X hr hin h)
abbrev rm_A_clear : Room := { frames := 0, cells := 0, slots := 0, locals := 0 }
section
variable {p : Program} {l : Launch} {e : Env} {s : State} {m : MethodId} {args : Array Value} {below : List Frame} {meth : Method} {c : Code} {D : va_G} {dA : Nat → ClassId} {B : Nat} {zE : ZT} {ad0 : Ro → Nat} {M0 : wM}
def wp_A_clear_27 (post : wM → Prop) : Nat → Option Ro → Option Ro → Int32 → Int32 → wM → Prop
  | 0, _, _, _, _, _ => False
  | n + 1, x0, x1, x2, x3, M => (x2 ≤ x3 → post M) ∧ (¬ x2 ≤ x3 → sR M x1 x3 none (fun M35 => wp_A_clear_27 post n x0 x1 x2 (x3 + 1) M35))
set_option maxRecDepth 100000 in
set_option maxHeartbeats 4000000 in
theorem sd_A_clear_27 (X : Cx p s m args meth c b_A_clear 4 R_A TBL D dA B zE) (hr : meth.sig.returnType = none) (hin : meth.name = y_A_clear.name) {post : wM → Prop} : ∀ (n : Nat) (x0 : Option Ro) (x1 : Option Ro) (x2 : Int32) (x3 : Int32) (M : wM), wp_A_clear_27 post n x0 x1 x2 x3 M → AW p l e (headSpec w_A_clear rm_A_clear).room s m args below meth c (MQ below (QV D dA B zE M0 ad0 post) args s 0 0 (wA B)) D dA B zE 4 ad0 M0 M 0 0 27 [(0, vR x0), (1, vR x1), (2, vI x2), (3, vI x3)] [] := by
  intro n
  induction n with
  | zero => intro x0 x1 x2 x3 M h; exact h.elim
  | succ n ih =>
    intro x0 x1 x2 x3 M h
    unfold wp_A_clear_27 at h
    refine aw_iload_n X 3 rfl d_A_clear_27 rfl ?_
    refine aw_iload_n X 2 rfl d_A_clear_28 rfl ?_
    refine aw_icmp_ge (tgt := 42) X d_A_clear_29 (by decide) (fun c => ?_) (fun c => ?_)
    · have h := h.1 c
      exact aw_vret X hr (Nat.le_of_ble_eq_true rfl) (Nat.le_of_ble_eq_true rfl) d_A_clear_42 h
    · have h := h.2 c
      refine aw_aload_n X 1 rfl d_A_clear_32 rfl ?_
      refine aw_iload_n X 3 rfl d_A_clear_33 rfl ?_
      refine aw_null X d_A_clear_34 ?_
      refine aw_sR X d_A_clear_35 (h.mono (fun M35 h => ?_))
      refine aw_iinc (y := x3 + 1) (lvn := [(3, _), (0, _), (1, _), (2, _)]) X 3 rfl d_A_clear_36 rfl (by decide) rfl ?_
      refine aw_goto (tgt := 27) X d_A_clear_39 (by decide) ?_
      refine aw_lv [1, 2, 3, 0] rfl ?_
      exact ih _ _ _ _ _ h
def wp_A_clear (post : wM → Prop) (x0 : Option Ro) (M : wM) : Prop := gI M x0 8 2 (fun a2 => pF M x0 8 2 (vI (a2 + 1)) (fun M7 => gR M7 x0 8 0 (fun a11 => gI M7 x0 8 1 (fun a16 => pF M7 x0 8 1 (vI 0) (fun M23 => (∃ n, wp_A_clear_27 post n x0 a11 a16 0 M23))))))
set_option maxRecDepth 100000 in
set_option maxHeartbeats 4000000 in
theorem sd_A_clear_0 (X : Cx p s m args meth c b_A_clear 4 R_A TBL D dA B zE) (hr : meth.sig.returnType = none) (hin : meth.name = y_A_clear.name) {post : wM → Prop} {x0 : Option Ro} {M : wM} (h : wp_A_clear post x0 M) : AW p l e (headSpec w_A_clear rm_A_clear).room s m args below meth c (MQ below (QV D dA B zE M0 ad0 post) args s 0 0 (wA B)) D dA B zE 4 ad0 M0 M 0 0 0 [(0, vR x0)] [] := by
  unfold wp_A_clear at h
  refine aw_aload_n X 0 rfl d_A_clear_0 rfl ?_
  refine aw_dup X rfl d_A_clear_1 ?_
  refine aw_gI X hc_8 in_8 2 (by decide) LK_113 (fun _ _ h x hx => u_same (h _ LK_114) x hx) d_A_clear_2 (h.mono (fun a2 h => ?_))
  refine aw_iconst X (1) (by decide) d_A_clear_5 ?_
  refine aw_iadd X d_A_clear_6 ?_
  refine aw_pF (ty := .int) X hc_8 in_8 2 (by decide) ty_8 tyok_8 nm_8 LK_113 (fun _ _ h x hx => u_same (h _ LK_114) x hx) rfl (by decide +kernel) (fun _ => ⟨rfl, rfl⟩) d_A_clear_7 (h.mono (fun M7 h => ?_))
  refine aw_aload_n X 0 rfl d_A_clear_10 rfl ?_
  refine aw_gR X hc_8 in_8 0 (by decide) LK_13 (fun _ _ _ _ h => h) d_A_clear_11 (h.mono (fun a11 h => ?_))
  refine aw_astore_n (lvn := [(1, _), (0, _)]) X d_A_clear_14 rfl (by decide) rfl ?_
  refine aw_aload_n X 1 rfl d_A_clear_15 rfl ?_
  refine aw_gI X hc_8 in_8 1 (by decide) LK_115 (fun _ _ _ _ h => h) d_A_clear_16 (h.mono (fun a16 h => ?_))
  refine aw_istore_n (lvn := [(2, _), (1, _), (0, _)]) X d_A_clear_19 rfl (by decide) rfl ?_
  refine aw_aload_n X 2 rfl d_A_clear_20 rfl ?_
  refine aw_iconst X (0) (by decide) d_A_clear_21 ?_
  refine aw_dup_x1 X rfl rfl d_A_clear_22 ?_
  refine aw_pF (ty := .int) X hc_8 in_8 1 (by decide) ty_8 tyok_8 nm_8 LK_115 (fun _ _ _ _ h => h) rfl (by decide +kernel) (fun _ => ⟨rfl, rfl⟩) d_A_clear_23 (h.mono (fun M23 h => ?_))
  refine aw_istore_n (lvn := [(3, _), (2, _), (1, _), (0, _)]) X d_A_clear_26 rfl (by decide) rfl ?_
  refine aw_lv [3, 2, 1, 0] rfl ?_
  obtain ⟨n, h⟩ := h
  exact sd_A_clear_27 X hr hin n _ _ _ _ _ h
end
theorem t_A_clear (l : Launch) {D : va_G} {dA : Nat → ClassId} {B : Nat} {zE : ZT} {M : wM} {ad : Ro → Nat} {post : wM → Prop} {x0 : Option Ro} (hlv : lvS M [vR x0]) (h : wp_A_clear post x0 M) : Met l y_A_clear w_A_clear rm_A_clear (PA D dA B zE M ad [vR x0]) (QV D dA B zE M ad post) 0 0 (wA B) :=
  AW_start [vR x0] [(0, vR x0)] hlv (by decide +kernel) rfl (fun _ hw => List.mem_cons_of_mem _ hw) rfl (Nat.le_of_ble_eq_true rfl) (fun p e s m args below meth c X hr hin => sd_A_clear_0 X hr hin h)
abbrev rm_P_restart : Room := { frames := 1, cells := 0, slots := 0, locals := 23 }
section
variable {p : Program} {l : Launch} {e : Env} {s : State} {m : MethodId} {args : Array Value} {below : List Frame} {meth : Method} {c : Code} {D : va_G} {dA : Nat → ClassId} {B : Nat} {zE : ZT} {ad0 : Ro → Nat} {M0 : wM}
def wp_P_restart (post : wM → Prop) (x0 : Option Ro) (x1 : Int32) (M : wM) : Prop := gR M x0 2 0 (fun a1 => cV M a1 8 (wp_A_clear (fun M4 => pZ M4 x0 2 1 x1 (fun M9 => post M9)) a1 M))
set_option maxRecDepth 100000 in
set_option maxHeartbeats 4000000 in
theorem sd_P_restart_0 (X : Cx p s m args meth c b_P_restart 2 R_P TBL D dA B zE) (hr : meth.sig.returnType = none) (hin : meth.name = y_P_restart.name) {post : wM → Prop} {x0 : Option Ro} {x1 : Int32} {M : wM} (h : wp_P_restart post x0 x1 M) : AW p l e (headSpec w_P_restart rm_P_restart).room s m args below meth c (MQ below (QV D dA B zE M0 ad0 post) args s 0 0 (wA B)) D dA B zE 2 ad0 M0 M 0 0 0 [(0, vR x0), (1, vI x1)] [] := by
  unfold wp_P_restart at h
  refine aw_aload_n X 0 rfl d_P_restart_0 rfl ?_
  refine aw_gR X hc_2 in_2 0 (by decide) LK_46 (fun _ _ _ _ h => h) d_P_restart_1 (h.mono (fun a1 h => ?_))
  obtain ⟨⟨r4, f4, e4, g4⟩, h⟩ := h
  cases e4
  refine aw_cVv X [] (fun ad hlv => t_A_clear l hlv h) (cwV 0 X.hts (gd_V LK_116 LK_117 LK_118 LK_42 LK_code_A_clear) rfl rfl rfl (by decide +kernel) ⟨(Nat.le_of_ble_eq_true rfl), (Nat.le_of_ble_eq_true rfl)⟩) ⟨8, f4, _, g4, hc_8, rfl⟩ rfl rfl (Nat.le_of_ble_eq_true rfl) d_P_restart_4 ⟨(Nat.le_of_ble_eq_true rfl), (Nat.le_of_ble_eq_true rfl)⟩ (fun M4 h => ?_)
  refine aw_aload_n X 0 rfl d_P_restart_7 rfl ?_
  refine aw_iload_n X 1 rfl d_P_restart_8 rfl ?_
  obtain ⟨hz, h⟩ := h
  refine aw_pF (ty := .boolean) X hc_2 in_2 1 (by decide) ty_2 tyok_2 nm_2 LK_47 (fun _ _ _ _ h => h) rfl (by decide +kernel) (nfZ hz) d_P_restart_9 (h.mono (fun M9 h => ?_))
  exact aw_vret X hr (Nat.le_of_ble_eq_true rfl) (Nat.le_of_ble_eq_true rfl) d_P_restart_12 h
end
theorem t_P_restart (l : Launch) {D : va_G} {dA : Nat → ClassId} {B : Nat} {zE : ZT} {M : wM} {ad : Ro → Nat} {post : wM → Prop} {x0 : Option Ro} {x1 : Int32} (hlv : lvS M [vR x0, vI x1]) (h : wp_P_restart post x0 x1 M) : Met l y_P_restart w_P_restart rm_P_restart (PA D dA B zE M ad [vR x0, vI x1]) (QV D dA B zE M ad post) 0 0 (wA B) :=
  AW_start [vR x0, vI x1] [(0, vR x0), (1, vI x1)] hlv (by decide +kernel) rfl (fun _ hw => List.mem_cons_of_mem _ hw) rfl (Nat.le_of_ble_eq_true rfl) (fun p e s m args below meth c X hr hin => sd_P_restart_0 X hr hin h)
abbrev rm_S_open : Room := { frames := 2, cells := 0, slots := 0, locals := 44 }
section
variable {p : Program} {l : Launch} {e : Env} {s : State} {m : MethodId} {args : Array Value} {below : List Frame} {meth : Method} {c : Code} {D : va_G} {dA : Nat → ClassId} {B : Nat} {zE : ZT} {ad0 : Ro → Nat} {M0 : wM}
def wp_S_open_21 (post : Int32 → wM → Prop) (x0 : Option Ro) (x1 : Int32) (x2 : Int32) (M : wM) : Prop := post (-1) M
set_option maxRecDepth 100000 in
set_option maxHeartbeats 4000000 in
theorem sd_S_open_21 (X : Cx p s m args meth c b_S_open 3 R_S TBL D dA B zE) (hr : meth.sig.returnType = (some .int)) (hin : meth.name = y_S_open.name) {post : Int32 → wM → Prop} {x0 : Option Ro} {x1 : Int32} {x2 : Int32} {M : wM} (h : wp_S_open_21 post x0 x1 x2 M) : AW p l e (headSpec w_S_open rm_S_open).room s m args below meth c (MQ below (QI D dA B zE M0 ad0 post) args s 0 0 (wA B)) D dA B zE 3 ad0 M0 M 0 0 21 [(0, vR x0), (1, vI x1), (2, vI x2)] [] := by
  unfold wp_S_open_21 at h
  refine aw_iconst X (-1) (by decide) d_S_open_21 ?_
  exact aw_iret X hr (Nat.le_of_ble_eq_true rfl) (Nat.le_of_ble_eq_true rfl) d_S_open_22 h
def wp_S_open (post : Int32 → wM → Prop) (x0 : Option Ro) (x1 : Int32) (x2 : Int32) (M : wM) : Prop := wp_S_isWithin (fun a3 M3 => (a3 = 0 → wp_S_open_21 post x0 x1 x2 M3) ∧ (¬ a3 = 0 → gR M3 x0 0 1 (fun a10 => lR M3 a10 x1 (fun a14 => gI M3 a14 2 2 (fun a15 => (a15 = 0 → gR M3 x0 0 1 (fun a25 => lR M3 a25 x1 (fun a29 => pF M3 x0 0 2 (vR a29) (fun M30 => gR M30 x0 0 2 (fun a34 => cV M30 a34 2 (wp_P_restart (fun M38 => post 0 M38) a34 x2 M30)))))) ∧ (¬ a15 = 0 → wp_S_open_21 post x0 x1 x2 M3)))))) x1 6 M
set_option maxRecDepth 100000 in
set_option maxHeartbeats 4000000 in
theorem sd_S_open_0 (X : Cx p s m args meth c b_S_open 3 R_S TBL D dA B zE) (hr : meth.sig.returnType = (some .int)) (hin : meth.name = y_S_open.name) {post : Int32 → wM → Prop} {x0 : Option Ro} {x1 : Int32} {x2 : Int32} {M : wM} (h : wp_S_open post x0 x1 x2 M) : AW p l e (headSpec w_S_open rm_S_open).room s m args below meth c (MQ below (QI D dA B zE M0 ad0 post) args s 0 0 (wA B)) D dA B zE 3 ad0 M0 M 0 0 0 [(0, vR x0), (1, vI x1), (2, vI x2)] [] := by
  unfold wp_S_open at h
  refine aw_iload_n X 1 rfl d_S_open_0 rfl ?_
  refine aw_bipush X (6) (by decide) d_S_open_1 ?_
  refine aw_cSi X [_, _] (fun ad hlv => t_S_isWithin l hlv h) (cwS 2 X.hts (gd_S LK_120 LK_121 LK_122 LK_code_S_isWithin) rfl rfl rfl (by decide +kernel) ⟨(Nat.le_of_ble_eq_true rfl), (Nat.le_of_ble_eq_true rfl)⟩) rfl rfl (Nat.le_of_ble_eq_true rfl) d_S_open_3 ⟨(Nat.le_of_ble_eq_true rfl), (Nat.le_of_ble_eq_true rfl)⟩ (fun a3 M3 h => ?_)
  refine aw_if_eq (tgt := 21) X d_S_open_6 (by decide) (fun c => ?_) (fun c => ?_)
  · have h := h.1 c
    exact sd_S_open_21 X hr hin h
  · have h := h.2 c
    refine aw_aload_n X 0 rfl d_S_open_9 rfl ?_
    refine aw_gR X hc_0 in_0 1 (by decide) LK_81 (fun _ _ _ _ h => h) d_S_open_10 (h.mono (fun a10 h => ?_))
    refine aw_iload_n X 1 rfl d_S_open_13 rfl ?_
    refine aw_lR X d_S_open_14 (h.mono (fun a14 h => ?_))
    refine aw_gI X hc_2 in_2 2 (by decide) LK_124 (fun _ _ _ _ h => h) d_S_open_15 (h.mono (fun a15 h => ?_))
    refine aw_if_eq (tgt := 23) X d_S_open_18 (by decide) (fun c => ?_) (fun c => ?_)
    · have h := h.1 c
      refine aw_aload_n X 0 rfl d_S_open_23 rfl ?_
      refine aw_aload_n X 0 rfl d_S_open_24 rfl ?_
      refine aw_gR X hc_0 in_0 1 (by decide) LK_81 (fun _ _ _ _ h => h) d_S_open_25 (h.mono (fun a25 h => ?_))
      refine aw_iload_n X 1 rfl d_S_open_28 rfl ?_
      refine aw_lR X d_S_open_29 (h.mono (fun a29 h => ?_))
      refine aw_pF (ty := (.object "PartitionedProcedureStore$Procedure")) X hc_0 in_0 2 (by decide) ty_0 tyok_0 nm_0 LK_82 (fun _ _ _ _ h => h) rfl (by decide +kernel) nfO d_S_open_30 (h.mono (fun M30 h => ?_))
      refine aw_aload_n X 0 rfl d_S_open_33 rfl ?_
      refine aw_gR X hc_0 in_0 2 (by decide) LK_82 (fun _ _ _ _ h => h) d_S_open_34 (h.mono (fun a34 h => ?_))
      refine aw_iload_n X 2 rfl d_S_open_37 rfl ?_
      obtain ⟨⟨r38, f38, e38, g38⟩, h⟩ := h
      cases e38
      refine aw_cVv X [_] (fun ad hlv => t_P_restart l hlv h) (cwV 1 X.hts (gd_V LK_125 LK_126 LK_127 LK_109 LK_code_P_restart) rfl rfl rfl (by decide +kernel) ⟨(Nat.le_of_ble_eq_true rfl), (Nat.le_of_ble_eq_true rfl)⟩) ⟨2, f38, _, g38, hc_2, rfl⟩ rfl rfl (Nat.le_of_ble_eq_true rfl) d_S_open_38 ⟨(Nat.le_of_ble_eq_true rfl), (Nat.le_of_ble_eq_true rfl)⟩ (fun M38 h => ?_)
      refine aw_iconst X (0) (by decide) d_S_open_41 ?_
      exact aw_iret X hr (Nat.le_of_ble_eq_true rfl) (Nat.le_of_ble_eq_true rfl) d_S_open_42 h
    · have h := h.2 c
      exact sd_S_open_21 X hr hin h
end
theorem t_S_open (l : Launch) {D : va_G} {dA : Nat → ClassId} {B : Nat} {zE : ZT} {M : wM} {ad : Ro → Nat} {post : Int32 → wM → Prop} {x0 : Option Ro} {x1 : Int32} {x2 : Int32} (hlv : lvS M [vR x0, vI x1, vI x2]) (h : wp_S_open post x0 x1 x2 M) : Met l y_S_open w_S_open rm_S_open (PA D dA B zE M ad [vR x0, vI x1, vI x2]) (QI D dA B zE M ad post) 0 0 (wA B) :=
  AW_start [vR x0, vI x1, vI x2] [(0, vR x0), (1, vI x1), (2, vI x2)] hlv (by decide +kernel) rfl (fun _ hw => List.mem_cons_of_mem _ hw) rfl (Nat.le_of_ble_eq_true rfl) (fun p e s m args below meth c X hr hin => sd_S_open_0 X hr hin h)
abbrev rm_S_isStatement : Room := { frames := 1, cells := 0, slots := 0, locals := 21 }
section
variable {p : Program} {l : Launch} {e : Env} {s : State} {m : MethodId} {args : Array Value} {below : List Frame} {meth : Method} {c : Code} {D : va_G} {dA : Nat → ClassId} {B : Nat} {zE : ZT} {ad0 : Ro → Nat} {M0 : wM}
def wp_S_isStatement_149 (post : Int32 → wM → Prop) (x0 : Int32) (x1 : Int32) (x2 : Int32) (x3 : Int32) (s0 : Int32) (M : wM) : Prop := (s0 = 0 ∨ s0 = 1) ∧ post s0 M
set_option maxRecDepth 100000 in
set_option maxHeartbeats 4000000 in
theorem sd_S_isStatement_149 (X : Cx p s m args meth c b_S_isStatement 4 R_S TBL D dA B zE) (hr : meth.sig.returnType = (some .boolean)) (hin : meth.name = y_S_isStatement.name) {post : Int32 → wM → Prop} {x0 : Int32} {x1 : Int32} {x2 : Int32} {x3 : Int32} {s0 : Int32} {M : wM} (h : wp_S_isStatement_149 post x0 x1 x2 x3 s0 M) : AW p l e (headSpec w_S_isStatement rm_S_isStatement).room s m args below meth c (MQ below (QI D dA B zE M0 ad0 post) args s 0 0 (wA B)) D dA B zE 4 ad0 M0 M 0 0 149 [(0, vI x0), (1, vI x1), (2, vI x2), (3, vI x3)] [vI s0] := by
  unfold wp_S_isStatement_149 at h
  exact aw_zret X hr h.1 (Nat.le_of_ble_eq_true rfl) (Nat.le_of_ble_eq_true rfl) d_S_isStatement_149 h.2
def wp_S_isStatement_148 (post : Int32 → wM → Prop) (x0 : Int32) (x1 : Int32) (x2 : Int32) (x3 : Int32) (M : wM) : Prop := wp_S_isStatement_149 post x0 x1 x2 x3 0 M
set_option maxRecDepth 100000 in
set_option maxHeartbeats 4000000 in
theorem sd_S_isStatement_148 (X : Cx p s m args meth c b_S_isStatement 4 R_S TBL D dA B zE) (hr : meth.sig.returnType = (some .boolean)) (hin : meth.name = y_S_isStatement.name) {post : Int32 → wM → Prop} {x0 : Int32} {x1 : Int32} {x2 : Int32} {x3 : Int32} {M : wM} (h : wp_S_isStatement_148 post x0 x1 x2 x3 M) : AW p l e (headSpec w_S_isStatement rm_S_isStatement).room s m args below meth c (MQ below (QI D dA B zE M0 ad0 post) args s 0 0 (wA B)) D dA B zE 4 ad0 M0 M 0 0 148 [(0, vI x0), (1, vI x1), (2, vI x2), (3, vI x3)] [] := by
  unfold wp_S_isStatement_148 at h
  refine aw_iconst X (0) (by decide) d_S_isStatement_148 ?_
  exact sd_S_isStatement_149 X hr hin h
def wp_S_isStatement_116 (post : Int32 → wM → Prop) (x0 : Int32) (x1 : Int32) (x2 : Int32) (x3 : Int32) (s0 : Int32) (M : wM) : Prop := (s0 = 0 ∨ s0 = 1) ∧ post s0 M
set_option maxRecDepth 100000 in
set_option maxHeartbeats 4000000 in
theorem sd_S_isStatement_116 (X : Cx p s m args meth c b_S_isStatement 4 R_S TBL D dA B zE) (hr : meth.sig.returnType = (some .boolean)) (hin : meth.name = y_S_isStatement.name) {post : Int32 → wM → Prop} {x0 : Int32} {x1 : Int32} {x2 : Int32} {x3 : Int32} {s0 : Int32} {M : wM} (h : wp_S_isStatement_116 post x0 x1 x2 x3 s0 M) : AW p l e (headSpec w_S_isStatement rm_S_isStatement).room s m args below meth c (MQ below (QI D dA B zE M0 ad0 post) args s 0 0 (wA B)) D dA B zE 4 ad0 M0 M 0 0 116 [(0, vI x0), (1, vI x1), (2, vI x2), (3, vI x3)] [vI s0] := by
  unfold wp_S_isStatement_116 at h
  exact aw_zret X hr h.1 (Nat.le_of_ble_eq_true rfl) (Nat.le_of_ble_eq_true rfl) d_S_isStatement_116 h.2
def wp_S_isStatement_115 (post : Int32 → wM → Prop) (x0 : Int32) (x1 : Int32) (x2 : Int32) (x3 : Int32) (M : wM) : Prop := wp_S_isStatement_116 post x0 x1 x2 x3 0 M
set_option maxRecDepth 100000 in
set_option maxHeartbeats 4000000 in
theorem sd_S_isStatement_115 (X : Cx p s m args meth c b_S_isStatement 4 R_S TBL D dA B zE) (hr : meth.sig.returnType = (some .boolean)) (hin : meth.name = y_S_isStatement.name) {post : Int32 → wM → Prop} {x0 : Int32} {x1 : Int32} {x2 : Int32} {x3 : Int32} {M : wM} (h : wp_S_isStatement_115 post x0 x1 x2 x3 M) : AW p l e (headSpec w_S_isStatement rm_S_isStatement).room s m args below meth c (MQ below (QI D dA B zE M0 ad0 post) args s 0 0 (wA B)) D dA B zE 4 ad0 M0 M 0 0 115 [(0, vI x0), (1, vI x1), (2, vI x2), (3, vI x3)] [] := by
  unfold wp_S_isStatement_115 at h
  refine aw_iconst X (0) (by decide) d_S_isStatement_115 ?_
  exact sd_S_isStatement_116 X hr hin h
def wp_S_isStatement_92 (post : Int32 → wM → Prop) (x0 : Int32) (x1 : Int32) (x2 : Int32) (x3 : Int32) (s0 : Int32) (M : wM) : Prop := (s0 = 0 ∨ s0 = 1) ∧ post s0 M
set_option maxRecDepth 100000 in
set_option maxHeartbeats 4000000 in
theorem sd_S_isStatement_92 (X : Cx p s m args meth c b_S_isStatement 4 R_S TBL D dA B zE) (hr : meth.sig.returnType = (some .boolean)) (hin : meth.name = y_S_isStatement.name) {post : Int32 → wM → Prop} {x0 : Int32} {x1 : Int32} {x2 : Int32} {x3 : Int32} {s0 : Int32} {M : wM} (h : wp_S_isStatement_92 post x0 x1 x2 x3 s0 M) : AW p l e (headSpec w_S_isStatement rm_S_isStatement).room s m args below meth c (MQ below (QI D dA B zE M0 ad0 post) args s 0 0 (wA B)) D dA B zE 4 ad0 M0 M 0 0 92 [(0, vI x0), (1, vI x1), (2, vI x2), (3, vI x3)] [vI s0] := by
  unfold wp_S_isStatement_92 at h
  exact aw_zret X hr h.1 (Nat.le_of_ble_eq_true rfl) (Nat.le_of_ble_eq_true rfl) d_S_isStatement_92 h.2
def wp_S_isStatement_91 (post : Int32 → wM → Prop) (x0 : Int32) (x1 : Int32) (x2 : Int32) (x3 : Int32) (M : wM) : Prop := wp_S_isStatement_92 post x0 x1 x2 x3 0 M
set_option maxRecDepth 100000 in
set_option maxHeartbeats 4000000 in
theorem sd_S_isStatement_91 (X : Cx p s m args meth c b_S_isStatement 4 R_S TBL D dA B zE) (hr : meth.sig.returnType = (some .boolean)) (hin : meth.name = y_S_isStatement.name) {post : Int32 → wM → Prop} {x0 : Int32} {x1 : Int32} {x2 : Int32} {x3 : Int32} {M : wM} (h : wp_S_isStatement_91 post x0 x1 x2 x3 M) : AW p l e (headSpec w_S_isStatement rm_S_isStatement).room s m args below meth c (MQ below (QI D dA B zE M0 ad0 post) args s 0 0 (wA B)) D dA B zE 4 ad0 M0 M 0 0 91 [(0, vI x0), (1, vI x1), (2, vI x2), (3, vI x3)] [] := by
  unfold wp_S_isStatement_91 at h
  refine aw_iconst X (0) (by decide) d_S_isStatement_91 ?_
  exact sd_S_isStatement_92 X hr hin h
def wp_S_isStatement (post : Int32 → wM → Prop) (x0 : Int32) (x1 : Int32) (x2 : Int32) (x3 : Int32) (M : wM) : Prop := (x0 = 0 → wp_S_isWithin (fun a96 M96 => (a96 = 0 → wp_S_isStatement_115 post x0 x1 x2 x3 M96) ∧ (¬ a96 = 0 → wp_S_isWithin (fun a105 M105 => (a105 = 0 → wp_S_isStatement_115 post x0 x1 x2 x3 M105) ∧ (¬ a105 = 0 → wp_S_isStatement_116 post x0 x1 x2 x3 1 M105)) x2 6 M96)) x1 6 M) ∧ (¬ x0 = 0 → (x0 = 1 → wp_S_isWithin (fun a96 M96 => (a96 = 0 → wp_S_isStatement_115 post x0 x1 x2 x3 M96) ∧ (¬ a96 = 0 → wp_S_isWithin (fun a105 M105 => (a105 = 0 → wp_S_isStatement_115 post x0 x1 x2 x3 M105) ∧ (¬ a105 = 0 → wp_S_isStatement_116 post x0 x1 x2 x3 1 M105)) x2 6 M96)) x1 6 M) ∧ (¬ x0 = 1 → (x0 = 2 → wp_S_isWithin (fun a96 M96 => (a96 = 0 → wp_S_isStatement_115 post x0 x1 x2 x3 M96) ∧ (¬ a96 = 0 → wp_S_isWithin (fun a105 M105 => (a105 = 0 → wp_S_isStatement_115 post x0 x1 x2 x3 M105) ∧ (¬ a105 = 0 → wp_S_isStatement_116 post x0 x1 x2 x3 1 M105)) x2 6 M96)) x1 6 M) ∧ (¬ x0 = 2 → (x0 = 3 → wp_S_isWithin (fun a63 M63 => (a63 = 0 ∨ a63 = 1) ∧ post a63 M63) x1 6 M) ∧ (¬ x0 = 3 → (x0 = 4 → wp_S_isWithin (fun a120 M120 => (a120 = 0 → wp_S_isStatement_148 post x0 x1 x2 x3 M120) ∧ (¬ a120 = 0 → wp_S_isWithin (fun a129 M129 => (a129 = 0 → wp_S_isStatement_148 post x0 x1 x2 x3 M129) ∧ (¬ a129 = 0 → wp_S_isWithin (fun a138 M138 => (a138 = 0 → wp_S_isStatement_148 post x0 x1 x2 x3 M138) ∧ (¬ a138 = 0 → wp_S_isStatement_149 post x0 x1 x2 x3 1 M138)) x3 6 M129)) x2 6 M120)) x1 6 M) ∧ (¬ x0 = 4 → (x0 = 5 → wp_S_isWithin (fun a63 M63 => (a63 = 0 ∨ a63 = 1) ∧ post a63 M63) x1 6 M) ∧ (¬ x0 = 5 → (x0 = 6 → wp_S_isWithin (fun a96 M96 => (a96 = 0 → wp_S_isStatement_115 post x0 x1 x2 x3 M96) ∧ (¬ a96 = 0 → wp_S_isWithin (fun a105 M105 => (a105 = 0 → wp_S_isStatement_115 post x0 x1 x2 x3 M105) ∧ (¬ a105 = 0 → wp_S_isStatement_116 post x0 x1 x2 x3 1 M105)) x2 6 M96)) x1 6 M) ∧ (¬ x0 = 6 → (x0 = 7 → wp_S_isWithin (fun a70 M70 => (a70 = 0 → wp_S_isStatement_91 post x0 x1 x2 x3 M70) ∧ (¬ a70 = 0 → (x2 < (1 : Int32) → wp_S_isStatement_91 post x0 x1 x2 x3 M70) ∧ (¬ x2 < (1 : Int32) → ((7 : Int32) < x2 → wp_S_isStatement_91 post x0 x1 x2 x3 M70) ∧ (¬ (7 : Int32) < x2 → wp_S_isStatement_92 post x0 x1 x2 x3 1 M70)))) x1 6 M) ∧ (¬ x0 = 7 → (x0 = 8 → wp_S_isWithin (fun a96 M96 => (a96 = 0 → wp_S_isStatement_115 post x0 x1 x2 x3 M96) ∧ (¬ a96 = 0 → wp_S_isWithin (fun a105 M105 => (a105 = 0 → wp_S_isStatement_115 post x0 x1 x2 x3 M105) ∧ (¬ a105 = 0 → wp_S_isStatement_116 post x0 x1 x2 x3 1 M105)) x2 6 M96)) x1 6 M) ∧ (¬ x0 = 8 → (x0 = 9 → wp_S_isWithin (fun a96 M96 => (a96 = 0 → wp_S_isStatement_115 post x0 x1 x2 x3 M96) ∧ (¬ a96 = 0 → wp_S_isWithin (fun a105 M105 => (a105 = 0 → wp_S_isStatement_115 post x0 x1 x2 x3 M105) ∧ (¬ a105 = 0 → wp_S_isStatement_116 post x0 x1 x2 x3 1 M105)) x2 6 M96)) x1 6 M) ∧ (¬ x0 = 9 → (x0 = 10 → wp_S_isWithin (fun a63 M63 => (a63 = 0 ∨ a63 = 1) ∧ post a63 M63) x1 6 M) ∧ (¬ x0 = 10 → post 0 M)))))))))))
set_option maxRecDepth 100000 in
set_option maxHeartbeats 4000000 in
theorem sd_S_isStatement_0 (X : Cx p s m args meth c b_S_isStatement 4 R_S TBL D dA B zE) (hr : meth.sig.returnType = (some .boolean)) (hin : meth.name = y_S_isStatement.name) {post : Int32 → wM → Prop} {x0 : Int32} {x1 : Int32} {x2 : Int32} {x3 : Int32} {M : wM} (h : wp_S_isStatement post x0 x1 x2 x3 M) : AW p l e (headSpec w_S_isStatement rm_S_isStatement).room s m args below meth c (MQ below (QI D dA B zE M0 ad0 post) args s 0 0 (wA B)) D dA B zE 4 ad0 M0 M 0 0 0 [(0, vI x0), (1, vI x1), (2, vI x2), (3, vI x3)] [] := by
  unfold wp_S_isStatement at h
  refine aw_iload_n X 0 rfl d_S_isStatement_0 rfl ?_
  rcases Decidable.em (x0 = 0) with c0 | c0
  · have h := h.1 c0
    refine aw_tableIn (off := 92) (tgt := 93) X d_S_isStatement_1 c0 (by decide) (by decide) (by decide) (by decide) ?_
    refine aw_iload_n X 1 rfl d_S_isStatement_93 rfl ?_
    refine aw_bipush X (6) (by decide) d_S_isStatement_94 ?_
    refine aw_cSi X [_, _] (fun ad hlv => t_S_isWithin l hlv h) (cwS 2 X.hts (gd_S LK_120 LK_121 LK_122 LK_code_S_isWithin) rfl rfl rfl (by decide +kernel) ⟨(Nat.le_of_ble_eq_true rfl), (Nat.le_of_ble_eq_true rfl)⟩) rfl rfl (Nat.le_of_ble_eq_true rfl) d_S_isStatement_96 ⟨(Nat.le_of_ble_eq_true rfl), (Nat.le_of_ble_eq_true rfl)⟩ (fun a96 M96 h => ?_)
    refine aw_if_eq (tgt := 115) X d_S_isStatement_99 (by decide) (fun c => ?_) (fun c => ?_)
    · have h := h.1 c
      exact sd_S_isStatement_115 X hr hin h
    · have h := h.2 c
      refine aw_iload_n X 2 rfl d_S_isStatement_102 rfl ?_
      refine aw_bipush X (6) (by decide) d_S_isStatement_103 ?_
      refine aw_cSi X [_, _] (fun ad hlv => t_S_isWithin l hlv h) (cwS 2 X.hts (gd_S LK_120 LK_121 LK_122 LK_code_S_isWithin) rfl rfl rfl (by decide +kernel) ⟨(Nat.le_of_ble_eq_true rfl), (Nat.le_of_ble_eq_true rfl)⟩) rfl rfl (Nat.le_of_ble_eq_true rfl) d_S_isStatement_105 ⟨(Nat.le_of_ble_eq_true rfl), (Nat.le_of_ble_eq_true rfl)⟩ (fun a105 M105 h => ?_)
      refine aw_if_eq (tgt := 115) X d_S_isStatement_108 (by decide) (fun c => ?_) (fun c => ?_)
      · have h := h.1 c
        exact sd_S_isStatement_115 X hr hin h
      · have h := h.2 c
        refine aw_iconst X (1) (by decide) d_S_isStatement_111 ?_
        refine aw_goto (tgt := 116) X d_S_isStatement_112 (by decide) ?_
        exact sd_S_isStatement_116 X hr hin h
  · have h := h.2 c0
    rcases Decidable.em (x0 = 1) with c1 | c1
    · have h := h.1 c1
      refine aw_tableIn (off := 92) (tgt := 93) X d_S_isStatement_1 c1 (by decide) (by decide) (by decide) (by decide) ?_
      refine aw_iload_n X 1 rfl d_S_isStatement_93 rfl ?_
      refine aw_bipush X (6) (by decide) d_S_isStatement_94 ?_
      refine aw_cSi X [_, _] (fun ad hlv => t_S_isWithin l hlv h) (cwS 2 X.hts (gd_S LK_120 LK_121 LK_122 LK_code_S_isWithin) rfl rfl rfl (by decide +kernel) ⟨(Nat.le_of_ble_eq_true rfl), (Nat.le_of_ble_eq_true rfl)⟩) rfl rfl (Nat.le_of_ble_eq_true rfl) d_S_isStatement_96 ⟨(Nat.le_of_ble_eq_true rfl), (Nat.le_of_ble_eq_true rfl)⟩ (fun a96 M96 h => ?_)
      refine aw_if_eq (tgt := 115) X d_S_isStatement_99 (by decide) (fun c => ?_) (fun c => ?_)
      · have h := h.1 c
        exact sd_S_isStatement_115 X hr hin h
      · have h := h.2 c
        refine aw_iload_n X 2 rfl d_S_isStatement_102 rfl ?_
        refine aw_bipush X (6) (by decide) d_S_isStatement_103 ?_
        refine aw_cSi X [_, _] (fun ad hlv => t_S_isWithin l hlv h) (cwS 2 X.hts (gd_S LK_120 LK_121 LK_122 LK_code_S_isWithin) rfl rfl rfl (by decide +kernel) ⟨(Nat.le_of_ble_eq_true rfl), (Nat.le_of_ble_eq_true rfl)⟩) rfl rfl (Nat.le_of_ble_eq_true rfl) d_S_isStatement_105 ⟨(Nat.le_of_ble_eq_true rfl), (Nat.le_of_ble_eq_true rfl)⟩ (fun a105 M105 h => ?_)
        refine aw_if_eq (tgt := 115) X d_S_isStatement_108 (by decide) (fun c => ?_) (fun c => ?_)
        · have h := h.1 c
          exact sd_S_isStatement_115 X hr hin h
        · have h := h.2 c
          refine aw_iconst X (1) (by decide) d_S_isStatement_111 ?_
          refine aw_goto (tgt := 116) X d_S_isStatement_112 (by decide) ?_
          exact sd_S_isStatement_116 X hr hin h
    · have h := h.2 c1
      rcases Decidable.em (x0 = 2) with c2 | c2
      · have h := h.1 c2
        refine aw_tableIn (off := 92) (tgt := 93) X d_S_isStatement_1 c2 (by decide) (by decide) (by decide) (by decide) ?_
        refine aw_iload_n X 1 rfl d_S_isStatement_93 rfl ?_
        refine aw_bipush X (6) (by decide) d_S_isStatement_94 ?_
        refine aw_cSi X [_, _] (fun ad hlv => t_S_isWithin l hlv h) (cwS 2 X.hts (gd_S LK_120 LK_121 LK_122 LK_code_S_isWithin) rfl rfl rfl (by decide +kernel) ⟨(Nat.le_of_ble_eq_true rfl), (Nat.le_of_ble_eq_true rfl)⟩) rfl rfl (Nat.le_of_ble_eq_true rfl) d_S_isStatement_96 ⟨(Nat.le_of_ble_eq_true rfl), (Nat.le_of_ble_eq_true rfl)⟩ (fun a96 M96 h => ?_)
        refine aw_if_eq (tgt := 115) X d_S_isStatement_99 (by decide) (fun c => ?_) (fun c => ?_)
        · have h := h.1 c
          exact sd_S_isStatement_115 X hr hin h
        · have h := h.2 c
          refine aw_iload_n X 2 rfl d_S_isStatement_102 rfl ?_
          refine aw_bipush X (6) (by decide) d_S_isStatement_103 ?_
          refine aw_cSi X [_, _] (fun ad hlv => t_S_isWithin l hlv h) (cwS 2 X.hts (gd_S LK_120 LK_121 LK_122 LK_code_S_isWithin) rfl rfl rfl (by decide +kernel) ⟨(Nat.le_of_ble_eq_true rfl), (Nat.le_of_ble_eq_true rfl)⟩) rfl rfl (Nat.le_of_ble_eq_true rfl) d_S_isStatement_105 ⟨(Nat.le_of_ble_eq_true rfl), (Nat.le_of_ble_eq_true rfl)⟩ (fun a105 M105 h => ?_)
          refine aw_if_eq (tgt := 115) X d_S_isStatement_108 (by decide) (fun c => ?_) (fun c => ?_)
          · have h := h.1 c
            exact sd_S_isStatement_115 X hr hin h
          · have h := h.2 c
            refine aw_iconst X (1) (by decide) d_S_isStatement_111 ?_
            refine aw_goto (tgt := 116) X d_S_isStatement_112 (by decide) ?_
            exact sd_S_isStatement_116 X hr hin h
      · have h := h.2 c2
        rcases Decidable.em (x0 = 3) with c3 | c3
        · have h := h.1 c3
          refine aw_tableIn (off := 59) (tgt := 60) X d_S_isStatement_1 c3 (by decide) (by decide) (by decide) (by decide) ?_
          refine aw_iload_n X 1 rfl d_S_isStatement_60 rfl ?_
          refine aw_bipush X (6) (by decide) d_S_isStatement_61 ?_
          refine aw_cSi X [_, _] (fun ad hlv => t_S_isWithin l hlv h) (cwS 2 X.hts (gd_S LK_120 LK_121 LK_122 LK_code_S_isWithin) rfl rfl rfl (by decide +kernel) ⟨(Nat.le_of_ble_eq_true rfl), (Nat.le_of_ble_eq_true rfl)⟩) rfl rfl (Nat.le_of_ble_eq_true rfl) d_S_isStatement_63 ⟨(Nat.le_of_ble_eq_true rfl), (Nat.le_of_ble_eq_true rfl)⟩ (fun a63 M63 h => ?_)
          exact aw_zret X hr h.1 (Nat.le_of_ble_eq_true rfl) (Nat.le_of_ble_eq_true rfl) d_S_isStatement_66 h.2
        · have h := h.2 c3
          rcases Decidable.em (x0 = 4) with c4 | c4
          · have h := h.1 c4
            refine aw_tableIn (off := 116) (tgt := 117) X d_S_isStatement_1 c4 (by decide) (by decide) (by decide) (by decide) ?_
            refine aw_iload_n X 1 rfl d_S_isStatement_117 rfl ?_
            refine aw_bipush X (6) (by decide) d_S_isStatement_118 ?_
            refine aw_cSi X [_, _] (fun ad hlv => t_S_isWithin l hlv h) (cwS 2 X.hts (gd_S LK_120 LK_121 LK_122 LK_code_S_isWithin) rfl rfl rfl (by decide +kernel) ⟨(Nat.le_of_ble_eq_true rfl), (Nat.le_of_ble_eq_true rfl)⟩) rfl rfl (Nat.le_of_ble_eq_true rfl) d_S_isStatement_120 ⟨(Nat.le_of_ble_eq_true rfl), (Nat.le_of_ble_eq_true rfl)⟩ (fun a120 M120 h => ?_)
            refine aw_if_eq (tgt := 148) X d_S_isStatement_123 (by decide) (fun c => ?_) (fun c => ?_)
            · have h := h.1 c
              exact sd_S_isStatement_148 X hr hin h
            · have h := h.2 c
              refine aw_iload_n X 2 rfl d_S_isStatement_126 rfl ?_
              refine aw_bipush X (6) (by decide) d_S_isStatement_127 ?_
              refine aw_cSi X [_, _] (fun ad hlv => t_S_isWithin l hlv h) (cwS 2 X.hts (gd_S LK_120 LK_121 LK_122 LK_code_S_isWithin) rfl rfl rfl (by decide +kernel) ⟨(Nat.le_of_ble_eq_true rfl), (Nat.le_of_ble_eq_true rfl)⟩) rfl rfl (Nat.le_of_ble_eq_true rfl) d_S_isStatement_129 ⟨(Nat.le_of_ble_eq_true rfl), (Nat.le_of_ble_eq_true rfl)⟩ (fun a129 M129 h => ?_)
              refine aw_if_eq (tgt := 148) X d_S_isStatement_132 (by decide) (fun c => ?_) (fun c => ?_)
              · have h := h.1 c
                exact sd_S_isStatement_148 X hr hin h
              · have h := h.2 c
                refine aw_iload_n X 3 rfl d_S_isStatement_135 rfl ?_
                refine aw_bipush X (6) (by decide) d_S_isStatement_136 ?_
                refine aw_cSi X [_, _] (fun ad hlv => t_S_isWithin l hlv h) (cwS 2 X.hts (gd_S LK_120 LK_121 LK_122 LK_code_S_isWithin) rfl rfl rfl (by decide +kernel) ⟨(Nat.le_of_ble_eq_true rfl), (Nat.le_of_ble_eq_true rfl)⟩) rfl rfl (Nat.le_of_ble_eq_true rfl) d_S_isStatement_138 ⟨(Nat.le_of_ble_eq_true rfl), (Nat.le_of_ble_eq_true rfl)⟩ (fun a138 M138 h => ?_)
                refine aw_if_eq (tgt := 148) X d_S_isStatement_141 (by decide) (fun c => ?_) (fun c => ?_)
                · have h := h.1 c
                  exact sd_S_isStatement_148 X hr hin h
                · have h := h.2 c
                  refine aw_iconst X (1) (by decide) d_S_isStatement_144 ?_
                  refine aw_goto (tgt := 149) X d_S_isStatement_145 (by decide) ?_
                  exact sd_S_isStatement_149 X hr hin h
          · have h := h.2 c4
            rcases Decidable.em (x0 = 5) with c5 | c5
            · have h := h.1 c5
              refine aw_tableIn (off := 59) (tgt := 60) X d_S_isStatement_1 c5 (by decide) (by decide) (by decide) (by decide) ?_
              refine aw_iload_n X 1 rfl d_S_isStatement_60 rfl ?_
              refine aw_bipush X (6) (by decide) d_S_isStatement_61 ?_
              refine aw_cSi X [_, _] (fun ad hlv => t_S_isWithin l hlv h) (cwS 2 X.hts (gd_S LK_120 LK_121 LK_122 LK_code_S_isWithin) rfl rfl rfl (by decide +kernel) ⟨(Nat.le_of_ble_eq_true rfl), (Nat.le_of_ble_eq_true rfl)⟩) rfl rfl (Nat.le_of_ble_eq_true rfl) d_S_isStatement_63 ⟨(Nat.le_of_ble_eq_true rfl), (Nat.le_of_ble_eq_true rfl)⟩ (fun a63 M63 h => ?_)
              exact aw_zret X hr h.1 (Nat.le_of_ble_eq_true rfl) (Nat.le_of_ble_eq_true rfl) d_S_isStatement_66 h.2
            · have h := h.2 c5
              rcases Decidable.em (x0 = 6) with c6 | c6
              · have h := h.1 c6
                refine aw_tableIn (off := 92) (tgt := 93) X d_S_isStatement_1 c6 (by decide) (by decide) (by decide) (by decide) ?_
                refine aw_iload_n X 1 rfl d_S_isStatement_93 rfl ?_
                refine aw_bipush X (6) (by decide) d_S_isStatement_94 ?_
                refine aw_cSi X [_, _] (fun ad hlv => t_S_isWithin l hlv h) (cwS 2 X.hts (gd_S LK_120 LK_121 LK_122 LK_code_S_isWithin) rfl rfl rfl (by decide +kernel) ⟨(Nat.le_of_ble_eq_true rfl), (Nat.le_of_ble_eq_true rfl)⟩) rfl rfl (Nat.le_of_ble_eq_true rfl) d_S_isStatement_96 ⟨(Nat.le_of_ble_eq_true rfl), (Nat.le_of_ble_eq_true rfl)⟩ (fun a96 M96 h => ?_)
                refine aw_if_eq (tgt := 115) X d_S_isStatement_99 (by decide) (fun c => ?_) (fun c => ?_)
                · have h := h.1 c
                  exact sd_S_isStatement_115 X hr hin h
                · have h := h.2 c
                  refine aw_iload_n X 2 rfl d_S_isStatement_102 rfl ?_
                  refine aw_bipush X (6) (by decide) d_S_isStatement_103 ?_
                  refine aw_cSi X [_, _] (fun ad hlv => t_S_isWithin l hlv h) (cwS 2 X.hts (gd_S LK_120 LK_121 LK_122 LK_code_S_isWithin) rfl rfl rfl (by decide +kernel) ⟨(Nat.le_of_ble_eq_true rfl), (Nat.le_of_ble_eq_true rfl)⟩) rfl rfl (Nat.le_of_ble_eq_true rfl) d_S_isStatement_105 ⟨(Nat.le_of_ble_eq_true rfl), (Nat.le_of_ble_eq_true rfl)⟩ (fun a105 M105 h => ?_)
                  refine aw_if_eq (tgt := 115) X d_S_isStatement_108 (by decide) (fun c => ?_) (fun c => ?_)
                  · have h := h.1 c
                    exact sd_S_isStatement_115 X hr hin h
                  · have h := h.2 c
                    refine aw_iconst X (1) (by decide) d_S_isStatement_111 ?_
                    refine aw_goto (tgt := 116) X d_S_isStatement_112 (by decide) ?_
                    exact sd_S_isStatement_116 X hr hin h
              · have h := h.2 c6
                rcases Decidable.em (x0 = 7) with c7 | c7
                · have h := h.1 c7
                  refine aw_tableIn (off := 66) (tgt := 67) X d_S_isStatement_1 c7 (by decide) (by decide) (by decide) (by decide) ?_
                  refine aw_iload_n X 1 rfl d_S_isStatement_67 rfl ?_
                  refine aw_bipush X (6) (by decide) d_S_isStatement_68 ?_
                  refine aw_cSi X [_, _] (fun ad hlv => t_S_isWithin l hlv h) (cwS 2 X.hts (gd_S LK_120 LK_121 LK_122 LK_code_S_isWithin) rfl rfl rfl (by decide +kernel) ⟨(Nat.le_of_ble_eq_true rfl), (Nat.le_of_ble_eq_true rfl)⟩) rfl rfl (Nat.le_of_ble_eq_true rfl) d_S_isStatement_70 ⟨(Nat.le_of_ble_eq_true rfl), (Nat.le_of_ble_eq_true rfl)⟩ (fun a70 M70 h => ?_)
                  refine aw_if_eq (tgt := 91) X d_S_isStatement_73 (by decide) (fun c => ?_) (fun c => ?_)
                  · have h := h.1 c
                    exact sd_S_isStatement_91 X hr hin h
                  · have h := h.2 c
                    refine aw_iload_n X 2 rfl d_S_isStatement_76 rfl ?_
                    refine aw_iconst X (1) (by decide) d_S_isStatement_77 ?_
                    refine aw_icmp_lt (tgt := 91) X d_S_isStatement_78 (by decide) (fun c => ?_) (fun c => ?_)
                    · have h := h.1 c
                      exact sd_S_isStatement_91 X hr hin h
                    · have h := h.2 c
                      refine aw_iload_n X 2 rfl d_S_isStatement_81 rfl ?_
                      refine aw_bipush X (7) (by decide) d_S_isStatement_82 ?_
                      refine aw_icmp_gt (tgt := 91) X d_S_isStatement_84 (by decide) (fun c => ?_) (fun c => ?_)
                      · have h := h.1 c
                        exact sd_S_isStatement_91 X hr hin h
                      · have h := h.2 c
                        refine aw_iconst X (1) (by decide) d_S_isStatement_87 ?_
                        refine aw_goto (tgt := 92) X d_S_isStatement_88 (by decide) ?_
                        exact sd_S_isStatement_92 X hr hin h
                · have h := h.2 c7
                  rcases Decidable.em (x0 = 8) with c8 | c8
                  · have h := h.1 c8
                    refine aw_tableIn (off := 92) (tgt := 93) X d_S_isStatement_1 c8 (by decide) (by decide) (by decide) (by decide) ?_
                    refine aw_iload_n X 1 rfl d_S_isStatement_93 rfl ?_
                    refine aw_bipush X (6) (by decide) d_S_isStatement_94 ?_
                    refine aw_cSi X [_, _] (fun ad hlv => t_S_isWithin l hlv h) (cwS 2 X.hts (gd_S LK_120 LK_121 LK_122 LK_code_S_isWithin) rfl rfl rfl (by decide +kernel) ⟨(Nat.le_of_ble_eq_true rfl), (Nat.le_of_ble_eq_true rfl)⟩) rfl rfl (Nat.le_of_ble_eq_true rfl) d_S_isStatement_96 ⟨(Nat.le_of_ble_eq_true rfl), (Nat.le_of_ble_eq_true rfl)⟩ (fun a96 M96 h => ?_)
                    refine aw_if_eq (tgt := 115) X d_S_isStatement_99 (by decide) (fun c => ?_) (fun c => ?_)
                    · have h := h.1 c
                      exact sd_S_isStatement_115 X hr hin h
                    · have h := h.2 c
                      refine aw_iload_n X 2 rfl d_S_isStatement_102 rfl ?_
                      refine aw_bipush X (6) (by decide) d_S_isStatement_103 ?_
                      refine aw_cSi X [_, _] (fun ad hlv => t_S_isWithin l hlv h) (cwS 2 X.hts (gd_S LK_120 LK_121 LK_122 LK_code_S_isWithin) rfl rfl rfl (by decide +kernel) ⟨(Nat.le_of_ble_eq_true rfl), (Nat.le_of_ble_eq_true rfl)⟩) rfl rfl (Nat.le_of_ble_eq_true rfl) d_S_isStatement_105 ⟨(Nat.le_of_ble_eq_true rfl), (Nat.le_of_ble_eq_true rfl)⟩ (fun a105 M105 h => ?_)
                      refine aw_if_eq (tgt := 115) X d_S_isStatement_108 (by decide) (fun c => ?_) (fun c => ?_)
                      · have h := h.1 c
                        exact sd_S_isStatement_115 X hr hin h
                      · have h := h.2 c
                        refine aw_iconst X (1) (by decide) d_S_isStatement_111 ?_
                        refine aw_goto (tgt := 116) X d_S_isStatement_112 (by decide) ?_
                        exact sd_S_isStatement_116 X hr hin h
                  · have h := h.2 c8
                    rcases Decidable.em (x0 = 9) with c9 | c9
                    · have h := h.1 c9
                      refine aw_tableIn (off := 92) (tgt := 93) X d_S_isStatement_1 c9 (by decide) (by decide) (by decide) (by decide) ?_
                      refine aw_iload_n X 1 rfl d_S_isStatement_93 rfl ?_
                      refine aw_bipush X (6) (by decide) d_S_isStatement_94 ?_
                      refine aw_cSi X [_, _] (fun ad hlv => t_S_isWithin l hlv h) (cwS 2 X.hts (gd_S LK_120 LK_121 LK_122 LK_code_S_isWithin) rfl rfl rfl (by decide +kernel) ⟨(Nat.le_of_ble_eq_true rfl), (Nat.le_of_ble_eq_true rfl)⟩) rfl rfl (Nat.le_of_ble_eq_true rfl) d_S_isStatement_96 ⟨(Nat.le_of_ble_eq_true rfl), (Nat.le_of_ble_eq_true rfl)⟩ (fun a96 M96 h => ?_)
                      refine aw_if_eq (tgt := 115) X d_S_isStatement_99 (by decide) (fun c => ?_) (fun c => ?_)
                      · have h := h.1 c
                        exact sd_S_isStatement_115 X hr hin h
                      · have h := h.2 c
                        refine aw_iload_n X 2 rfl d_S_isStatement_102 rfl ?_
                        refine aw_bipush X (6) (by decide) d_S_isStatement_103 ?_
                        refine aw_cSi X [_, _] (fun ad hlv => t_S_isWithin l hlv h) (cwS 2 X.hts (gd_S LK_120 LK_121 LK_122 LK_code_S_isWithin) rfl rfl rfl (by decide +kernel) ⟨(Nat.le_of_ble_eq_true rfl), (Nat.le_of_ble_eq_true rfl)⟩) rfl rfl (Nat.le_of_ble_eq_true rfl) d_S_isStatement_105 ⟨(Nat.le_of_ble_eq_true rfl), (Nat.le_of_ble_eq_true rfl)⟩ (fun a105 M105 h => ?_)
                        refine aw_if_eq (tgt := 115) X d_S_isStatement_108 (by decide) (fun c => ?_) (fun c => ?_)
                        · have h := h.1 c
                          exact sd_S_isStatement_115 X hr hin h
                        · have h := h.2 c
                          refine aw_iconst X (1) (by decide) d_S_isStatement_111 ?_
                          refine aw_goto (tgt := 116) X d_S_isStatement_112 (by decide) ?_
                          exact sd_S_isStatement_116 X hr hin h
                    · have h := h.2 c9
                      rcases Decidable.em (x0 = 10) with c10 | c10
                      · have h := h.1 c10
                        refine aw_tableIn (off := 59) (tgt := 60) X d_S_isStatement_1 c10 (by decide) (by decide) (by decide) (by decide) ?_
                        refine aw_iload_n X 1 rfl d_S_isStatement_60 rfl ?_
                        refine aw_bipush X (6) (by decide) d_S_isStatement_61 ?_
                        refine aw_cSi X [_, _] (fun ad hlv => t_S_isWithin l hlv h) (cwS 2 X.hts (gd_S LK_120 LK_121 LK_122 LK_code_S_isWithin) rfl rfl rfl (by decide +kernel) ⟨(Nat.le_of_ble_eq_true rfl), (Nat.le_of_ble_eq_true rfl)⟩) rfl rfl (Nat.le_of_ble_eq_true rfl) d_S_isStatement_63 ⟨(Nat.le_of_ble_eq_true rfl), (Nat.le_of_ble_eq_true rfl)⟩ (fun a63 M63 h => ?_)
                        exact aw_zret X hr h.1 (Nat.le_of_ble_eq_true rfl) (Nat.le_of_ble_eq_true rfl) d_S_isStatement_66 h.2
                      · have h := h.2 c10
                        have z0 := lv_neT (a := 0) c0 (by decide)
                        have z1 := lv_neT (a := 1) c1 (by decide)
                        have z2 := lv_neT (a := 2) c2 (by decide)
                        have z3 := lv_neT (a := 3) c3 (by decide)
                        have z4 := lv_neT (a := 4) c4 (by decide)
                        have z5 := lv_neT (a := 5) c5 (by decide)
                        have z6 := lv_neT (a := 6) c6 (by decide)
                        have z7 := lv_neT (a := 7) c7 (by decide)
                        have z8 := lv_neT (a := 8) c8 (by decide)
                        have z9 := lv_neT (a := 9) c9 (by decide)
                        have z10 := lv_neT (a := 10) c10 (by decide)
                        refine aw_tableOut (tgt := 150) X d_S_isStatement_1 (by omega) (by decide) ?_
                        refine aw_iconst X (0) (by decide) d_S_isStatement_150 ?_
                        exact aw_zret X hr (Or.inl rfl) (Nat.le_of_ble_eq_true rfl) (Nat.le_of_ble_eq_true rfl) d_S_isStatement_151 h
end
theorem t_S_isStatement (l : Launch) {D : va_G} {dA : Nat → ClassId} {B : Nat} {zE : ZT} {M : wM} {ad : Ro → Nat} {post : Int32 → wM → Prop} {x0 : Int32} {x1 : Int32} {x2 : Int32} {x3 : Int32} (hlv : lvS M [vI x0, vI x1, vI x2, vI x3]) (h : wp_S_isStatement post x0 x1 x2 x3 M) : Met l y_S_isStatement w_S_isStatement rm_S_isStatement (PA D dA B zE M ad [vI x0, vI x1, vI x2, vI x3]) (QI D dA B zE M ad post) 0 0 (wA B) :=
  AW_start [vI x0, vI x1, vI x2, vI x3] [(0, vI x0), (1, vI x1), (2, vI x2), (3, vI x3)] hlv (by decide +kernel) rfl (fun _ hw => List.mem_cons_of_mem _ hw) rfl (Nat.le_of_ble_eq_true rfl) (fun p e s m args below meth c X hr hin => sd_S_isStatement_0 X hr hin h)
abbrev rm_A_size : Room := { frames := 0, cells := 0, slots := 0, locals := 0 }
section
variable {p : Program} {l : Launch} {e : Env} {s : State} {m : MethodId} {args : Array Value} {below : List Frame} {meth : Method} {c : Code} {D : va_G} {dA : Nat → ClassId} {B : Nat} {zE : ZT} {ad0 : Ro → Nat} {M0 : wM}
def wp_A_size (post : Int32 → wM → Prop) (x0 : Option Ro) (M : wM) : Prop := gI M x0 8 1 (fun a1 => post a1 M)
set_option maxRecDepth 100000 in
set_option maxHeartbeats 4000000 in
theorem sd_A_size_0 (X : Cx p s m args meth c b_A_size 1 R_A TBL D dA B zE) (hr : meth.sig.returnType = (some .int)) (hin : meth.name = y_A_size.name) {post : Int32 → wM → Prop} {x0 : Option Ro} {M : wM} (h : wp_A_size post x0 M) : AW p l e (headSpec w_A_size rm_A_size).room s m args below meth c (MQ below (QI D dA B zE M0 ad0 post) args s 0 0 (wA B)) D dA B zE 1 ad0 M0 M 0 0 0 [(0, vR x0)] [] := by
  unfold wp_A_size at h
  refine aw_aload_n X 0 rfl d_A_size_0 rfl ?_
  refine aw_gI X hc_8 in_8 1 (by decide) LK_115 (fun _ _ _ _ h => h) d_A_size_1 (h.mono (fun a1 h => ?_))
  exact aw_iret X hr (Nat.le_of_ble_eq_true rfl) (Nat.le_of_ble_eq_true rfl) d_A_size_4 h
end
theorem t_A_size (l : Launch) {D : va_G} {dA : Nat → ClassId} {B : Nat} {zE : ZT} {M : wM} {ad : Ro → Nat} {post : Int32 → wM → Prop} {x0 : Option Ro} (hlv : lvS M [vR x0]) (h : wp_A_size post x0 M) : Met l y_A_size w_A_size rm_A_size (PA D dA B zE M ad [vR x0]) (QI D dA B zE M ad post) 0 0 (wA B) :=
  AW_start [vR x0] [(0, vR x0)] hlv (by decide +kernel) rfl (fun _ hw => List.mem_cons_of_mem _ hw) rfl (Nat.le_of_ble_eq_true rfl) (fun p e s m args below meth c X hr hin => sd_A_size_0 X hr hin h)
abbrev rm_T_init : Room := { frames := 1, cells := 0, slots := 0, locals := 40 }
section
variable {p : Program} {l : Launch} {e : Env} {s : State} {m : MethodId} {args : Array Value} {below : List Frame} {meth : Method} {c : Code} {D : va_G} {dA : Nat → ClassId} {B : Nat} {zE : ZT} {ad0 : Ro → Nat} {M0 : wM}
def wp_T_init (post : wM → Prop) (x0 : Option Ro) (x1 : Int32) (x2 : Int32) (x3 : Int32) (x4 : Int32) (M : wM) : Prop := nn x0 (pF M x0 5 0 (vI x1) (fun M6 => pF M6 x0 5 1 (vI x2) (fun M11 => pF M11 x0 5 2 (vI x3) (fun M16 => pF M16 x0 5 3 (vI x4) (fun M22 => post M22)))))
set_option maxRecDepth 100000 in
set_option maxHeartbeats 4000000 in
theorem sd_T_init_0 (X : Cx p s m args meth c b_T_init 5 R_T TBL D dA B zE) (hr : meth.sig.returnType = none) (hin : meth.name = y_T_init.name) {post : wM → Prop} {x0 : Option Ro} {x1 : Int32} {x2 : Int32} {x3 : Int32} {x4 : Int32} {M : wM} (h : wp_T_init post x0 x1 x2 x3 x4 M) : AW p l e (headSpec w_T_init rm_T_init).room s m args below meth c (MQ below (QV D dA B zE M0 ad0 post) args s 0 0 (wA B)) D dA B zE 5 ad0 M0 M 0 0 0 [(0, vR x0), (1, vI x1), (2, vI x2), (3, vI x3), (4, vI x4)] [] := by
  unfold wp_T_init at h
  refine aw_aload_n X 0 rfl d_T_init_0 rfl ?_
  obtain ⟨⟨r1, e1⟩, h⟩ := h
  cases e1
  refine aw_objInit X LK_129 LK_1 LK_objcode (Nat.le_of_ble_eq_true rfl) (Nat.le_of_ble_eq_true rfl) d_T_init_1 ?_
  refine aw_aload_n X 0 rfl d_T_init_4 rfl ?_
  refine aw_iload_n X 1 rfl d_T_init_5 rfl ?_
  refine aw_pFF (ty := .int) X hc_5 in_5 0 (by decide) ty_5 tyok_5 nm_5 LK_130 (fun _ _ _ _ h => h) rfl hin rfl (by decide +kernel) (fun _ => ⟨rfl, rfl⟩) d_T_init_6 (h.mono (fun M6 h => ?_))
  refine aw_aload_n X 0 rfl d_T_init_9 rfl ?_
  refine aw_iload_n X 2 rfl d_T_init_10 rfl ?_
  refine aw_pFF (ty := .int) X hc_5 in_5 1 (by decide) ty_5 tyok_5 nm_5 LK_131 (fun _ _ _ _ h => h) rfl hin rfl (by decide +kernel) (fun _ => ⟨rfl, rfl⟩) d_T_init_11 (h.mono (fun M11 h => ?_))
  refine aw_aload_n X 0 rfl d_T_init_14 rfl ?_
  refine aw_iload_n X 3 rfl d_T_init_15 rfl ?_
  refine aw_pFF (ty := .int) X hc_5 in_5 2 (by decide) ty_5 tyok_5 nm_5 LK_132 (fun _ _ _ _ h => h) rfl hin rfl (by decide +kernel) (fun _ => ⟨rfl, rfl⟩) d_T_init_16 (h.mono (fun M16 h => ?_))
  refine aw_aload_n X 0 rfl d_T_init_19 rfl ?_
  refine aw_iload X 4 rfl d_T_init_20 ?_
  refine aw_pFF (ty := .int) X hc_5 in_5 3 (by decide) ty_5 tyok_5 nm_5 LK_133 (fun _ _ _ _ h => h) rfl hin rfl (by decide +kernel) (fun _ => ⟨rfl, rfl⟩) d_T_init_22 (h.mono (fun M22 h => ?_))
  exact aw_vret X hr (Nat.le_of_ble_eq_true rfl) (Nat.le_of_ble_eq_true rfl) d_T_init_25 h
end
theorem t_T_init (l : Launch) {D : va_G} {dA : Nat → ClassId} {B : Nat} {zE : ZT} {M : wM} {ad : Ro → Nat} {post : wM → Prop} {x0 : Option Ro} {x1 : Int32} {x2 : Int32} {x3 : Int32} {x4 : Int32} (hlv : lvS M [vR x0, vI x1, vI x2, vI x3, vI x4]) (h : wp_T_init post x0 x1 x2 x3 x4 M) : Met l y_T_init w_T_init rm_T_init (PA D dA B zE M ad [vR x0, vI x1, vI x2, vI x3, vI x4]) (QV D dA B zE M ad post) 0 0 (wA B) :=
  AW_start [vR x0, vI x1, vI x2, vI x3, vI x4] [(0, vR x0), (1, vI x1), (2, vI x2), (3, vI x3), (4, vI x4)] hlv (by decide +kernel) rfl (fun _ hw => List.mem_cons_of_mem _ hw) rfl (Nat.le_of_ble_eq_true rfl) (fun p e s m args below meth c X hr hin => sd_T_init_0 X hr hin h)
abbrev rm_As_newLength : Room := { frames := 1, cells := 0, slots := 0, locals := 21 }
section
variable {p : Program} {l : Launch} {e : Env} {s : State} {m : MethodId} {args : Array Value} {below : List Frame} {meth : Method} {c : Code} {D : va_G} {dA : Nat → ClassId} {B : Nat} {zE : ZT} {ad0 : Ro → Nat} {M0 : wM}
def wp_As_newLength_21 (post : Int32 → wM → Prop) (x0 : Int32) (x1 : Int32) (x2 : Int32) (x3 : Int32) (M : wM) : Prop := False
set_option maxRecDepth 100000 in
set_option maxHeartbeats 4000000 in
theorem sd_As_newLength_21 (X : Cx p s m args meth c b_As_newLength 4 R_As TBL D dA B zE) (hr : meth.sig.returnType = (some .int)) (hin : meth.name = y_As_newLength.name) {post : Int32 → wM → Prop} {x0 : Int32} {x1 : Int32} {x2 : Int32} {x3 : Int32} {M : wM} (h : wp_As_newLength_21 post x0 x1 x2 x3 M) : AW p l e (headSpec w_As_newLength rm_As_newLength).room s m args below meth c (MQ below (QI D dA B zE M0 ad0 post) args s 0 0 (wA B)) D dA B zE 4 ad0 M0 M 0 0 21 [(0, vI x0), (1, vI x1), (2, vI x2), (3, vI x3)] [] := by
  unfold wp_As_newLength_21 at h
  refine aw_iload_n X 0 rfl d_As_newLength_21 rfl ?_
  refine aw_iload_n X 1 rfl d_As_newLength_22 rfl ?_
  exact h.elim
def wp_As_newLength (post : Int32 → wM → Prop) (x0 : Int32) (x1 : Int32) (x2 : Int32) (M : wM) : Prop := wp_Ma_max (fun a3 M3 => ((x0 + a3) ≤ (0 : Int32) → wp_As_newLength_21 post x0 x1 x2 (x0 + a3) M3) ∧ (¬ (x0 + a3) ≤ (0 : Int32) → (((2147483639) : Int32) < (x0 + a3) → wp_As_newLength_21 post x0 x1 x2 (x0 + a3) M3) ∧ (¬ ((2147483639) : Int32) < (x0 + a3) → post (x0 + a3) M3))) x1 x2 M
set_option maxRecDepth 100000 in
set_option maxHeartbeats 4000000 in
theorem sd_As_newLength_0 (X : Cx p s m args meth c b_As_newLength 4 R_As TBL D dA B zE) (hr : meth.sig.returnType = (some .int)) (hin : meth.name = y_As_newLength.name) {post : Int32 → wM → Prop} {x0 : Int32} {x1 : Int32} {x2 : Int32} {M : wM} (h : wp_As_newLength post x0 x1 x2 M) : AW p l e (headSpec w_As_newLength rm_As_newLength).room s m args below meth c (MQ below (QI D dA B zE M0 ad0 post) args s 0 0 (wA B)) D dA B zE 4 ad0 M0 M 0 0 0 [(0, vI x0), (1, vI x1), (2, vI x2)] [] := by
  unfold wp_As_newLength at h
  refine aw_iload_n X 0 rfl d_As_newLength_0 rfl ?_
  refine aw_iload_n X 1 rfl d_As_newLength_1 rfl ?_
  refine aw_iload_n X 2 rfl d_As_newLength_2 rfl ?_
  refine aw_cSi X [_, _] (fun ad hlv => t_Ma_max l hlv h) (va_cwS 2 X.hts (gd_S2 LK_134 LK_99 LK_96 LK_code_Ma_max) rfl rfl rfl (by decide +kernel) ⟨(Nat.le_of_ble_eq_true rfl), (Nat.le_of_ble_eq_true rfl)⟩) rfl rfl (Nat.le_of_ble_eq_true rfl) d_As_newLength_3 ⟨(Nat.le_of_ble_eq_true rfl), (Nat.le_of_ble_eq_true rfl)⟩ (fun a3 M3 h => ?_)
  refine aw_iadd X d_As_newLength_6 ?_
  refine aw_istore_n (lvn := [(3, _), (0, _), (1, _), (2, _)]) X d_As_newLength_7 rfl (by decide) rfl ?_
  refine aw_iconst X (0) (by decide) d_As_newLength_8 ?_
  refine aw_iload_n X 0 rfl d_As_newLength_9 rfl ?_
  refine aw_icmp_ge (tgt := 21) X d_As_newLength_10 (by decide) (fun c => ?_) (fun c => ?_)
  · have h := h.1 c
    refine aw_lv [1, 2, 3, 0] rfl ?_
    exact sd_As_newLength_21 X hr hin h
  · have h := h.2 c
    refine aw_iload_n X 0 rfl d_As_newLength_13 rfl ?_
    refine aw_ldc X LK_135 d_As_newLength_14 ?_
    refine aw_icmp_gt (tgt := 21) X d_As_newLength_16 (by decide) (fun c => ?_) (fun c => ?_)
    · have h := h.1 c
      refine aw_lv [1, 2, 3, 0] rfl ?_
      exact sd_As_newLength_21 X hr hin h
    · have h := h.2 c
      refine aw_iload_n X 0 rfl d_As_newLength_19 rfl ?_
      exact aw_iret X hr (Nat.le_of_ble_eq_true rfl) (Nat.le_of_ble_eq_true rfl) d_As_newLength_20 h
end
theorem t_As_newLength (l : Launch) {D : va_G} {dA : Nat → ClassId} {B : Nat} {zE : ZT} {M : wM} {ad : Ro → Nat} {post : Int32 → wM → Prop} {x0 : Int32} {x1 : Int32} {x2 : Int32} (hlv : lvS M [vI x0, vI x1, vI x2]) (h : wp_As_newLength post x0 x1 x2 M) : Met l y_As_newLength w_As_newLength rm_As_newLength (PA D dA B zE M ad [vI x0, vI x1, vI x2]) (QI D dA B zE M ad post) 0 0 (wA B) :=
  AW_start [vI x0, vI x1, vI x2] [(0, vI x0), (1, vI x1), (2, vI x2)] hlv (by decide +kernel) rfl (fun _ hw => List.mem_cons_of_mem _ hw) rfl (Nat.le_of_ble_eq_true rfl) (fun p e s m args below meth c X hr hin => sd_As_newLength_0 X hr hin h)
abbrev rm_Ar_copyOf1 : Room := { frames := 1, cells := 1, slots := 800, locals := 60 }
section
variable {p : Program} {l : Launch} {e : Env} {s : State} {m : MethodId} {args : Array Value} {below : List Frame} {meth : Method} {c : Code} {D : va_G} {dA : Nat → ClassId} {B : Nat} {zE : ZT} {ad0 : Ro → Nat} {M0 : wM}
def wp_Ar_copyOf1_24 (post : Option Ro → wM → Prop) (x0 : Option Ro) (x1 : Int32) (x2 : Option Ro) (s0 : Option Ro) (M : wM) : Prop := aN M x0 (fun a30 => wp_Ma_min (fun a32 M32 => cpR M32 x0 0 s0 0 a32 (fun M35 => post s0 M35)) a30 x1 M)
set_option maxRecDepth 100000 in
set_option maxHeartbeats 4000000 in
theorem sd_Ar_copyOf1_24 (X : Cx p s m args meth c b_Ar_copyOf1 4 R_Ar TBL D dA B zE) (hr : meth.sig.returnType = (some (.array (.object "java/lang/Object")))) (hin : meth.name = y_Ar_copyOf1.name) {post : Option Ro → wM → Prop} {x0 : Option Ro} {x1 : Int32} {x2 : Option Ro} {s0 : Option Ro} {M : wM} (h : wp_Ar_copyOf1_24 post x0 x1 x2 s0 M) : AW p l e (headSpec w_Ar_copyOf1 rm_Ar_copyOf1).room s m args below meth c (MQ below (QR D dA B zE M0 ad0 post) args s 1 800 (wA B)) D dA B zE 4 ad0 M0 M 1 800 24 [(0, vR x0), (1, vI x1), (2, vR x2)] [vR s0] := by
  unfold wp_Ar_copyOf1_24 at h
  refine aw_astore_n (lvn := [(3, _), (0, _), (1, _), (2, _)]) X d_Ar_copyOf1_24 rfl (by decide) rfl ?_
  refine aw_aload_n X 1 rfl d_Ar_copyOf1_25 rfl ?_
  refine aw_iconst X (0) (by decide) d_Ar_copyOf1_26 ?_
  refine aw_aload_n X 0 rfl d_Ar_copyOf1_27 rfl ?_
  refine aw_iconst X (0) (by decide) d_Ar_copyOf1_28 ?_
  refine aw_aload_n X 1 rfl d_Ar_copyOf1_29 rfl ?_
  refine aw_aN X d_Ar_copyOf1_30 (h.mono (fun a30 h => ?_))
  refine aw_iload_n X 2 rfl d_Ar_copyOf1_31 rfl ?_
  refine aw_cSi X [_, _] (fun ad hlv => t_Ma_min l hlv h) (va_cwS 2 X.hts (gd_S2 LK_136 LK_95 LK_96 LK_code_Ma_min) rfl rfl rfl (by decide +kernel) ⟨(Nat.le_of_ble_eq_true rfl), (Nat.le_of_ble_eq_true rfl)⟩) rfl rfl (Nat.le_of_ble_eq_true rfl) d_Ar_copyOf1_32 ⟨(Nat.le_of_ble_eq_true rfl), (Nat.le_of_ble_eq_true rfl)⟩ (fun a32 M32 h => ?_)
  refine aw_cpR X LK_137 LK_138 LK_139 LK_140 (Nat.le_of_ble_eq_true rfl) (Nat.le_of_ble_eq_true rfl) d_Ar_copyOf1_35 (h.mono (fun M35 h => ?_))
  refine aw_aload_n X 0 rfl d_Ar_copyOf1_38 rfl ?_
  exact aw_aret X hr (Or.inr ⟨_, rfl⟩) (Nat.le_of_ble_eq_true rfl) (Nat.le_of_ble_eq_true rfl) d_Ar_copyOf1_39 h
def wp_Ar_copyOf1 (post : Option Ro → wM → Prop) (x0 : Option Ro) (x1 : Int32) (x2 : Option Ro) (M : wM) : Prop := ns x2 (some (91, 0)) ∧ (¬ x2 = (some (91, 0)) → False) ∧ (x2 = (some (91, 0)) → nA M x1 800 (fun n => ar 3 n (fun _ => none)) (fun a7 M7 => wp_Ar_copyOf1_24 post x0 x1 x2 a7 M7))
set_option maxRecDepth 100000 in
set_option maxHeartbeats 4000000 in
theorem sd_Ar_copyOf1_0 (X : Cx p s m args meth c b_Ar_copyOf1 4 R_Ar TBL D dA B zE) (hr : meth.sig.returnType = (some (.array (.object "java/lang/Object")))) (hin : meth.name = y_Ar_copyOf1.name) {post : Option Ro → wM → Prop} {x0 : Option Ro} {x1 : Int32} {x2 : Option Ro} {M : wM} (h : wp_Ar_copyOf1 post x0 x1 x2 M) : AW p l e (headSpec w_Ar_copyOf1 rm_Ar_copyOf1).room s m args below meth c (MQ below (QR D dA B zE M0 ad0 post) args s 1 800 (wA B)) D dA B zE 4 ad0 M0 M 0 0 0 [(0, vR x0), (1, vI x1), (2, vR x2)] [] := by
  unfold wp_Ar_copyOf1 at h
  refine aw_aload_n X 2 rfl d_Ar_copyOf1_0 rfl ?_
  refine aw_ldcM X LK_141 d_Ar_copyOf1_1 ?_
  obtain ⟨hns, h⟩ := h
  refine aw_acmp_ne (tgt := 13) X hns d_Ar_copyOf1_3 (by decide) (fun c => ?_) (fun c => ?_)
  · have h := h.1 c
    refine aw_aload_n X 2 rfl d_Ar_copyOf1_13 rfl ?_
    exact h.elim
  · have h := h.2 c
    refine aw_iload_n X 1 rfl d_Ar_copyOf1_6 rfl ?_
    refine aw_nAR (t := 3) X rfl (by decide) LK_142 (X.hG.2.2.1.2.2.2.2.1 _ (by decide)) 800 (by decide) (Nat.le_of_ble_eq_true rfl) (Nat.le_of_ble_eq_true rfl) d_Ar_copyOf1_7 (h.mono (fun a7 M7 h => ?_))
    refine aw_goto (tgt := 24) X d_Ar_copyOf1_10 (by decide) ?_
    exact sd_Ar_copyOf1_24 X hr hin h
end
theorem t_Ar_copyOf1 (l : Launch) {D : va_G} {dA : Nat → ClassId} {B : Nat} {zE : ZT} {M : wM} {ad : Ro → Nat} {post : Option Ro → wM → Prop} {x0 : Option Ro} {x1 : Int32} {x2 : Option Ro} (hlv : lvS M [vR x0, vI x1, vR x2]) (h : wp_Ar_copyOf1 post x0 x1 x2 M) : Met l y_Ar_copyOf1 w_Ar_copyOf1 rm_Ar_copyOf1 (PA D dA B zE M ad [vR x0, vI x1, vR x2]) (QR D dA B zE M ad post) 1 800 (wA B) :=
  AW_start [vR x0, vI x1, vR x2] [(0, vR x0), (1, vI x1), (2, vR x2)] hlv (by decide +kernel) rfl (fun _ hw => List.mem_cons_of_mem _ hw) rfl (Nat.le_of_ble_eq_true rfl) (fun p e s m args below meth c X hr hin => sd_Ar_copyOf1_0 X hr hin h)
