abbrev rm_Ac_init : Room := { frames := 1, cells := 0, slots := 0, locals := 40 }
section
variable {p : Program} {l : Launch} {e : Env} {s : State} {m : MethodId} {args : Array Value} {below : List Frame} {meth : Method} {c : Code} {D : va_G} {dA : Nat → ClassId} {B : Nat} {zE : ZT} {ad0 : Ro → Nat} {M0 : wM}
def wp_Ac_init (post : wM → Prop) (x0 : Option Ro) (M : wM) : Prop := nn x0 (post M)
set_option maxRecDepth 100000 in
set_option maxHeartbeats 4000000 in
theorem sd_Ac_init_0 (X : Cx p s m args meth c b_Ac_init 1 R_Ac TBL D dA B zE) (hr : meth.sig.returnType = none) (hin : meth.name = y_Ac_init.name) {post : wM → Prop} {x0 : Option Ro} {M : wM} (h : wp_Ac_init post x0 M) : AW p l e (headSpec w_Ac_init rm_Ac_init).room s m args below meth c (MQ below (QV D dA B zE M0 ad0 post) args s 0 0 (wA B)) D dA B zE 1 ad0 M0 M 0 0 0 [(0, vR x0)] [] := by
  unfold wp_Ac_init at h
  refine aw_aload_n X 0 rfl d_Ac_init_0 rfl ?_
  obtain ⟨⟨r1, e1⟩, h⟩ := h
  cases e1
  refine aw_objInit X LK_0 LK_1 LK_objcode (Nat.le_of_ble_eq_true rfl) (Nat.le_of_ble_eq_true rfl) d_Ac_init_1 ?_
  exact aw_vret X hr (Nat.le_of_ble_eq_true rfl) (Nat.le_of_ble_eq_true rfl) d_Ac_init_4 h
end
theorem t_Ac_init (l : Launch) {D : va_G} {dA : Nat → ClassId} {B : Nat} {zE : ZT} {M : wM} {ad : Ro → Nat} {post : wM → Prop} {x0 : Option Ro} (hlv : lvS M [vR x0]) (h : wp_Ac_init post x0 M) : Met l y_Ac_init w_Ac_init rm_Ac_init (PA D dA B zE M ad [vR x0]) (QV D dA B zE M ad post) 0 0 (wA B) :=
  AW_start [vR x0] [(0, vR x0)] hlv (by decide +kernel) rfl (fun _ hw => List.mem_cons_of_mem _ hw) rfl (Nat.le_of_ble_eq_true rfl) (fun p e s m args below meth c X hr hin => sd_Ac_init_0 X hr hin h)
abbrev rm_Ab_init : Room := { frames := 2, cells := 0, slots := 0, locals := 60 }
section
variable {p : Program} {l : Launch} {e : Env} {s : State} {m : MethodId} {args : Array Value} {below : List Frame} {meth : Method} {c : Code} {D : va_G} {dA : Nat → ClassId} {B : Nat} {zE : ZT} {ad0 : Ro → Nat} {M0 : wM}
def wp_Ab_init (post : wM → Prop) (x0 : Option Ro) (M : wM) : Prop := cV M x0 8 (wp_Ac_init (fun M1 => pF M1 x0 8 2 (vI 0) (fun M6 => post M6)) x0 M)
set_option maxRecDepth 100000 in
set_option maxHeartbeats 4000000 in
theorem sd_Ab_init_0 (X : Cx p s m args meth c b_Ab_init 1 R_Ab TBL D dA B zE) (hr : meth.sig.returnType = none) (hin : meth.name = y_Ab_init.name) {post : wM → Prop} {x0 : Option Ro} {M : wM} (h : wp_Ab_init post x0 M) : AW p l e (headSpec w_Ab_init rm_Ab_init).room s m args below meth c (MQ below (QV D dA B zE M0 ad0 post) args s 0 0 (wA B)) D dA B zE 1 ad0 M0 M 0 0 0 [(0, vR x0)] [] := by
  unfold wp_Ab_init at h
  refine aw_aload_n X 0 rfl d_Ab_init_0 rfl ?_
  obtain ⟨⟨r1, f1, e1, g1⟩, h⟩ := h
  cases e1
  refine aw_cIv X [] (fun ad hlv => t_Ac_init l hlv h) (cwI 0 X.hts (gd_in LK_code_Ac_init) rfl rfl rfl (X.hts _ LK_4) (X.hts _ LK_5) (X.hts _ LK_6) rfl (by decide +kernel) ⟨(Nat.le_of_ble_eq_true rfl), (Nat.le_of_ble_eq_true rfl)⟩) rfl rfl (Nat.le_of_ble_eq_true rfl) d_Ab_init_1 ⟨(Nat.le_of_ble_eq_true rfl), (Nat.le_of_ble_eq_true rfl)⟩ (fun M1 h => ?_)
  refine aw_aload_n X 0 rfl d_Ab_init_4 rfl ?_
  refine aw_iconst X (0) (by decide) d_Ab_init_5 ?_
  refine aw_pF (ty := .int) X hc_8 in_8 2 (by decide) ty_8 tyok_8 nm_8 LK_7 (fun _ _ _ _ h => h) rfl (by decide +kernel) (fun _ => ⟨rfl, rfl⟩) d_Ab_init_6 (h.mono (fun M6 h => ?_))
  exact aw_vret X hr (Nat.le_of_ble_eq_true rfl) (Nat.le_of_ble_eq_true rfl) d_Ab_init_9 h
end
theorem t_Ab_init (l : Launch) {D : va_G} {dA : Nat → ClassId} {B : Nat} {zE : ZT} {M : wM} {ad : Ro → Nat} {post : wM → Prop} {x0 : Option Ro} (hlv : lvS M [vR x0]) (h : wp_Ab_init post x0 M) : Met l y_Ab_init w_Ab_init rm_Ab_init (PA D dA B zE M ad [vR x0]) (QV D dA B zE M ad post) 0 0 (wA B) :=
  AW_start [vR x0] [(0, vR x0)] hlv (by decide +kernel) rfl (fun _ hw => List.mem_cons_of_mem _ hw) rfl (Nat.le_of_ble_eq_true rfl) (fun p e s m args below meth c X hr hin => sd_Ab_init_0 X hr hin h)
abbrev rm_A_init : Room := { frames := 3, cells := 0, slots := 0, locals := 80 }
section
variable {p : Program} {l : Launch} {e : Env} {s : State} {m : MethodId} {args : Array Value} {below : List Frame} {meth : Method} {c : Code} {D : va_G} {dA : Nat → ClassId} {B : Nat} {zE : ZT} {ad0 : Ro → Nat} {M0 : wM}
def wp_A_init (post : wM → Prop) (x0 : Option Ro) (M : wM) : Prop := cV M x0 8 (wp_Ab_init (fun M1 => pF M1 x0 8 0 (vR (some (90, 0))) (fun M8 => post M8)) x0 M)
set_option maxRecDepth 100000 in
set_option maxHeartbeats 4000000 in
theorem sd_A_init_0 (X : Cx p s m args meth c b_A_init 1 R_A TBL D dA B zE) (hr : meth.sig.returnType = none) (hin : meth.name = y_A_init.name) {post : wM → Prop} {x0 : Option Ro} {M : wM} (h : wp_A_init post x0 M) : AW p l e (headSpec w_A_init rm_A_init).room s m args below meth c (MQ below (QV D dA B zE M0 ad0 post) args s 0 0 (wA B)) D dA B zE 1 ad0 M0 M 0 0 0 [(0, vR x0)] [] := by
  unfold wp_A_init at h
  refine aw_aload_n X 0 rfl d_A_init_0 rfl ?_
  obtain ⟨⟨r1, f1, e1, g1⟩, h⟩ := h
  cases e1
  refine aw_cIv X [] (fun ad hlv => t_Ab_init l hlv h) (cwI 0 X.hts (gd_in LK_code_Ab_init) rfl rfl rfl (X.hts _ LK_9) (X.hts _ LK_10) (X.hts _ LK_11) rfl (by decide +kernel) ⟨(Nat.le_of_ble_eq_true rfl), (Nat.le_of_ble_eq_true rfl)⟩) rfl rfl (Nat.le_of_ble_eq_true rfl) d_A_init_1 ⟨(Nat.le_of_ble_eq_true rfl), (Nat.le_of_ble_eq_true rfl)⟩ (fun M1 h => ?_)
  refine aw_aload_n X 0 rfl d_A_init_4 rfl ?_
  refine aw_gets X LK_12 rfl d_A_init_5 ?_
  refine aw_pF (ty := (.array (.object "java/lang/Object"))) X hc_8 in_8 0 (by decide) ty_8 tyok_8 nm_8 LK_13 (fun _ _ _ _ h => h) rfl (by decide +kernel) nfA d_A_init_8 (h.mono (fun M8 h => ?_))
  exact aw_vret X hr (Nat.le_of_ble_eq_true rfl) (Nat.le_of_ble_eq_true rfl) d_A_init_11 h
end
theorem t_A_init (l : Launch) {D : va_G} {dA : Nat → ClassId} {B : Nat} {zE : ZT} {M : wM} {ad : Ro → Nat} {post : wM → Prop} {x0 : Option Ro} (hlv : lvS M [vR x0]) (h : wp_A_init post x0 M) : Met l y_A_init w_A_init rm_A_init (PA D dA B zE M ad [vR x0]) (QV D dA B zE M ad post) 0 0 (wA B) :=
  AW_start [vR x0] [(0, vR x0)] hlv (by decide +kernel) rfl (fun _ hw => List.mem_cons_of_mem _ hw) rfl (Nat.le_of_ble_eq_true rfl) (fun p e s m args below meth c X hr hin => sd_A_init_0 X hr hin h)
abbrev rm_Ar_fill0 : Room := { frames := 0, cells := 0, slots := 0, locals := 0 }
section
variable {p : Program} {l : Launch} {e : Env} {s : State} {m : MethodId} {args : Array Value} {below : List Frame} {meth : Method} {c : Code} {D : va_G} {dA : Nat → ClassId} {B : Nat} {zE : ZT} {ad0 : Ro → Nat} {M0 : wM}
def wp_Ar_fill0_6 (post : wM → Prop) : Nat → Option Ro → Int64 → Int32 → Int32 → wM → Prop
  | 0, _, _, _, _, _ => False
  | n + 1, x0, x1, x3, x4, M => (x4 ≤ x3 → post M) ∧ (¬ x4 ≤ x3 → sL M x0 x3 x1 (fun M15 => wp_Ar_fill0_6 post n x0 x1 (x3 + 1) x4 M15))
set_option maxRecDepth 100000 in
set_option maxHeartbeats 4000000 in
theorem sd_Ar_fill0_6 (X : Cx p s m args meth c b_Ar_fill0 5 R_Ar TBL D dA B zE) (hr : meth.sig.returnType = none) (hin : meth.name = y_Ar_fill0.name) {post : wM → Prop} : ∀ (n : Nat) (x0 : Option Ro) (x1 : Int64) (x3 : Int32) (x4 : Int32) (M : wM), wp_Ar_fill0_6 post n x0 x1 x3 x4 M → AW p l e (headSpec w_Ar_fill0 rm_Ar_fill0).room s m args below meth c (MQ below (QV D dA B zE M0 ad0 post) args s 0 0 (wA B)) D dA B zE 5 ad0 M0 M 0 0 6 [(0, vR x0), (1, vL x1), (3, vI x3), (4, vI x4)] [] := by
  intro n
  induction n with
  | zero => intro x0 x1 x3 x4 M h; exact h.elim
  | succ n ih =>
    intro x0 x1 x3 x4 M h
    unfold wp_Ar_fill0_6 at h
    refine aw_iload_n X 2 rfl d_Ar_fill0_6 rfl ?_
    refine aw_iload X 3 rfl d_Ar_fill0_7 ?_
    refine aw_icmp_ge (tgt := 22) X d_Ar_fill0_9 (by decide) (fun c => ?_) (fun c => ?_)
    · have h := h.1 c
      exact aw_vret X hr (Nat.le_of_ble_eq_true rfl) (Nat.le_of_ble_eq_true rfl) d_Ar_fill0_22 h
    · have h := h.2 c
      refine aw_aload_n X 0 rfl d_Ar_fill0_12 rfl ?_
      refine aw_iload_n X 2 rfl d_Ar_fill0_13 rfl ?_
      refine aw_lload_n X 1 rfl d_Ar_fill0_14 rfl ?_
      refine aw_sL X d_Ar_fill0_15 (h.mono (fun M15 h => ?_))
      refine aw_iinc (y := x3 + 1) (lvn := [(3, _), (0, _), (1, _), (4, _)]) X 2 rfl d_Ar_fill0_16 rfl (by decide) rfl ?_
      refine aw_goto (tgt := 6) X d_Ar_fill0_19 (by decide) ?_
      refine aw_lv [1, 2, 0, 3] rfl ?_
      exact ih _ _ _ _ _ h
def wp_Ar_fill0 (post : wM → Prop) (x0 : Option Ro) (x1 : Int64) (M : wM) : Prop := aN M x0 (fun a3 => (∃ n, wp_Ar_fill0_6 post n x0 x1 0 a3 M))
set_option maxRecDepth 100000 in
set_option maxHeartbeats 4000000 in
theorem sd_Ar_fill0_0 (X : Cx p s m args meth c b_Ar_fill0 5 R_Ar TBL D dA B zE) (hr : meth.sig.returnType = none) (hin : meth.name = y_Ar_fill0.name) {post : wM → Prop} {x0 : Option Ro} {x1 : Int64} {M : wM} (h : wp_Ar_fill0 post x0 x1 M) : AW p l e (headSpec w_Ar_fill0 rm_Ar_fill0).room s m args below meth c (MQ below (QV D dA B zE M0 ad0 post) args s 0 0 (wA B)) D dA B zE 5 ad0 M0 M 0 0 0 [(0, vR x0), (1, vL x1)] [] := by
  unfold wp_Ar_fill0 at h
  refine aw_iconst X (0) (by decide) d_Ar_fill0_0 ?_
  refine aw_istore_n (lvn := [(3, _), (0, _), (1, _)]) X d_Ar_fill0_1 rfl (by decide) rfl ?_
  refine aw_aload_n X 1 rfl d_Ar_fill0_2 rfl ?_
  refine aw_aN X d_Ar_fill0_3 (h.mono (fun a3 h => ?_))
  refine aw_istore (lvn := [(4, _), (3, _), (0, _), (1, _)]) X d_Ar_fill0_4 (by decide) rfl ?_
  refine aw_lv [2, 3, 1, 0] rfl ?_
  obtain ⟨n, h⟩ := h
  exact sd_Ar_fill0_6 X hr hin n _ _ _ _ _ h
end
theorem t_Ar_fill0 (l : Launch) {D : va_G} {dA : Nat → ClassId} {B : Nat} {zE : ZT} {M : wM} {ad : Ro → Nat} {post : wM → Prop} {x0 : Option Ro} {x1 : Int64} (hlv : lvS M [vR x0, vL x1]) (h : wp_Ar_fill0 post x0 x1 M) : Met l y_Ar_fill0 w_Ar_fill0 rm_Ar_fill0 (PA D dA B zE M ad [vR x0, vL x1]) (QV D dA B zE M ad post) 0 0 (wA B) :=
  AW_start [vR x0, vL x1] [(0, vR x0), (1, vL x1)] hlv (by decide +kernel) rfl (fun _ hw => List.mem_cons_of_mem _ hw) rfl (Nat.le_of_ble_eq_true rfl) (fun p e s m args below meth c X hr hin => sd_Ar_fill0_0 X hr hin h)
abbrev rm_B_init : Room := { frames := 1, cells := 2, slots := 40, locals := 40 }
section
variable {p : Program} {l : Launch} {e : Env} {s : State} {m : MethodId} {args : Array Value} {below : List Frame} {meth : Method} {c : Code} {D : va_G} {dA : Nat → ClassId} {B : Nat} {zE : ZT} {ad0 : Ro → Nat} {M0 : wM}
def wp_B_init (post : wM → Prop) (x0 : Option Ro) (M : wM) : Prop := nn x0 (nA M 32 32 (fun n => al 1 n (fun _ => 0)) (fun a7 M7 => pF M7 x0 6 0 (vR a7) (fun M9 => nA M9 8 8 (fun n => ai 0 n (fun _ => 0)) (fun a15 M15 => pF M15 x0 6 1 (vR a15) (fun M17 => gR M17 x0 6 0 (fun a21 => wp_Ar_fill0 (fun M27 => post M27) a21 (1000000000000) M17))))))
set_option maxRecDepth 100000 in
set_option maxHeartbeats 4000000 in
theorem sd_B_init_0 (X : Cx p s m args meth c b_B_init 1 R_B TBL D dA B zE) (hr : meth.sig.returnType = none) (hin : meth.name = y_B_init.name) {post : wM → Prop} {x0 : Option Ro} {M : wM} (h : wp_B_init post x0 M) : AW p l e (headSpec w_B_init rm_B_init).room s m args below meth c (MQ below (QV D dA B zE M0 ad0 post) args s 2 40 (wA B)) D dA B zE 1 ad0 M0 M 0 0 0 [(0, vR x0)] [] := by
  unfold wp_B_init at h
  refine aw_aload_n X 0 rfl d_B_init_0 rfl ?_
  obtain ⟨⟨r1, e1⟩, h⟩ := h
  cases e1
  refine aw_objInit X LK_14 LK_1 LK_objcode (Nat.le_of_ble_eq_true rfl) (Nat.le_of_ble_eq_true rfl) d_B_init_1 ?_
  refine aw_aload_n X 0 rfl d_B_init_4 rfl ?_
  refine aw_bipush X (32) (by decide) d_B_init_5 ?_
  refine aw_nAL (atype := .long) X rfl LK_15 32 (by decide) (Nat.le_of_ble_eq_true rfl) (Nat.le_of_ble_eq_true rfl) d_B_init_7 (h.mono (fun a7 M7 h => ?_))
  refine aw_pFF (ty := (.array .long)) X hc_6 in_6 0 (by decide) ty_6 tyok_6 nm_6 LK_16 (fun _ _ _ _ h => h) rfl hin rfl (by decide +kernel) nfA d_B_init_9 (h.mono (fun M9 h => ?_))
  refine aw_aload_n X 0 rfl d_B_init_12 rfl ?_
  refine aw_bipush X (8) (by decide) d_B_init_13 ?_
  refine aw_nAI (atype := .int) X rfl LK_17 8 (by decide) (Nat.le_of_ble_eq_true rfl) (Nat.le_of_ble_eq_true rfl) d_B_init_15 (h.mono (fun a15 M15 h => ?_))
  refine aw_pFF (ty := (.array .int)) X hc_6 in_6 1 (by decide) ty_6 tyok_6 nm_6 LK_18 (fun _ _ _ _ h => h) rfl hin rfl (by decide +kernel) nfA d_B_init_17 (h.mono (fun M17 h => ?_))
  refine aw_aload_n X 0 rfl d_B_init_20 rfl ?_
  refine aw_gR X hc_6 in_6 0 (by decide) LK_16 (fun _ _ _ _ h => h) d_B_init_21 (h.mono (fun a21 h => ?_))
  refine aw_ldc2 X LK_19 d_B_init_24 ?_
  refine aw_cSv X [_, _] (fun ad hlv => t_Ar_fill0 l hlv h) (va_cwS 2 X.hts (gd_S2 LK_20 LK_21 LK_22 LK_code_Ar_fill0) rfl rfl rfl (by decide +kernel) ⟨(Nat.le_of_ble_eq_true rfl), (Nat.le_of_ble_eq_true rfl)⟩) rfl rfl (Nat.le_of_ble_eq_true rfl) d_B_init_27 ⟨(Nat.le_of_ble_eq_true rfl), (Nat.le_of_ble_eq_true rfl)⟩ (fun M27 h => ?_)
  exact aw_vret X hr (Nat.le_of_ble_eq_true rfl) (Nat.le_of_ble_eq_true rfl) d_B_init_30 h
end
theorem t_B_init (l : Launch) {D : va_G} {dA : Nat → ClassId} {B : Nat} {zE : ZT} {M : wM} {ad : Ro → Nat} {post : wM → Prop} {x0 : Option Ro} (hlv : lvS M [vR x0]) (h : wp_B_init post x0 M) : Met l y_B_init w_B_init rm_B_init (PA D dA B zE M ad [vR x0]) (QV D dA B zE M ad post) 2 40 (wA B) :=
  AW_start [vR x0] [(0, vR x0)] hlv (by decide +kernel) rfl (fun _ hw => List.mem_cons_of_mem _ hw) rfl (Nat.le_of_ble_eq_true rfl) (fun p e s m args below meth c X hr hin => sd_B_init_0 X hr hin h)
abbrev rm_Ma_min : Room := { frames := 0, cells := 0, slots := 0, locals := 0 }
section
variable {p : Program} {l : Launch} {e : Env} {s : State} {m : MethodId} {args : Array Value} {below : List Frame} {meth : Method} {c : Code} {D : va_G} {dA : Nat → ClassId} {B : Nat} {zE : ZT} {ad0 : Ro → Nat} {M0 : wM}
def wp_Ma_min_10 (post : Int32 → wM → Prop) (x0 : Int32) (x1 : Int32) (s0 : Int32) (M : wM) : Prop := post s0 M
set_option maxRecDepth 100000 in
set_option maxHeartbeats 4000000 in
theorem sd_Ma_min_10 (X : Cx p s m args meth c b_Ma_min 2 R_Ma TBL D dA B zE) (hr : meth.sig.returnType = (some .int)) (hin : meth.name = y_Ma_min.name) {post : Int32 → wM → Prop} {x0 : Int32} {x1 : Int32} {s0 : Int32} {M : wM} (h : wp_Ma_min_10 post x0 x1 s0 M) : AW p l e (headSpec w_Ma_min rm_Ma_min).room s m args below meth c (MQ below (QI D dA B zE M0 ad0 post) args s 0 0 (wA B)) D dA B zE 2 ad0 M0 M 0 0 10 [(0, vI x0), (1, vI x1)] [vI s0] := by
  unfold wp_Ma_min_10 at h
  exact aw_iret X hr (Nat.le_of_ble_eq_true rfl) (Nat.le_of_ble_eq_true rfl) d_Ma_min_10 h
def wp_Ma_min (post : Int32 → wM → Prop) (x0 : Int32) (x1 : Int32) (M : wM) : Prop := (x1 < x0 → wp_Ma_min_10 post x0 x1 x1 M) ∧ (¬ x1 < x0 → wp_Ma_min_10 post x0 x1 x0 M)
set_option maxRecDepth 100000 in
set_option maxHeartbeats 4000000 in
theorem sd_Ma_min_0 (X : Cx p s m args meth c b_Ma_min 2 R_Ma TBL D dA B zE) (hr : meth.sig.returnType = (some .int)) (hin : meth.name = y_Ma_min.name) {post : Int32 → wM → Prop} {x0 : Int32} {x1 : Int32} {M : wM} (h : wp_Ma_min post x0 x1 M) : AW p l e (headSpec w_Ma_min rm_Ma_min).room s m args below meth c (MQ below (QI D dA B zE M0 ad0 post) args s 0 0 (wA B)) D dA B zE 2 ad0 M0 M 0 0 0 [(0, vI x0), (1, vI x1)] [] := by
  unfold wp_Ma_min at h
  refine aw_iload_n X 0 rfl d_Ma_min_0 rfl ?_
  refine aw_iload_n X 1 rfl d_Ma_min_1 rfl ?_
  refine aw_icmp_gt (tgt := 9) X d_Ma_min_2 (by decide) (fun c => ?_) (fun c => ?_)
  · have h := h.1 c
    refine aw_iload_n X 1 rfl d_Ma_min_9 rfl ?_
    exact sd_Ma_min_10 X hr hin h
  · have h := h.2 c
    refine aw_iload_n X 0 rfl d_Ma_min_5 rfl ?_
    refine aw_goto (tgt := 10) X d_Ma_min_6 (by decide) ?_
    exact sd_Ma_min_10 X hr hin h
end
theorem t_Ma_min (l : Launch) {D : va_G} {dA : Nat → ClassId} {B : Nat} {zE : ZT} {M : wM} {ad : Ro → Nat} {post : Int32 → wM → Prop} {x0 : Int32} {x1 : Int32} (hlv : lvS M [vI x0, vI x1]) (h : wp_Ma_min post x0 x1 M) : Met l y_Ma_min w_Ma_min rm_Ma_min (PA D dA B zE M ad [vI x0, vI x1]) (QI D dA B zE M ad post) 0 0 (wA B) :=
  AW_startF [vI x0, vI x1] [(0, vI x0), (1, vI x1)] hlv (by decide +kernel) rfl (fun _ hw => List.mem_cons_of_mem _ hw) rfl (Nat.le_of_ble_eq_true rfl) (fun p e s m args below meth c X hr hin => sd_Ma_min_0 X hr hin h)
abbrev rm_Ma_max : Room := { frames := 0, cells := 0, slots := 0, locals := 0 }
section
variable {p : Program} {l : Launch} {e : Env} {s : State} {m : MethodId} {args : Array Value} {below : List Frame} {meth : Method} {c : Code} {D : va_G} {dA : Nat → ClassId} {B : Nat} {zE : ZT} {ad0 : Ro → Nat} {M0 : wM}
def wp_Ma_max_10 (post : Int32 → wM → Prop) (x0 : Int32) (x1 : Int32) (s0 : Int32) (M : wM) : Prop := post s0 M
set_option maxRecDepth 100000 in
set_option maxHeartbeats 4000000 in
theorem sd_Ma_max_10 (X : Cx p s m args meth c b_Ma_max 2 R_Ma TBL D dA B zE) (hr : meth.sig.returnType = (some .int)) (hin : meth.name = y_Ma_max.name) {post : Int32 → wM → Prop} {x0 : Int32} {x1 : Int32} {s0 : Int32} {M : wM} (h : wp_Ma_max_10 post x0 x1 s0 M) : AW p l e (headSpec w_Ma_max rm_Ma_max).room s m args below meth c (MQ below (QI D dA B zE M0 ad0 post) args s 0 0 (wA B)) D dA B zE 2 ad0 M0 M 0 0 10 [(0, vI x0), (1, vI x1)] [vI s0] := by
  unfold wp_Ma_max_10 at h
  exact aw_iret X hr (Nat.le_of_ble_eq_true rfl) (Nat.le_of_ble_eq_true rfl) d_Ma_max_10 h
def wp_Ma_max (post : Int32 → wM → Prop) (x0 : Int32) (x1 : Int32) (M : wM) : Prop := (x0 < x1 → wp_Ma_max_10 post x0 x1 x1 M) ∧ (¬ x0 < x1 → wp_Ma_max_10 post x0 x1 x0 M)
set_option maxRecDepth 100000 in
set_option maxHeartbeats 4000000 in
theorem sd_Ma_max_0 (X : Cx p s m args meth c b_Ma_max 2 R_Ma TBL D dA B zE) (hr : meth.sig.returnType = (some .int)) (hin : meth.name = y_Ma_max.name) {post : Int32 → wM → Prop} {x0 : Int32} {x1 : Int32} {M : wM} (h : wp_Ma_max post x0 x1 M) : AW p l e (headSpec w_Ma_max rm_Ma_max).room s m args below meth c (MQ below (QI D dA B zE M0 ad0 post) args s 0 0 (wA B)) D dA B zE 2 ad0 M0 M 0 0 0 [(0, vI x0), (1, vI x1)] [] := by
  unfold wp_Ma_max at h
  refine aw_iload_n X 0 rfl d_Ma_max_0 rfl ?_
  refine aw_iload_n X 1 rfl d_Ma_max_1 rfl ?_
  refine aw_icmp_lt (tgt := 9) X d_Ma_max_2 (by decide) (fun c => ?_) (fun c => ?_)
  · have h := h.1 c
    refine aw_iload_n X 1 rfl d_Ma_max_9 rfl ?_
    exact sd_Ma_max_10 X hr hin h
  · have h := h.2 c
    refine aw_iload_n X 0 rfl d_Ma_max_5 rfl ?_
    refine aw_goto (tgt := 10) X d_Ma_max_6 (by decide) ?_
    exact sd_Ma_max_10 X hr hin h
end
theorem t_Ma_max (l : Launch) {D : va_G} {dA : Nat → ClassId} {B : Nat} {zE : ZT} {M : wM} {ad : Ro → Nat} {post : Int32 → wM → Prop} {x0 : Int32} {x1 : Int32} (hlv : lvS M [vI x0, vI x1]) (h : wp_Ma_max post x0 x1 M) : Met l y_Ma_max w_Ma_max rm_Ma_max (PA D dA B zE M ad [vI x0, vI x1]) (QI D dA B zE M ad post) 0 0 (wA B) :=
  AW_startF [vI x0, vI x1] [(0, vI x0), (1, vI x1)] hlv (by decide +kernel) rfl (fun _ hw => List.mem_cons_of_mem _ hw) rfl (Nat.le_of_ble_eq_true rfl) (fun p e s m args below meth c X hr hin => sd_Ma_max_0 X hr hin h)
abbrev rm_R_init : Room := { frames := 2, cells := 8, slots := 94, locals := 60 }
section
variable {p : Program} {l : Launch} {e : Env} {s : State} {m : MethodId} {args : Array Value} {below : List Frame} {meth : Method} {c : Code} {D : va_G} {dA : Nat → ClassId} {B : Nat} {zE : ZT} {ad0 : Ro → Nat} {M0 : wM}
def wp_R_init (post : wM → Prop) (x0 : Option Ro) (x1 : Int32) (M : wM) : Prop := nn x0 (nO M 6 fd_6 (fun a5 M5 => cV M5 a5 6 (wp_B_init (fun M9 => pF M9 x0 3 0 (vR a5) (fun M12 => nO M12 6 fd_6 (fun a16 M16 => cV M16 a16 6 (wp_B_init (fun M20 => pF M20 x0 3 2 (vR a16) (fun M23 => nA M23 6 6 (fun n => ai 0 n (fun _ => 0)) (fun a29 M29 => pF M29 x0 3 3 (vR a29) (fun M31 => pF M31 x0 3 4 (vI (-1)) (fun M36 => nA M36 4 4 (fun n => ai 0 n (fun _ => 0)) (fun a41 M41 => pF M41 x0 3 5 (vR a41) (fun M43 => pF M43 x0 3 6 (vI 0) (fun M48 => pF M48 x0 3 7 (vI 0) (fun M53 => pF M53 x0 3 1 (vI x1) (fun M58 => post M58)))))))))) a16 M16)))) a5 M5)))
set_option maxRecDepth 100000 in
set_option maxHeartbeats 4000000 in
theorem sd_R_init_0 (X : Cx p s m args meth c b_R_init 2 R_R TBL D dA B zE) (hr : meth.sig.returnType = none) (hin : meth.name = y_R_init.name) {post : wM → Prop} {x0 : Option Ro} {x1 : Int32} {M : wM} (h : wp_R_init post x0 x1 M) : AW p l e (headSpec w_R_init rm_R_init).room s m args below meth c (MQ below (QV D dA B zE M0 ad0 post) args s 8 94 (wA B)) D dA B zE 2 ad0 M0 M 0 0 0 [(0, vR x0), (1, vI x1)] [] := by
  unfold wp_R_init at h
  refine aw_aload_n X 0 rfl d_R_init_0 rfl ?_
  obtain ⟨⟨r1, e1⟩, h⟩ := h
  cases e1
  refine aw_objInit X LK_24 LK_1 LK_objcode (Nat.le_of_ble_eq_true rfl) (Nat.le_of_ble_eq_true rfl) d_R_init_1 ?_
  refine aw_aload_n X 0 rfl d_R_init_4 rfl ?_
  refine aw_nO X hc_6 in_6 ty_6 tyok_6 LK_25 LK_26 LK_27 fs_6 fl_6 (Nat.le_of_ble_eq_true rfl) (Nat.le_of_ble_eq_true rfl) d_R_init_5 (h.mono (fun a5 M5 h => ?_))
  refine aw_dup X rfl d_R_init_8 ?_
  obtain ⟨⟨r9, f9, e9, g9⟩, h⟩ := h
  cases e9
  refine aw_cIv X [] (fun ad hlv => t_B_init l hlv h) (cwI 0 X.hts (gd_in LK_code_B_init) rfl rfl rfl (X.hts _ LK_27) (X.hts _ LK_29) (X.hts _ LK_30) rfl (by decide +kernel) ⟨(Nat.le_of_ble_eq_true rfl), (Nat.le_of_ble_eq_true rfl)⟩) rfl rfl (Nat.le_of_ble_eq_true rfl) d_R_init_9 ⟨(Nat.le_of_ble_eq_true rfl), (Nat.le_of_ble_eq_true rfl)⟩ (fun M9 h => ?_)
  refine aw_pFF (ty := (.object "PartitionedProcedureStore$Table")) X hc_3 in_3 0 (by decide) ty_3 tyok_3 nm_3 LK_31 (fun _ _ _ _ h => h) rfl hin rfl (by decide +kernel) nfO d_R_init_12 (h.mono (fun M12 h => ?_))
  refine aw_aload_n X 0 rfl d_R_init_15 rfl ?_
  refine aw_nO X hc_6 in_6 ty_6 tyok_6 LK_25 LK_26 LK_27 fs_6 fl_6 (Nat.le_of_ble_eq_true rfl) (Nat.le_of_ble_eq_true rfl) d_R_init_16 (h.mono (fun a16 M16 h => ?_))
  refine aw_dup X rfl d_R_init_19 ?_
  obtain ⟨⟨r20, f20, e20, g20⟩, h⟩ := h
  cases e20
  refine aw_cIv X [] (fun ad hlv => t_B_init l hlv h) (cwI 0 X.hts (gd_in LK_code_B_init) rfl rfl rfl (X.hts _ LK_27) (X.hts _ LK_29) (X.hts _ LK_30) rfl (by decide +kernel) ⟨(Nat.le_of_ble_eq_true rfl), (Nat.le_of_ble_eq_true rfl)⟩) rfl rfl (Nat.le_of_ble_eq_true rfl) d_R_init_20 ⟨(Nat.le_of_ble_eq_true rfl), (Nat.le_of_ble_eq_true rfl)⟩ (fun M20 h => ?_)
  refine aw_pFF (ty := (.object "PartitionedProcedureStore$Table")) X hc_3 in_3 2 (by decide) ty_3 tyok_3 nm_3 LK_32 (fun _ _ _ _ h => h) rfl hin rfl (by decide +kernel) nfO d_R_init_23 (h.mono (fun M23 h => ?_))
  refine aw_aload_n X 0 rfl d_R_init_26 rfl ?_
  refine aw_bipush X (6) (by decide) d_R_init_27 ?_
  refine aw_nAI (atype := .int) X rfl LK_17 6 (by decide) (Nat.le_of_ble_eq_true rfl) (Nat.le_of_ble_eq_true rfl) d_R_init_29 (h.mono (fun a29 M29 h => ?_))
  refine aw_pFF (ty := (.array .int)) X hc_3 in_3 3 (by decide) ty_3 tyok_3 nm_3 LK_33 (fun _ _ _ _ h => h) rfl hin rfl (by decide +kernel) nfA d_R_init_31 (h.mono (fun M31 h => ?_))
  refine aw_aload_n X 0 rfl d_R_init_34 rfl ?_
  refine aw_iconst X (-1) (by decide) d_R_init_35 ?_
  refine aw_pF (ty := .int) X hc_3 in_3 4 (by decide) ty_3 tyok_3 nm_3 LK_34 (fun _ _ _ _ h => h) rfl (by decide +kernel) (fun _ => ⟨rfl, rfl⟩) d_R_init_36 (h.mono (fun M36 h => ?_))
  refine aw_aload_n X 0 rfl d_R_init_39 rfl ?_
  refine aw_iconst X (4) (by decide) d_R_init_40 ?_
  refine aw_nAI (atype := .int) X rfl LK_17 4 (by decide) (Nat.le_of_ble_eq_true rfl) (Nat.le_of_ble_eq_true rfl) d_R_init_41 (h.mono (fun a41 M41 h => ?_))
  refine aw_pFF (ty := (.array .int)) X hc_3 in_3 5 (by decide) ty_3 tyok_3 nm_3 LK_35 (fun _ _ _ _ h => h) rfl hin rfl (by decide +kernel) nfA d_R_init_43 (h.mono (fun M43 h => ?_))
  refine aw_aload_n X 0 rfl d_R_init_46 rfl ?_
  refine aw_iconst X (0) (by decide) d_R_init_47 ?_
  refine aw_pF (ty := .int) X hc_3 in_3 6 (by decide) ty_3 tyok_3 nm_3 LK_36 (fun _ _ _ _ h => h) rfl (by decide +kernel) (fun _ => ⟨rfl, rfl⟩) d_R_init_48 (h.mono (fun M48 h => ?_))
  refine aw_aload_n X 0 rfl d_R_init_51 rfl ?_
  refine aw_iconst X (0) (by decide) d_R_init_52 ?_
  refine aw_pF (ty := .int) X hc_3 in_3 7 (by decide) ty_3 tyok_3 nm_3 LK_37 (fun _ _ _ _ h => h) rfl (by decide +kernel) (fun _ => ⟨rfl, rfl⟩) d_R_init_53 (h.mono (fun M53 h => ?_))
  refine aw_aload_n X 0 rfl d_R_init_56 rfl ?_
  refine aw_iload_n X 1 rfl d_R_init_57 rfl ?_
  refine aw_pFF (ty := .int) X hc_3 in_3 1 (by decide) ty_3 tyok_3 nm_3 LK_38 (fun _ _ _ _ h => h) rfl hin rfl (by decide +kernel) (fun _ => ⟨rfl, rfl⟩) d_R_init_58 (h.mono (fun M58 h => ?_))
  exact aw_vret X hr (Nat.le_of_ble_eq_true rfl) (Nat.le_of_ble_eq_true rfl) d_R_init_61 h
end
theorem t_R_init (l : Launch) {D : va_G} {dA : Nat → ClassId} {B : Nat} {zE : ZT} {M : wM} {ad : Ro → Nat} {post : wM → Prop} {x0 : Option Ro} {x1 : Int32} (hlv : lvS M [vR x0, vI x1]) (h : wp_R_init post x0 x1 M) : Met l y_R_init w_R_init rm_R_init (PA D dA B zE M ad [vR x0, vI x1]) (QV D dA B zE M ad post) 8 94 (wA B) :=
  AW_start [vR x0, vI x1] [(0, vR x0), (1, vI x1)] hlv (by decide +kernel) rfl (fun _ hw => List.mem_cons_of_mem _ hw) rfl (Nat.le_of_ble_eq_true rfl) (fun p e s m args below meth c X hr hin => sd_R_init_0 X hr hin h)
abbrev rm_P_init : Room := { frames := 4, cells := 1, slots := 3, locals := 100 }
section
variable {p : Program} {l : Launch} {e : Env} {s : State} {m : MethodId} {args : Array Value} {below : List Frame} {meth : Method} {c : Code} {D : va_G} {dA : Nat → ClassId} {B : Nat} {zE : ZT} {ad0 : Ro → Nat} {M0 : wM}
def wp_P_init (post : wM → Prop) (x0 : Option Ro) (M : wM) : Prop := nn x0 (nO M 8 fd_8 (fun a5 M5 => cV M5 a5 8 (wp_A_init (fun M9 => pF M9 x0 2 0 (vR a5) (fun M12 => pF M12 x0 2 1 (vI 0) (fun M17 => pF M17 x0 2 2 (vI 0) (fun M22 => post M22)))) a5 M5)))
set_option maxRecDepth 100000 in
set_option maxHeartbeats 4000000 in
theorem sd_P_init_0 (X : Cx p s m args meth c b_P_init 1 R_P TBL D dA B zE) (hr : meth.sig.returnType = none) (hin : meth.name = y_P_init.name) {post : wM → Prop} {x0 : Option Ro} {M : wM} (h : wp_P_init post x0 M) : AW p l e (headSpec w_P_init rm_P_init).room s m args below meth c (MQ below (QV D dA B zE M0 ad0 post) args s 1 3 (wA B)) D dA B zE 1 ad0 M0 M 0 0 0 [(0, vR x0)] [] := by
  unfold wp_P_init at h
  refine aw_aload_n X 0 rfl d_P_init_0 rfl ?_
  obtain ⟨⟨r1, e1⟩, h⟩ := h
  cases e1
  refine aw_objInit X LK_39 LK_1 LK_objcode (Nat.le_of_ble_eq_true rfl) (Nat.le_of_ble_eq_true rfl) d_P_init_1 ?_
  refine aw_aload_n X 0 rfl d_P_init_4 rfl ?_
  refine aw_nO X hc_8 in_8 ty_8 tyok_8 LK_40 LK_41 LK_42 fs_8 fl_8 (Nat.le_of_ble_eq_true rfl) (Nat.le_of_ble_eq_true rfl) d_P_init_5 (h.mono (fun a5 M5 h => ?_))
  refine aw_dup X rfl d_P_init_8 ?_
  obtain ⟨⟨r9, f9, e9, g9⟩, h⟩ := h
  cases e9
  refine aw_cIv X [] (fun ad hlv => t_A_init l hlv h) (cwI 0 X.hts (gd_in LK_code_A_init) rfl rfl rfl (X.hts _ LK_42) (X.hts _ LK_44) (X.hts _ LK_45) rfl (by decide +kernel) ⟨(Nat.le_of_ble_eq_true rfl), (Nat.le_of_ble_eq_true rfl)⟩) rfl rfl (Nat.le_of_ble_eq_true rfl) d_P_init_9 ⟨(Nat.le_of_ble_eq_true rfl), (Nat.le_of_ble_eq_true rfl)⟩ (fun M9 h => ?_)
  refine aw_pFF (ty := (.object "java/util/ArrayList")) X hc_2 in_2 0 (by decide) ty_2 tyok_2 nm_2 LK_46 (fun _ _ _ _ h => h) rfl hin rfl (by decide +kernel) nfO d_P_init_12 (h.mono (fun M12 h => ?_))
  refine aw_aload_n X 0 rfl d_P_init_15 rfl ?_
  refine aw_iconst X (0) (by decide) d_P_init_16 ?_
  refine aw_pF (ty := .boolean) X hc_2 in_2 1 (by decide) ty_2 tyok_2 nm_2 LK_47 (fun _ _ _ _ h => h) rfl (by decide +kernel) (fun _ => ⟨rfl, rfl⟩) d_P_init_17 (h.mono (fun M17 h => ?_))
  refine aw_aload_n X 0 rfl d_P_init_20 rfl ?_
  refine aw_iconst X (0) (by decide) d_P_init_21 ?_
  refine aw_pF (ty := .boolean) X hc_2 in_2 2 (by decide) ty_2 tyok_2 nm_2 LK_48 (fun _ _ _ _ h => h) rfl (by decide +kernel) (fun _ => ⟨rfl, rfl⟩) d_P_init_22 (h.mono (fun M22 h => ?_))
  exact aw_vret X hr (Nat.le_of_ble_eq_true rfl) (Nat.le_of_ble_eq_true rfl) d_P_init_25 h
end
theorem t_P_init (l : Launch) {D : va_G} {dA : Nat → ClassId} {B : Nat} {zE : ZT} {M : wM} {ad : Ro → Nat} {post : wM → Prop} {x0 : Option Ro} (hlv : lvS M [vR x0]) (h : wp_P_init post x0 M) : Met l y_P_init w_P_init rm_P_init (PA D dA B zE M ad [vR x0]) (QV D dA B zE M ad post) 1 3 (wA B) :=
  AW_start [vR x0] [(0, vR x0)] hlv (by decide +kernel) rfl (fun _ hw => List.mem_cons_of_mem _ hw) rfl (Nat.le_of_ble_eq_true rfl) (fun p e s m args below meth c X hr hin => sd_P_init_0 X hr hin h)
abbrev rm_C_init : Room := { frames := 1, cells := 1, slots := 4, locals := 40 }
section
variable {p : Program} {l : Launch} {e : Env} {s : State} {m : MethodId} {args : Array Value} {below : List Frame} {meth : Method} {c : Code} {D : va_G} {dA : Nat → ClassId} {B : Nat} {zE : ZT} {ad0 : Ro → Nat} {M0 : wM}
def wp_C_init (post : wM → Prop) (x0 : Option Ro) (M : wM) : Prop := nn x0 (pF M x0 1 0 (vI 0) (fun M6 => pF M6 x0 1 1 (vI 0) (fun M11 => pF M11 x0 1 2 (vI 0) (fun M16 => pF M16 x0 1 3 (vI 0) (fun M21 => pF M21 x0 1 4 (vI 0) (fun M26 => pF M26 x0 1 5 (vI 0) (fun M31 => nA M31 4 4 (fun n => ai 0 n (fun _ => 0)) (fun a36 M36 => pF M36 x0 1 6 (vR a36) (fun M38 => post M38)))))))))
set_option maxRecDepth 100000 in
set_option maxHeartbeats 4000000 in
theorem sd_C_init_0 (X : Cx p s m args meth c b_C_init 1 R_C TBL D dA B zE) (hr : meth.sig.returnType = none) (hin : meth.name = y_C_init.name) {post : wM → Prop} {x0 : Option Ro} {M : wM} (h : wp_C_init post x0 M) : AW p l e (headSpec w_C_init rm_C_init).room s m args below meth c (MQ below (QV D dA B zE M0 ad0 post) args s 1 4 (wA B)) D dA B zE 1 ad0 M0 M 0 0 0 [(0, vR x0)] [] := by
  unfold wp_C_init at h
  refine aw_aload_n X 0 rfl d_C_init_0 rfl ?_
  obtain ⟨⟨r1, e1⟩, h⟩ := h
  cases e1
  refine aw_objInit X LK_49 LK_1 LK_objcode (Nat.le_of_ble_eq_true rfl) (Nat.le_of_ble_eq_true rfl) d_C_init_1 ?_
  refine aw_aload_n X 0 rfl d_C_init_4 rfl ?_
  refine aw_iconst X (0) (by decide) d_C_init_5 ?_
  refine aw_pF (ty := .int) X hc_1 in_1 0 (by decide) ty_1 tyok_1 nm_1 LK_50 (fun _ _ _ _ h => h) rfl (by decide +kernel) (fun _ => ⟨rfl, rfl⟩) d_C_init_6 (h.mono (fun M6 h => ?_))
  refine aw_aload_n X 0 rfl d_C_init_9 rfl ?_
  refine aw_iconst X (0) (by decide) d_C_init_10 ?_
  refine aw_pF (ty := .int) X hc_1 in_1 1 (by decide) ty_1 tyok_1 nm_1 LK_51 (fun _ _ _ _ h => h) rfl (by decide +kernel) (fun _ => ⟨rfl, rfl⟩) d_C_init_11 (h.mono (fun M11 h => ?_))
  refine aw_aload_n X 0 rfl d_C_init_14 rfl ?_
  refine aw_iconst X (0) (by decide) d_C_init_15 ?_
  refine aw_pF (ty := .boolean) X hc_1 in_1 2 (by decide) ty_1 tyok_1 nm_1 LK_52 (fun _ _ _ _ h => h) rfl (by decide +kernel) (fun _ => ⟨rfl, rfl⟩) d_C_init_16 (h.mono (fun M16 h => ?_))
  refine aw_aload_n X 0 rfl d_C_init_19 rfl ?_
  refine aw_iconst X (0) (by decide) d_C_init_20 ?_
  refine aw_pF (ty := .boolean) X hc_1 in_1 3 (by decide) ty_1 tyok_1 nm_1 LK_53 (fun _ _ _ _ h => h) rfl (by decide +kernel) (fun _ => ⟨rfl, rfl⟩) d_C_init_21 (h.mono (fun M21 h => ?_))
  refine aw_aload_n X 0 rfl d_C_init_24 rfl ?_
  refine aw_iconst X (0) (by decide) d_C_init_25 ?_
  refine aw_pF (ty := .int) X hc_1 in_1 4 (by decide) ty_1 tyok_1 nm_1 LK_54 (fun _ _ _ _ h => h) rfl (by decide +kernel) (fun _ => ⟨rfl, rfl⟩) d_C_init_26 (h.mono (fun M26 h => ?_))
  refine aw_aload_n X 0 rfl d_C_init_29 rfl ?_
  refine aw_iconst X (0) (by decide) d_C_init_30 ?_
  refine aw_pF (ty := .int) X hc_1 in_1 5 (by decide) ty_1 tyok_1 nm_1 LK_55 (fun _ _ _ _ h => h) rfl (by decide +kernel) (fun _ => ⟨rfl, rfl⟩) d_C_init_31 (h.mono (fun M31 h => ?_))
  refine aw_aload_n X 0 rfl d_C_init_34 rfl ?_
  refine aw_iconst X (4) (by decide) d_C_init_35 ?_
  refine aw_nAI (atype := .int) X rfl LK_17 4 (by decide) (Nat.le_of_ble_eq_true rfl) (Nat.le_of_ble_eq_true rfl) d_C_init_36 (h.mono (fun a36 M36 h => ?_))
  refine aw_pFF (ty := (.array .int)) X hc_1 in_1 6 (by decide) ty_1 tyok_1 nm_1 LK_56 (fun _ _ _ _ h => h) rfl hin rfl (by decide +kernel) nfA d_C_init_38 (h.mono (fun M38 h => ?_))
  exact aw_vret X hr (Nat.le_of_ble_eq_true rfl) (Nat.le_of_ble_eq_true rfl) d_C_init_41 h
end
theorem t_C_init (l : Launch) {D : va_G} {dA : Nat → ClassId} {B : Nat} {zE : ZT} {M : wM} {ad : Ro → Nat} {post : wM → Prop} {x0 : Option Ro} (hlv : lvS M [vR x0]) (h : wp_C_init post x0 M) : Met l y_C_init w_C_init rm_C_init (PA D dA B zE M ad [vR x0]) (QV D dA B zE M ad post) 1 4 (wA B) :=
  AW_start [vR x0] [(0, vR x0)] hlv (by decide +kernel) rfl (fun _ hw => List.mem_cons_of_mem _ hw) rfl (Nat.le_of_ble_eq_true rfl) (fun p e s m args below meth c X hr hin => sd_C_init_0 X hr hin h)
abbrev rm_Q_init : Room := { frames := 4, cells := 1, slots := 3, locals := 100 }
section
variable {p : Program} {l : Launch} {e : Env} {s : State} {m : MethodId} {args : Array Value} {below : List Frame} {meth : Method} {c : Code} {D : va_G} {dA : Nat → ClassId} {B : Nat} {zE : ZT} {ad0 : Ro → Nat} {M0 : wM}
def wp_Q_init (post : wM → Prop) (x0 : Option Ro) (M : wM) : Prop := nn x0 (nO M 8 fd_8 (fun a5 M5 => cV M5 a5 8 (wp_A_init (fun M9 => pF M9 x0 4 0 (vR a5) (fun M12 => pF M12 x0 4 1 (vI 0) (fun M17 => pF M17 x0 4 2 (vI 0) (fun M22 => pF M22 x0 4 3 (vI 0) (fun M27 => post M27))))) a5 M5)))
set_option maxRecDepth 100000 in
set_option maxHeartbeats 4000000 in
theorem sd_Q_init_0 (X : Cx p s m args meth c b_Q_init 1 R_Q TBL D dA B zE) (hr : meth.sig.returnType = none) (hin : meth.name = y_Q_init.name) {post : wM → Prop} {x0 : Option Ro} {M : wM} (h : wp_Q_init post x0 M) : AW p l e (headSpec w_Q_init rm_Q_init).room s m args below meth c (MQ below (QV D dA B zE M0 ad0 post) args s 1 3 (wA B)) D dA B zE 1 ad0 M0 M 0 0 0 [(0, vR x0)] [] := by
  unfold wp_Q_init at h
  refine aw_aload_n X 0 rfl d_Q_init_0 rfl ?_
  obtain ⟨⟨r1, e1⟩, h⟩ := h
  cases e1
  refine aw_objInit X LK_57 LK_1 LK_objcode (Nat.le_of_ble_eq_true rfl) (Nat.le_of_ble_eq_true rfl) d_Q_init_1 ?_
  refine aw_aload_n X 0 rfl d_Q_init_4 rfl ?_
  refine aw_nO X hc_8 in_8 ty_8 tyok_8 LK_58 LK_41 LK_42 fs_8 fl_8 (Nat.le_of_ble_eq_true rfl) (Nat.le_of_ble_eq_true rfl) d_Q_init_5 (h.mono (fun a5 M5 h => ?_))
  refine aw_dup X rfl d_Q_init_8 ?_
  obtain ⟨⟨r9, f9, e9, g9⟩, h⟩ := h
  cases e9
  refine aw_cIv X [] (fun ad hlv => t_A_init l hlv h) (cwI 0 X.hts (gd_in LK_code_A_init) rfl rfl rfl (X.hts _ LK_42) (X.hts _ LK_59) (X.hts _ LK_45) rfl (by decide +kernel) ⟨(Nat.le_of_ble_eq_true rfl), (Nat.le_of_ble_eq_true rfl)⟩) rfl rfl (Nat.le_of_ble_eq_true rfl) d_Q_init_9 ⟨(Nat.le_of_ble_eq_true rfl), (Nat.le_of_ble_eq_true rfl)⟩ (fun M9 h => ?_)
  refine aw_pFF (ty := (.object "java/util/ArrayList")) X hc_4 in_4 0 (by decide) ty_4 tyok_4 nm_4 LK_60 (fun _ _ _ _ h => h) rfl hin rfl (by decide +kernel) nfO d_Q_init_12 (h.mono (fun M12 h => ?_))
  refine aw_aload_n X 0 rfl d_Q_init_15 rfl ?_
  refine aw_iconst X (0) (by decide) d_Q_init_16 ?_
  refine aw_pF (ty := .boolean) X hc_4 in_4 1 (by decide) ty_4 tyok_4 nm_4 LK_61 (fun _ _ _ _ h => h) rfl (by decide +kernel) (fun _ => ⟨rfl, rfl⟩) d_Q_init_17 (h.mono (fun M17 h => ?_))
  refine aw_aload_n X 0 rfl d_Q_init_20 rfl ?_
  refine aw_iconst X (0) (by decide) d_Q_init_21 ?_
  refine aw_pF (ty := .boolean) X hc_4 in_4 2 (by decide) ty_4 tyok_4 nm_4 LK_62 (fun _ _ _ _ h => h) rfl (by decide +kernel) (fun _ => ⟨rfl, rfl⟩) d_Q_init_22 (h.mono (fun M22 h => ?_))
  refine aw_aload_n X 0 rfl d_Q_init_25 rfl ?_
  refine aw_iconst X (0) (by decide) d_Q_init_26 ?_
  refine aw_pF (ty := .int) X hc_4 in_4 3 (by decide) ty_4 tyok_4 nm_4 LK_63 (fun _ _ _ _ h => h) rfl (by decide +kernel) (fun _ => ⟨rfl, rfl⟩) d_Q_init_27 (h.mono (fun M27 h => ?_))
  exact aw_vret X hr (Nat.le_of_ble_eq_true rfl) (Nat.le_of_ble_eq_true rfl) d_Q_init_30 h
end
theorem t_Q_init (l : Launch) {D : va_G} {dA : Nat → ClassId} {B : Nat} {zE : ZT} {M : wM} {ad : Ro → Nat} {post : wM → Prop} {x0 : Option Ro} (hlv : lvS M [vR x0]) (h : wp_Q_init post x0 M) : Met l y_Q_init w_Q_init rm_Q_init (PA D dA B zE M ad [vR x0]) (QV D dA B zE M ad post) 1 3 (wA B) :=
  AW_start [vR x0] [(0, vR x0)] hlv (by decide +kernel) rfl (fun _ hw => List.mem_cons_of_mem _ hw) rfl (Nat.le_of_ble_eq_true rfl) (fun p e s m args below meth c X hr hin => sd_Q_init_0 X hr hin h)
abbrev rm_S_init : Room := { frames := 5, cells := 49, slots := 318, locals := 120 }
section
variable {p : Program} {l : Launch} {e : Env} {s : State} {m : MethodId} {args : Array Value} {below : List Frame} {meth : Method} {c : Code} {D : va_G} {dA : Nat → ClassId} {B : Nat} {zE : ZT} {ad0 : Ro → Nat} {M0 : wM}
def wp_S_init_200 (post : wM → Prop) (x0 : Option Ro) (x1 : Int32) (x2 : Int32) (M : wM) : Prop := post M
set_option maxRecDepth 100000 in
set_option maxHeartbeats 4000000 in
theorem sd_S_init_200 (X : Cx p s m args meth c b_S_init 3 R_S TBL D dA B zE) (hr : meth.sig.returnType = none) (hin : meth.name = y_S_init.name) {post : wM → Prop} {x0 : Option Ro} {x1 : Int32} {x2 : Int32} {M : wM} (h : wp_S_init_200 post x0 x1 x2 M) : AW p l e (headSpec w_S_init rm_S_init).room s m args below meth c (MQ below (QV D dA B zE M0 ad0 post) args s 49 318 (wA B)) D dA B zE 3 ad0 M0 M 47 311 200 [(0, vR x0), (1, vI x1), (2, vI x2)] [] := by
  unfold wp_S_init_200 at h
  exact aw_vret X hr (Nat.le_of_ble_eq_true rfl) (Nat.le_of_ble_eq_true rfl) d_S_init_200 h
def wp_S_init_160 (post : wM → Prop) (x0 : Option Ro) (x1 : Int32) (x2 : Int32) (M : wM) : Prop := gI M x0 0 0 (fun a162 => nA M a162 4 (fun n => ar 6 n (fun _ => none)) (fun a165 M165 => pF M165 x0 0 3 (vR a165) (fun M168 => gI M168 x0 0 0 (fun a175 => (a175 ≤ (0 : Int32) → wp_S_init_200 post x0 x1 0 M168) ∧ (¬ a175 ≤ (0 : Int32) → gR M168 x0 0 3 (fun a182 => nO M168 4 fd_4 (fun a186 M186 => cV M186 a186 4 (wp_Q_init (fun M190 => sR M190 a182 0 a186 (fun M193 => gI M193 x0 0 0 (fun a175 => (a175 ≤ (0 + 1 : Int32) → wp_S_init_200 post x0 x1 (0 + 1) M193) ∧ (¬ a175 ≤ (0 + 1 : Int32) → gR M193 x0 0 3 (fun a182 => nO M193 4 fd_4 (fun a186 M186 => cV M186 a186 4 (wp_Q_init (fun M190 => sR M190 a182 (0 + 1) a186 (fun M193 => gI M193 x0 0 0 (fun a175 => (a175 ≤ ((0 + 1) + 1 : Int32) → wp_S_init_200 post x0 x1 ((0 + 1) + 1) M193) ∧ (¬ a175 ≤ ((0 + 1) + 1 : Int32) → gR M193 x0 0 3 (fun a182 => nO M193 4 fd_4 (fun a186 M186 => cV M186 a186 4 (wp_Q_init (fun M190 => sR M190 a182 ((0 + 1) + 1) a186 (fun M193 => gI M193 x0 0 0 (fun a175 => (a175 ≤ (((0 + 1) + 1) + 1 : Int32) → wp_S_init_200 post x0 x1 (((0 + 1) + 1) + 1) M193) ∧ (¬ a175 ≤ (((0 + 1) + 1) + 1 : Int32) → gR M193 x0 0 3 (fun a182 => nO M193 4 fd_4 (fun a186 M186 => cV M186 a186 4 (wp_Q_init (fun M190 => sR M190 a182 (((0 + 1) + 1) + 1) a186 (fun M193 => gI M193 x0 0 0 (fun a175 => (a175 ≤ ((((0 + 1) + 1) + 1) + 1 : Int32) → wp_S_init_200 post x0 x1 ((((0 + 1) + 1) + 1) + 1) M193) ∧ (¬ a175 ≤ ((((0 + 1) + 1) + 1) + 1 : Int32) → gR M193 x0 0 3 (fun a182 => nO M193 4 fd_4 (fun a186 M186 => cV M186 a186 4 (wp_Q_init (fun M190 => sR M190 a182 ((((0 + 1) + 1) + 1) + 1) a186 (fun M193 => False)) a186 M186))))))) a186 M186))))))) a186 M186))))))) a186 M186))))))) a186 M186))))))))
set_option maxRecDepth 100000 in
set_option maxHeartbeats 4000000 in
theorem sd_S_init_160 (X : Cx p s m args meth c b_S_init 3 R_S TBL D dA B zE) (hr : meth.sig.returnType = none) (hin : meth.name = y_S_init.name) {post : wM → Prop} {x0 : Option Ro} {x1 : Int32} {x2 : Int32} {M : wM} (h : wp_S_init_160 post x0 x1 x2 M) : AW p l e (headSpec w_S_init rm_S_init).room s m args below meth c (MQ below (QV D dA B zE M0 ad0 post) args s 49 318 (wA B)) D dA B zE 3 ad0 M0 M 38 279 160 [(0, vR x0), (1, vI x1), (2, vI x2)] [] := by
  unfold wp_S_init_160 at h
  refine aw_aload_n X 0 rfl d_S_init_160 rfl ?_
  refine aw_aload_n X 0 rfl d_S_init_161 rfl ?_
  refine aw_gI X hc_0 in_0 0 (by decide) LK_64 (fun _ _ _ _ h => h) d_S_init_162 (h.mono (fun a162 h => ?_))
  refine aw_nAR (t := 6) X rfl (by decide) LK_65 (X.hG.2.2.1.2.2.2.2.1 _ (by decide)) 4 (by decide) (Nat.le_of_ble_eq_true rfl) (Nat.le_of_ble_eq_true rfl) d_S_init_165 (h.mono (fun a165 M165 h => ?_))
  refine aw_pFF (ty := (.array (.object "PartitionedProcedureStore$Site"))) X hc_0 in_0 3 (by decide) ty_0 tyok_0 nm_0 LK_66 (fun _ _ _ _ h => h) rfl hin rfl (by decide +kernel) nfA d_S_init_168 (h.mono (fun M168 h => ?_))
  refine aw_iconst X (0) (by decide) d_S_init_171 ?_
  refine aw_istore_n (lvn := [(2, _), (0, _), (1, _)]) X d_S_init_172 rfl (by decide) rfl ?_
  refine aw_iload_n X 0 rfl d_S_init_173 rfl ?_
  refine aw_aload_n X 1 rfl d_S_init_174 rfl ?_
  refine aw_gI X hc_0 in_0 0 (by decide) LK_64 (fun _ _ _ _ h => h) d_S_init_175 (h.mono (fun a175 h => ?_))
  refine aw_icmp_ge (tgt := 200) X d_S_init_178 (by decide) (fun c => ?_) (fun c => ?_)
  · have h := h.1 c
    refine aw_lv [1, 2, 0] rfl ?_
    refine aw_widen (ce := 47) (sl := 311) (Nat.le_of_ble_eq_true rfl) (Nat.le_of_ble_eq_true rfl) ?_
    exact sd_S_init_200 X hr hin h
  · have h := h.2 c
    refine aw_aload_n X 1 rfl d_S_init_181 rfl ?_
    refine aw_gR X hc_0 in_0 3 (by decide) LK_66 (fun _ _ _ _ h => h) d_S_init_182 (h.mono (fun a182 h => ?_))
    refine aw_iload_n X 0 rfl d_S_init_185 rfl ?_
    refine aw_nO X hc_4 in_4 ty_4 tyok_4 LK_65 LK_67 LK_68 fs_4 fl_4 (Nat.le_of_ble_eq_true rfl) (Nat.le_of_ble_eq_true rfl) d_S_init_186 (h.mono (fun a186 M186 h => ?_))
    refine aw_dup X rfl d_S_init_189 ?_
    obtain ⟨⟨r190, f190, e190, g190⟩, h⟩ := h
    cases e190
    refine aw_cINv X [] (fun ad hlv => t_Q_init l hlv h) ⟨va_cnB (host := "PartitionedProcedureStore") 0 X.hts (gd_in LK_code_Q_init) rfl rfl rfl (X.hG.2.2.2 _ NW_70) (X.hts _ LK_68) (by decide +kernel) ⟨(Nat.le_of_ble_eq_true rfl), (Nat.le_of_ble_eq_true rfl)⟩, rfl, X.hts _ LK_71⟩ rfl rfl (Nat.le_of_ble_eq_true rfl) d_S_init_190 ⟨(Nat.le_of_ble_eq_true rfl), (Nat.le_of_ble_eq_true rfl)⟩ (fun M190 h => ?_)
    refine aw_sR X d_S_init_193 (h.mono (fun M193 h => ?_))
    refine aw_iinc (y := 0 + 1) (lvn := [(2, _), (0, _), (1, _)]) X 0 rfl d_S_init_194 rfl (by decide) rfl ?_
    refine aw_goto (tgt := 173) X d_S_init_197 (by decide) ?_
    refine aw_iload_n X 0 rfl d_S_init_173 rfl ?_
    refine aw_aload_n X 1 rfl d_S_init_174 rfl ?_
    refine aw_gI X hc_0 in_0 0 (by decide) LK_64 (fun _ _ _ _ h => h) d_S_init_175 (h.mono (fun a175 h => ?_))
    refine aw_icmp_ge (tgt := 200) X d_S_init_178 (by decide) (fun c => ?_) (fun c => ?_)
    · have h := h.1 c
      refine aw_lv [1, 2, 0] rfl ?_
      refine aw_widen (ce := 47) (sl := 311) (Nat.le_of_ble_eq_true rfl) (Nat.le_of_ble_eq_true rfl) ?_
      exact sd_S_init_200 X hr hin h
    · have h := h.2 c
      refine aw_aload_n X 1 rfl d_S_init_181 rfl ?_
      refine aw_gR X hc_0 in_0 3 (by decide) LK_66 (fun _ _ _ _ h => h) d_S_init_182 (h.mono (fun a182 h => ?_))
      refine aw_iload_n X 0 rfl d_S_init_185 rfl ?_
      refine aw_nO X hc_4 in_4 ty_4 tyok_4 LK_65 LK_67 LK_68 fs_4 fl_4 (Nat.le_of_ble_eq_true rfl) (Nat.le_of_ble_eq_true rfl) d_S_init_186 (h.mono (fun a186 M186 h => ?_))
      refine aw_dup X rfl d_S_init_189 ?_
      obtain ⟨⟨r190, f190, e190, g190⟩, h⟩ := h
      cases e190
      refine aw_cINv X [] (fun ad hlv => t_Q_init l hlv h) ⟨va_cnB (host := "PartitionedProcedureStore") 0 X.hts (gd_in LK_code_Q_init) rfl rfl rfl (X.hG.2.2.2 _ NW_70) (X.hts _ LK_68) (by decide +kernel) ⟨(Nat.le_of_ble_eq_true rfl), (Nat.le_of_ble_eq_true rfl)⟩, rfl, X.hts _ LK_71⟩ rfl rfl (Nat.le_of_ble_eq_true rfl) d_S_init_190 ⟨(Nat.le_of_ble_eq_true rfl), (Nat.le_of_ble_eq_true rfl)⟩ (fun M190 h => ?_)
      refine aw_sR X d_S_init_193 (h.mono (fun M193 h => ?_))
      refine aw_iinc (y := (0 + 1) + 1) (lvn := [(2, _), (0, _), (1, _)]) X 0 rfl d_S_init_194 rfl (by decide) rfl ?_
      refine aw_goto (tgt := 173) X d_S_init_197 (by decide) ?_
      refine aw_iload_n X 0 rfl d_S_init_173 rfl ?_
      refine aw_aload_n X 1 rfl d_S_init_174 rfl ?_
      refine aw_gI X hc_0 in_0 0 (by decide) LK_64 (fun _ _ _ _ h => h) d_S_init_175 (h.mono (fun a175 h => ?_))
      refine aw_icmp_ge (tgt := 200) X d_S_init_178 (by decide) (fun c => ?_) (fun c => ?_)
      · have h := h.1 c
        refine aw_lv [1, 2, 0] rfl ?_
        refine aw_widen (ce := 47) (sl := 311) (Nat.le_of_ble_eq_true rfl) (Nat.le_of_ble_eq_true rfl) ?_
        exact sd_S_init_200 X hr hin h
      · have h := h.2 c
        refine aw_aload_n X 1 rfl d_S_init_181 rfl ?_
        refine aw_gR X hc_0 in_0 3 (by decide) LK_66 (fun _ _ _ _ h => h) d_S_init_182 (h.mono (fun a182 h => ?_))
        refine aw_iload_n X 0 rfl d_S_init_185 rfl ?_
        refine aw_nO X hc_4 in_4 ty_4 tyok_4 LK_65 LK_67 LK_68 fs_4 fl_4 (Nat.le_of_ble_eq_true rfl) (Nat.le_of_ble_eq_true rfl) d_S_init_186 (h.mono (fun a186 M186 h => ?_))
        refine aw_dup X rfl d_S_init_189 ?_
        obtain ⟨⟨r190, f190, e190, g190⟩, h⟩ := h
        cases e190
        refine aw_cINv X [] (fun ad hlv => t_Q_init l hlv h) ⟨va_cnB (host := "PartitionedProcedureStore") 0 X.hts (gd_in LK_code_Q_init) rfl rfl rfl (X.hG.2.2.2 _ NW_70) (X.hts _ LK_68) (by decide +kernel) ⟨(Nat.le_of_ble_eq_true rfl), (Nat.le_of_ble_eq_true rfl)⟩, rfl, X.hts _ LK_71⟩ rfl rfl (Nat.le_of_ble_eq_true rfl) d_S_init_190 ⟨(Nat.le_of_ble_eq_true rfl), (Nat.le_of_ble_eq_true rfl)⟩ (fun M190 h => ?_)
        refine aw_sR X d_S_init_193 (h.mono (fun M193 h => ?_))
        refine aw_iinc (y := ((0 + 1) + 1) + 1) (lvn := [(2, _), (0, _), (1, _)]) X 0 rfl d_S_init_194 rfl (by decide) rfl ?_
        refine aw_goto (tgt := 173) X d_S_init_197 (by decide) ?_
        refine aw_iload_n X 0 rfl d_S_init_173 rfl ?_
        refine aw_aload_n X 1 rfl d_S_init_174 rfl ?_
        refine aw_gI X hc_0 in_0 0 (by decide) LK_64 (fun _ _ _ _ h => h) d_S_init_175 (h.mono (fun a175 h => ?_))
        refine aw_icmp_ge (tgt := 200) X d_S_init_178 (by decide) (fun c => ?_) (fun c => ?_)
        · have h := h.1 c
          refine aw_lv [1, 2, 0] rfl ?_
          refine aw_widen (ce := 47) (sl := 311) (Nat.le_of_ble_eq_true rfl) (Nat.le_of_ble_eq_true rfl) ?_
          exact sd_S_init_200 X hr hin h
        · have h := h.2 c
          refine aw_aload_n X 1 rfl d_S_init_181 rfl ?_
          refine aw_gR X hc_0 in_0 3 (by decide) LK_66 (fun _ _ _ _ h => h) d_S_init_182 (h.mono (fun a182 h => ?_))
          refine aw_iload_n X 0 rfl d_S_init_185 rfl ?_
          refine aw_nO X hc_4 in_4 ty_4 tyok_4 LK_65 LK_67 LK_68 fs_4 fl_4 (Nat.le_of_ble_eq_true rfl) (Nat.le_of_ble_eq_true rfl) d_S_init_186 (h.mono (fun a186 M186 h => ?_))
          refine aw_dup X rfl d_S_init_189 ?_
          obtain ⟨⟨r190, f190, e190, g190⟩, h⟩ := h
          cases e190
          refine aw_cINv X [] (fun ad hlv => t_Q_init l hlv h) ⟨va_cnB (host := "PartitionedProcedureStore") 0 X.hts (gd_in LK_code_Q_init) rfl rfl rfl (X.hG.2.2.2 _ NW_70) (X.hts _ LK_68) (by decide +kernel) ⟨(Nat.le_of_ble_eq_true rfl), (Nat.le_of_ble_eq_true rfl)⟩, rfl, X.hts _ LK_71⟩ rfl rfl (Nat.le_of_ble_eq_true rfl) d_S_init_190 ⟨(Nat.le_of_ble_eq_true rfl), (Nat.le_of_ble_eq_true rfl)⟩ (fun M190 h => ?_)
          refine aw_sR X d_S_init_193 (h.mono (fun M193 h => ?_))
          refine aw_iinc (y := (((0 + 1) + 1) + 1) + 1) (lvn := [(2, _), (0, _), (1, _)]) X 0 rfl d_S_init_194 rfl (by decide) rfl ?_
          refine aw_goto (tgt := 173) X d_S_init_197 (by decide) ?_
          refine aw_iload_n X 0 rfl d_S_init_173 rfl ?_
          refine aw_aload_n X 1 rfl d_S_init_174 rfl ?_
          refine aw_gI X hc_0 in_0 0 (by decide) LK_64 (fun _ _ _ _ h => h) d_S_init_175 (h.mono (fun a175 h => ?_))
          refine aw_icmp_ge (tgt := 200) X d_S_init_178 (by decide) (fun c => ?_) (fun c => ?_)
          · have h := h.1 c
            refine aw_lv [1, 2, 0] rfl ?_
            exact sd_S_init_200 X hr hin h
          · have h := h.2 c
            refine aw_aload_n X 1 rfl d_S_init_181 rfl ?_
            refine aw_gR X hc_0 in_0 3 (by decide) LK_66 (fun _ _ _ _ h => h) d_S_init_182 (h.mono (fun a182 h => ?_))
            refine aw_iload_n X 0 rfl d_S_init_185 rfl ?_
            refine aw_nO X hc_4 in_4 ty_4 tyok_4 LK_65 LK_67 LK_68 fs_4 fl_4 (Nat.le_of_ble_eq_true rfl) (Nat.le_of_ble_eq_true rfl) d_S_init_186 (h.mono (fun a186 M186 h => ?_))
            refine aw_dup X rfl d_S_init_189 ?_
            obtain ⟨⟨r190, f190, e190, g190⟩, h⟩ := h
            cases e190
            refine aw_cINv X [] (fun ad hlv => t_Q_init l hlv h) ⟨va_cnB (host := "PartitionedProcedureStore") 0 X.hts (gd_in LK_code_Q_init) rfl rfl rfl (X.hG.2.2.2 _ NW_70) (X.hts _ LK_68) (by decide +kernel) ⟨(Nat.le_of_ble_eq_true rfl), (Nat.le_of_ble_eq_true rfl)⟩, rfl, X.hts _ LK_71⟩ rfl rfl (Nat.le_of_ble_eq_true rfl) d_S_init_190 ⟨(Nat.le_of_ble_eq_true rfl), (Nat.le_of_ble_eq_true rfl)⟩ (fun M190 h => ?_)
            refine aw_sR X d_S_init_193 (h.mono (fun M193 h => ?_))
            refine aw_iinc (y := ((((0 + 1) + 1) + 1) + 1) + 1) (lvn := [(2, _), (0, _), (1, _)]) X 0 rfl d_S_init_194 rfl (by decide) rfl ?_
            refine aw_goto (tgt := 173) X d_S_init_197 (by decide) ?_
            exact h.elim
def wp_S_init_134 (post : wM → Prop) (x0 : Option Ro) (x1 : Int32) (x2 : Int32) (M : wM) : Prop := ((4 : Int32) ≤ (0 : Int32) → wp_S_init_160 post x0 x1 0 M) ∧ (¬ (4 : Int32) ≤ (0 : Int32) → gR M x0 0 4 (fun a142 => nO M 1 fd_1 (fun a146 M146 => cV M146 a146 1 (wp_C_init (fun M150 => sR M150 a142 0 a146 (fun M153 => ((4 : Int32) ≤ (0 + 1 : Int32) → wp_S_init_160 post x0 x1 (0 + 1) M153) ∧ (¬ (4 : Int32) ≤ (0 + 1 : Int32) → gR M153 x0 0 4 (fun a142 => nO M153 1 fd_1 (fun a146 M146 => cV M146 a146 1 (wp_C_init (fun M150 => sR M150 a142 (0 + 1) a146 (fun M153 => ((4 : Int32) ≤ ((0 + 1) + 1 : Int32) → wp_S_init_160 post x0 x1 ((0 + 1) + 1) M153) ∧ (¬ (4 : Int32) ≤ ((0 + 1) + 1 : Int32) → gR M153 x0 0 4 (fun a142 => nO M153 1 fd_1 (fun a146 M146 => cV M146 a146 1 (wp_C_init (fun M150 => sR M150 a142 ((0 + 1) + 1) a146 (fun M153 => ((4 : Int32) ≤ (((0 + 1) + 1) + 1 : Int32) → wp_S_init_160 post x0 x1 (((0 + 1) + 1) + 1) M153) ∧ (¬ (4 : Int32) ≤ (((0 + 1) + 1) + 1 : Int32) → gR M153 x0 0 4 (fun a142 => nO M153 1 fd_1 (fun a146 M146 => cV M146 a146 1 (wp_C_init (fun M150 => sR M150 a142 (((0 + 1) + 1) + 1) a146 (fun M153 => ((4 : Int32) ≤ ((((0 + 1) + 1) + 1) + 1 : Int32) → wp_S_init_160 post x0 x1 ((((0 + 1) + 1) + 1) + 1) M153) ∧ (¬ (4 : Int32) ≤ ((((0 + 1) + 1) + 1) + 1 : Int32) → gR M153 x0 0 4 (fun a142 => nO M153 1 fd_1 (fun a146 M146 => cV M146 a146 1 (wp_C_init (fun M150 => sR M150 a142 ((((0 + 1) + 1) + 1) + 1) a146 (fun M153 => False)) a146 M146)))))) a146 M146)))))) a146 M146)))))) a146 M146)))))) a146 M146))))
set_option maxRecDepth 100000 in
set_option maxHeartbeats 4000000 in
theorem sd_S_init_134 (X : Cx p s m args meth c b_S_init 3 R_S TBL D dA B zE) (hr : meth.sig.returnType = none) (hin : meth.name = y_S_init.name) {post : wM → Prop} {x0 : Option Ro} {x1 : Int32} {x2 : Int32} {M : wM} (h : wp_S_init_134 post x0 x1 x2 M) : AW p l e (headSpec w_S_init rm_S_init).room s m args below meth c (MQ below (QV D dA B zE M0 ad0 post) args s 49 318 (wA B)) D dA B zE 3 ad0 M0 M 30 235 134 [(0, vR x0), (1, vI x1), (2, vI x2)] [] := by
  unfold wp_S_init_134 at h
  refine aw_iconst X (0) (by decide) d_S_init_134 ?_
  refine aw_istore_n (lvn := [(2, _), (0, _), (1, _)]) X d_S_init_135 rfl (by decide) rfl ?_
  refine aw_iload_n X 0 rfl d_S_init_136 rfl ?_
  refine aw_iconst X (4) (by decide) d_S_init_137 ?_
  refine aw_icmp_ge (tgt := 160) X d_S_init_138 (by decide) (fun c => ?_) (fun c => ?_)
  · have h := h.1 c
    refine aw_lv [1, 2, 0] rfl ?_
    refine aw_widen (ce := 38) (sl := 279) (Nat.le_of_ble_eq_true rfl) (Nat.le_of_ble_eq_true rfl) ?_
    exact sd_S_init_160 X hr hin h
  · have h := h.2 c
    refine aw_aload_n X 1 rfl d_S_init_141 rfl ?_
    refine aw_gR X hc_0 in_0 4 (by decide) LK_72 (fun _ _ _ _ h => h) d_S_init_142 (h.mono (fun a142 h => ?_))
    refine aw_iload_n X 0 rfl d_S_init_145 rfl ?_
    refine aw_nO X hc_1 in_1 ty_1 tyok_1 LK_73 LK_74 LK_75 fs_1 fl_1 (Nat.le_of_ble_eq_true rfl) (Nat.le_of_ble_eq_true rfl) d_S_init_146 (h.mono (fun a146 M146 h => ?_))
    refine aw_dup X rfl d_S_init_149 ?_
    obtain ⟨⟨r150, f150, e150, g150⟩, h⟩ := h
    cases e150
    refine aw_cINv X [] (fun ad hlv => t_C_init l hlv h) ⟨va_cnB (host := "PartitionedProcedureStore") 0 X.hts (gd_in LK_code_C_init) rfl rfl rfl (X.hG.2.2.2 _ NW_77) (X.hts _ LK_75) (by decide +kernel) ⟨(Nat.le_of_ble_eq_true rfl), (Nat.le_of_ble_eq_true rfl)⟩, rfl, X.hts _ LK_78⟩ rfl rfl (Nat.le_of_ble_eq_true rfl) d_S_init_150 ⟨(Nat.le_of_ble_eq_true rfl), (Nat.le_of_ble_eq_true rfl)⟩ (fun M150 h => ?_)
    refine aw_sR X d_S_init_153 (h.mono (fun M153 h => ?_))
    refine aw_iinc (y := 0 + 1) (lvn := [(2, _), (0, _), (1, _)]) X 0 rfl d_S_init_154 rfl (by decide) rfl ?_
    refine aw_goto (tgt := 136) X d_S_init_157 (by decide) ?_
    refine aw_iload_n X 0 rfl d_S_init_136 rfl ?_
    refine aw_iconst X (4) (by decide) d_S_init_137 ?_
    refine aw_icmp_ge (tgt := 160) X d_S_init_138 (by decide) (fun c => ?_) (fun c => ?_)
    · have h := h.1 c
      refine aw_lv [1, 2, 0] rfl ?_
      refine aw_widen (ce := 38) (sl := 279) (Nat.le_of_ble_eq_true rfl) (Nat.le_of_ble_eq_true rfl) ?_
      exact sd_S_init_160 X hr hin h
    · have h := h.2 c
      refine aw_aload_n X 1 rfl d_S_init_141 rfl ?_
      refine aw_gR X hc_0 in_0 4 (by decide) LK_72 (fun _ _ _ _ h => h) d_S_init_142 (h.mono (fun a142 h => ?_))
      refine aw_iload_n X 0 rfl d_S_init_145 rfl ?_
      refine aw_nO X hc_1 in_1 ty_1 tyok_1 LK_73 LK_74 LK_75 fs_1 fl_1 (Nat.le_of_ble_eq_true rfl) (Nat.le_of_ble_eq_true rfl) d_S_init_146 (h.mono (fun a146 M146 h => ?_))
      refine aw_dup X rfl d_S_init_149 ?_
      obtain ⟨⟨r150, f150, e150, g150⟩, h⟩ := h
      cases e150
      refine aw_cINv X [] (fun ad hlv => t_C_init l hlv h) ⟨va_cnB (host := "PartitionedProcedureStore") 0 X.hts (gd_in LK_code_C_init) rfl rfl rfl (X.hG.2.2.2 _ NW_77) (X.hts _ LK_75) (by decide +kernel) ⟨(Nat.le_of_ble_eq_true rfl), (Nat.le_of_ble_eq_true rfl)⟩, rfl, X.hts _ LK_78⟩ rfl rfl (Nat.le_of_ble_eq_true rfl) d_S_init_150 ⟨(Nat.le_of_ble_eq_true rfl), (Nat.le_of_ble_eq_true rfl)⟩ (fun M150 h => ?_)
      refine aw_sR X d_S_init_153 (h.mono (fun M153 h => ?_))
      refine aw_iinc (y := (0 + 1) + 1) (lvn := [(2, _), (0, _), (1, _)]) X 0 rfl d_S_init_154 rfl (by decide) rfl ?_
      refine aw_goto (tgt := 136) X d_S_init_157 (by decide) ?_
      refine aw_iload_n X 0 rfl d_S_init_136 rfl ?_
      refine aw_iconst X (4) (by decide) d_S_init_137 ?_
      refine aw_icmp_ge (tgt := 160) X d_S_init_138 (by decide) (fun c => ?_) (fun c => ?_)
      · have h := h.1 c
        refine aw_lv [1, 2, 0] rfl ?_
        refine aw_widen (ce := 38) (sl := 279) (Nat.le_of_ble_eq_true rfl) (Nat.le_of_ble_eq_true rfl) ?_
        exact sd_S_init_160 X hr hin h
      · have h := h.2 c
        refine aw_aload_n X 1 rfl d_S_init_141 rfl ?_
        refine aw_gR X hc_0 in_0 4 (by decide) LK_72 (fun _ _ _ _ h => h) d_S_init_142 (h.mono (fun a142 h => ?_))
        refine aw_iload_n X 0 rfl d_S_init_145 rfl ?_
        refine aw_nO X hc_1 in_1 ty_1 tyok_1 LK_73 LK_74 LK_75 fs_1 fl_1 (Nat.le_of_ble_eq_true rfl) (Nat.le_of_ble_eq_true rfl) d_S_init_146 (h.mono (fun a146 M146 h => ?_))
        refine aw_dup X rfl d_S_init_149 ?_
        obtain ⟨⟨r150, f150, e150, g150⟩, h⟩ := h
        cases e150
        refine aw_cINv X [] (fun ad hlv => t_C_init l hlv h) ⟨va_cnB (host := "PartitionedProcedureStore") 0 X.hts (gd_in LK_code_C_init) rfl rfl rfl (X.hG.2.2.2 _ NW_77) (X.hts _ LK_75) (by decide +kernel) ⟨(Nat.le_of_ble_eq_true rfl), (Nat.le_of_ble_eq_true rfl)⟩, rfl, X.hts _ LK_78⟩ rfl rfl (Nat.le_of_ble_eq_true rfl) d_S_init_150 ⟨(Nat.le_of_ble_eq_true rfl), (Nat.le_of_ble_eq_true rfl)⟩ (fun M150 h => ?_)
        refine aw_sR X d_S_init_153 (h.mono (fun M153 h => ?_))
        refine aw_iinc (y := ((0 + 1) + 1) + 1) (lvn := [(2, _), (0, _), (1, _)]) X 0 rfl d_S_init_154 rfl (by decide) rfl ?_
        refine aw_goto (tgt := 136) X d_S_init_157 (by decide) ?_
        refine aw_iload_n X 0 rfl d_S_init_136 rfl ?_
        refine aw_iconst X (4) (by decide) d_S_init_137 ?_
        refine aw_icmp_ge (tgt := 160) X d_S_init_138 (by decide) (fun c => ?_) (fun c => ?_)
        · have h := h.1 c
          refine aw_lv [1, 2, 0] rfl ?_
          refine aw_widen (ce := 38) (sl := 279) (Nat.le_of_ble_eq_true rfl) (Nat.le_of_ble_eq_true rfl) ?_
          exact sd_S_init_160 X hr hin h
        · have h := h.2 c
          refine aw_aload_n X 1 rfl d_S_init_141 rfl ?_
          refine aw_gR X hc_0 in_0 4 (by decide) LK_72 (fun _ _ _ _ h => h) d_S_init_142 (h.mono (fun a142 h => ?_))
          refine aw_iload_n X 0 rfl d_S_init_145 rfl ?_
          refine aw_nO X hc_1 in_1 ty_1 tyok_1 LK_73 LK_74 LK_75 fs_1 fl_1 (Nat.le_of_ble_eq_true rfl) (Nat.le_of_ble_eq_true rfl) d_S_init_146 (h.mono (fun a146 M146 h => ?_))
          refine aw_dup X rfl d_S_init_149 ?_
          obtain ⟨⟨r150, f150, e150, g150⟩, h⟩ := h
          cases e150
          refine aw_cINv X [] (fun ad hlv => t_C_init l hlv h) ⟨va_cnB (host := "PartitionedProcedureStore") 0 X.hts (gd_in LK_code_C_init) rfl rfl rfl (X.hG.2.2.2 _ NW_77) (X.hts _ LK_75) (by decide +kernel) ⟨(Nat.le_of_ble_eq_true rfl), (Nat.le_of_ble_eq_true rfl)⟩, rfl, X.hts _ LK_78⟩ rfl rfl (Nat.le_of_ble_eq_true rfl) d_S_init_150 ⟨(Nat.le_of_ble_eq_true rfl), (Nat.le_of_ble_eq_true rfl)⟩ (fun M150 h => ?_)
          refine aw_sR X d_S_init_153 (h.mono (fun M153 h => ?_))
          refine aw_iinc (y := (((0 + 1) + 1) + 1) + 1) (lvn := [(2, _), (0, _), (1, _)]) X 0 rfl d_S_init_154 rfl (by decide) rfl ?_
          refine aw_goto (tgt := 136) X d_S_init_157 (by decide) ?_
          refine aw_iload_n X 0 rfl d_S_init_136 rfl ?_
          refine aw_iconst X (4) (by decide) d_S_init_137 ?_
          refine aw_icmp_ge (tgt := 160) X d_S_init_138 (by decide) (fun c => ?_) (fun c => ?_)
          · have h := h.1 c
            refine aw_lv [1, 2, 0] rfl ?_
            exact sd_S_init_160 X hr hin h
          · have h := h.2 c
            refine aw_aload_n X 1 rfl d_S_init_141 rfl ?_
            refine aw_gR X hc_0 in_0 4 (by decide) LK_72 (fun _ _ _ _ h => h) d_S_init_142 (h.mono (fun a142 h => ?_))
            refine aw_iload_n X 0 rfl d_S_init_145 rfl ?_
            refine aw_nO X hc_1 in_1 ty_1 tyok_1 LK_73 LK_74 LK_75 fs_1 fl_1 (Nat.le_of_ble_eq_true rfl) (Nat.le_of_ble_eq_true rfl) d_S_init_146 (h.mono (fun a146 M146 h => ?_))
            refine aw_dup X rfl d_S_init_149 ?_
            obtain ⟨⟨r150, f150, e150, g150⟩, h⟩ := h
            cases e150
            refine aw_cINv X [] (fun ad hlv => t_C_init l hlv h) ⟨va_cnB (host := "PartitionedProcedureStore") 0 X.hts (gd_in LK_code_C_init) rfl rfl rfl (X.hG.2.2.2 _ NW_77) (X.hts _ LK_75) (by decide +kernel) ⟨(Nat.le_of_ble_eq_true rfl), (Nat.le_of_ble_eq_true rfl)⟩, rfl, X.hts _ LK_78⟩ rfl rfl (Nat.le_of_ble_eq_true rfl) d_S_init_150 ⟨(Nat.le_of_ble_eq_true rfl), (Nat.le_of_ble_eq_true rfl)⟩ (fun M150 h => ?_)
            refine aw_sR X d_S_init_153 (h.mono (fun M153 h => ?_))
            refine aw_iinc (y := ((((0 + 1) + 1) + 1) + 1) + 1) (lvn := [(2, _), (0, _), (1, _)]) X 0 rfl d_S_init_154 rfl (by decide) rfl ?_
            refine aw_goto (tgt := 136) X d_S_init_157 (by decide) ?_
            exact h.elim
def wp_S_init (post : wM → Prop) (x0 : Option Ro) (x1 : Int32) (M : wM) : Prop := nn x0 (nA M 6 6 (fun n => ar 4 n (fun _ => none)) (fun a7 M7 => pF M7 x0 0 1 (vR a7) (fun M10 => pF M10 x0 0 2 (vR none) (fun M15 => nA M15 4 4 (fun n => ar 5 n (fun _ => none)) (fun a20 M20 => pF M20 x0 0 4 (vR a20) (fun M23 => nO M23 8 fd_8 (fun a27 M27 => cV M27 a27 8 (wp_A_init (fun M31 => pF M31 x0 0 5 (vR a27) (fun M34 => nO M34 6 fd_6 (fun a38 M38 => cV M38 a38 6 (wp_B_init (fun M42 => pF M42 x0 0 7 (vR a38) (fun M45 => pF M45 x0 0 8 (vI 0) (fun M50 => nO M50 6 fd_6 (fun a54 M54 => cV M54 a54 6 (wp_B_init (fun M58 => pF M58 x0 0 9 (vR a54) (fun M61 => pF M61 x0 0 10 (vI 0) (fun M66 => pF M66 x0 0 11 (vI 0) (fun M71 => pF M71 x0 0 12 (vI 0) (fun M76 => wp_Ma_min (fun a83 M83 => wp_Ma_max (fun a86 M86 => pF M86 x0 0 0 (vI a86) (fun M89 => nO M89 3 fd_3 (fun a93 M93 => gI M93 x0 0 0 (fun a98 => cV M93 a93 3 (wp_R_init (fun M101 => pF M101 x0 0 6 (vR a93) (fun M104 => ((6 : Int32) ≤ (0 : Int32) → wp_S_init_134 post x0 x1 0 M104) ∧ (¬ (6 : Int32) ≤ (0 : Int32) → gR M104 x0 0 1 (fun a116 => nO M104 2 fd_2 (fun a120 M120 => cV M120 a120 2 (wp_P_init (fun M124 => sR M124 a116 0 a120 (fun M127 => ((6 : Int32) ≤ (0 + 1 : Int32) → wp_S_init_134 post x0 x1 (0 + 1) M127) ∧ (¬ (6 : Int32) ≤ (0 + 1 : Int32) → gR M127 x0 0 1 (fun a116 => nO M127 2 fd_2 (fun a120 M120 => cV M120 a120 2 (wp_P_init (fun M124 => sR M124 a116 (0 + 1) a120 (fun M127 => ((6 : Int32) ≤ ((0 + 1) + 1 : Int32) → wp_S_init_134 post x0 x1 ((0 + 1) + 1) M127) ∧ (¬ (6 : Int32) ≤ ((0 + 1) + 1 : Int32) → gR M127 x0 0 1 (fun a116 => nO M127 2 fd_2 (fun a120 M120 => cV M120 a120 2 (wp_P_init (fun M124 => sR M124 a116 ((0 + 1) + 1) a120 (fun M127 => ((6 : Int32) ≤ (((0 + 1) + 1) + 1 : Int32) → wp_S_init_134 post x0 x1 (((0 + 1) + 1) + 1) M127) ∧ (¬ (6 : Int32) ≤ (((0 + 1) + 1) + 1 : Int32) → gR M127 x0 0 1 (fun a116 => nO M127 2 fd_2 (fun a120 M120 => cV M120 a120 2 (wp_P_init (fun M124 => sR M124 a116 (((0 + 1) + 1) + 1) a120 (fun M127 => ((6 : Int32) ≤ ((((0 + 1) + 1) + 1) + 1 : Int32) → wp_S_init_134 post x0 x1 ((((0 + 1) + 1) + 1) + 1) M127) ∧ (¬ (6 : Int32) ≤ ((((0 + 1) + 1) + 1) + 1 : Int32) → gR M127 x0 0 1 (fun a116 => nO M127 2 fd_2 (fun a120 M120 => cV M120 a120 2 (wp_P_init (fun M124 => sR M124 a116 ((((0 + 1) + 1) + 1) + 1) a120 (fun M127 => ((6 : Int32) ≤ (((((0 + 1) + 1) + 1) + 1) + 1 : Int32) → wp_S_init_134 post x0 x1 (((((0 + 1) + 1) + 1) + 1) + 1) M127) ∧ (¬ (6 : Int32) ≤ (((((0 + 1) + 1) + 1) + 1) + 1 : Int32) → gR M127 x0 0 1 (fun a116 => nO M127 2 fd_2 (fun a120 M120 => cV M120 a120 2 (wp_P_init (fun M124 => sR M124 a116 (((((0 + 1) + 1) + 1) + 1) + 1) a120 (fun M127 => ((6 : Int32) ≤ ((((((0 + 1) + 1) + 1) + 1) + 1) + 1 : Int32) → wp_S_init_134 post x0 x1 ((((((0 + 1) + 1) + 1) + 1) + 1) + 1) M127) ∧ (¬ (6 : Int32) ≤ ((((((0 + 1) + 1) + 1) + 1) + 1) + 1 : Int32) → gR M127 x0 0 1 (fun a116 => nO M127 2 fd_2 (fun a120 M120 => cV M120 a120 2 (wp_P_init (fun M124 => sR M124 a116 ((((((0 + 1) + 1) + 1) + 1) + 1) + 1) a120 (fun M127 => False)) a120 M120)))))) a120 M120)))))) a120 M120)))))) a120 M120)))))) a120 M120)))))) a120 M120)))))) a120 M120)))))) a93 a98 M93))))) 1 a83 M83) 4 x1 M76))))) a54 M54))))) a38 M38)))) a27 M27))))))))
set_option maxRecDepth 100000 in
set_option maxHeartbeats 4000000 in
theorem sd_S_init_0 (X : Cx p s m args meth c b_S_init 3 R_S TBL D dA B zE) (hr : meth.sig.returnType = none) (hin : meth.name = y_S_init.name) {post : wM → Prop} {x0 : Option Ro} {x1 : Int32} {M : wM} (h : wp_S_init post x0 x1 M) : AW p l e (headSpec w_S_init rm_S_init).room s m args below meth c (MQ below (QV D dA B zE M0 ad0 post) args s 49 318 (wA B)) D dA B zE 3 ad0 M0 M 0 0 0 [(0, vR x0), (1, vI x1)] [] := by
  unfold wp_S_init at h
  refine aw_aload_n X 0 rfl d_S_init_0 rfl ?_
  obtain ⟨⟨r1, e1⟩, h⟩ := h
  cases e1
  refine aw_objInit X LK_79 LK_1 LK_objcode (Nat.le_of_ble_eq_true rfl) (Nat.le_of_ble_eq_true rfl) d_S_init_1 ?_
  refine aw_aload_n X 0 rfl d_S_init_4 rfl ?_
  refine aw_bipush X (6) (by decide) d_S_init_5 ?_
  refine aw_nAR (t := 4) X rfl (by decide) LK_80 (X.hG.2.2.1.2.2.2.2.1 _ (by decide)) 6 (by decide) (Nat.le_of_ble_eq_true rfl) (Nat.le_of_ble_eq_true rfl) d_S_init_7 (h.mono (fun a7 M7 h => ?_))
  refine aw_pFF (ty := (.array (.object "PartitionedProcedureStore$Procedure"))) X hc_0 in_0 1 (by decide) ty_0 tyok_0 nm_0 LK_81 (fun _ _ _ _ h => h) rfl hin rfl (by decide +kernel) nfA d_S_init_10 (h.mono (fun M10 h => ?_))
  refine aw_aload_n X 0 rfl d_S_init_13 rfl ?_
  refine aw_null X d_S_init_14 ?_
  refine aw_pF (ty := (.object "PartitionedProcedureStore$Procedure")) X hc_0 in_0 2 (by decide) ty_0 tyok_0 nm_0 LK_82 (fun _ _ _ _ h => h) rfl (by decide +kernel) nfO d_S_init_15 (h.mono (fun M15 h => ?_))
  refine aw_aload_n X 0 rfl d_S_init_18 rfl ?_
  refine aw_iconst X (4) (by decide) d_S_init_19 ?_
  refine aw_nAR (t := 5) X rfl (by decide) LK_73 (X.hG.2.2.1.2.2.2.2.1 _ (by decide)) 4 (by decide) (Nat.le_of_ble_eq_true rfl) (Nat.le_of_ble_eq_true rfl) d_S_init_20 (h.mono (fun a20 M20 h => ?_))
  refine aw_pFF (ty := (.array (.object "PartitionedProcedureStore$Client"))) X hc_0 in_0 4 (by decide) ty_0 tyok_0 nm_0 LK_72 (fun _ _ _ _ h => h) rfl hin rfl (by decide +kernel) nfA d_S_init_23 (h.mono (fun M23 h => ?_))
  refine aw_aload_n X 0 rfl d_S_init_26 rfl ?_
  refine aw_nO X hc_8 in_8 ty_8 tyok_8 LK_83 LK_41 LK_42 fs_8 fl_8 (Nat.le_of_ble_eq_true rfl) (Nat.le_of_ble_eq_true rfl) d_S_init_27 (h.mono (fun a27 M27 h => ?_))
  refine aw_dup X rfl d_S_init_30 ?_
  obtain ⟨⟨r31, f31, e31, g31⟩, h⟩ := h
  cases e31
  refine aw_cIv X [] (fun ad hlv => t_A_init l hlv h) (cwI 0 X.hts (gd_in LK_code_A_init) rfl rfl rfl (X.hts _ LK_42) (X.hts _ LK_84) (X.hts _ LK_45) rfl (by decide +kernel) ⟨(Nat.le_of_ble_eq_true rfl), (Nat.le_of_ble_eq_true rfl)⟩) rfl rfl (Nat.le_of_ble_eq_true rfl) d_S_init_31 ⟨(Nat.le_of_ble_eq_true rfl), (Nat.le_of_ble_eq_true rfl)⟩ (fun M31 h => ?_)
  refine aw_pFF (ty := (.object "java/util/ArrayList")) X hc_0 in_0 5 (by decide) ty_0 tyok_0 nm_0 LK_85 (fun _ _ _ _ h => h) rfl hin rfl (by decide +kernel) nfO d_S_init_34 (h.mono (fun M34 h => ?_))
  refine aw_aload_n X 0 rfl d_S_init_37 rfl ?_
  refine aw_nO X hc_6 in_6 ty_6 tyok_6 LK_86 LK_26 LK_27 fs_6 fl_6 (Nat.le_of_ble_eq_true rfl) (Nat.le_of_ble_eq_true rfl) d_S_init_38 (h.mono (fun a38 M38 h => ?_))
  refine aw_dup X rfl d_S_init_41 ?_
  obtain ⟨⟨r42, f42, e42, g42⟩, h⟩ := h
  cases e42
  refine aw_cIv X [] (fun ad hlv => t_B_init l hlv h) (cwI 0 X.hts (gd_in LK_code_B_init) rfl rfl rfl (X.hts _ LK_27) (X.hts _ LK_87) (X.hts _ LK_30) rfl (by decide +kernel) ⟨(Nat.le_of_ble_eq_true rfl), (Nat.le_of_ble_eq_true rfl)⟩) rfl rfl (Nat.le_of_ble_eq_true rfl) d_S_init_42 ⟨(Nat.le_of_ble_eq_true rfl), (Nat.le_of_ble_eq_true rfl)⟩ (fun M42 h => ?_)
  refine aw_pFF (ty := (.object "PartitionedProcedureStore$Table")) X hc_0 in_0 7 (by decide) ty_0 tyok_0 nm_0 LK_88 (fun _ _ _ _ h => h) rfl hin rfl (by decide +kernel) nfO d_S_init_45 (h.mono (fun M45 h => ?_))
  refine aw_aload_n X 0 rfl d_S_init_48 rfl ?_
  refine aw_iconst X (0) (by decide) d_S_init_49 ?_
  refine aw_pF (ty := .int) X hc_0 in_0 8 (by decide) ty_0 tyok_0 nm_0 LK_89 (fun _ _ _ _ h => h) rfl (by decide +kernel) (fun _ => ⟨rfl, rfl⟩) d_S_init_50 (h.mono (fun M50 h => ?_))
  refine aw_aload_n X 0 rfl d_S_init_53 rfl ?_
  refine aw_nO X hc_6 in_6 ty_6 tyok_6 LK_86 LK_26 LK_27 fs_6 fl_6 (Nat.le_of_ble_eq_true rfl) (Nat.le_of_ble_eq_true rfl) d_S_init_54 (h.mono (fun a54 M54 h => ?_))
  refine aw_dup X rfl d_S_init_57 ?_
  obtain ⟨⟨r58, f58, e58, g58⟩, h⟩ := h
  cases e58
  refine aw_cIv X [] (fun ad hlv => t_B_init l hlv h) (cwI 0 X.hts (gd_in LK_code_B_init) rfl rfl rfl (X.hts _ LK_27) (X.hts _ LK_87) (X.hts _ LK_30) rfl (by decide +kernel) ⟨(Nat.le_of_ble_eq_true rfl), (Nat.le_of_ble_eq_true rfl)⟩) rfl rfl (Nat.le_of_ble_eq_true rfl) d_S_init_58 ⟨(Nat.le_of_ble_eq_true rfl), (Nat.le_of_ble_eq_true rfl)⟩ (fun M58 h => ?_)
  refine aw_pFF (ty := (.object "PartitionedProcedureStore$Table")) X hc_0 in_0 9 (by decide) ty_0 tyok_0 nm_0 LK_90 (fun _ _ _ _ h => h) rfl hin rfl (by decide +kernel) nfO d_S_init_61 (h.mono (fun M61 h => ?_))
  refine aw_aload_n X 0 rfl d_S_init_64 rfl ?_
  refine aw_iconst X (0) (by decide) d_S_init_65 ?_
  refine aw_pF (ty := .int) X hc_0 in_0 10 (by decide) ty_0 tyok_0 nm_0 LK_91 (fun _ _ _ _ h => h) rfl (by decide +kernel) (fun _ => ⟨rfl, rfl⟩) d_S_init_66 (h.mono (fun M66 h => ?_))
  refine aw_aload_n X 0 rfl d_S_init_69 rfl ?_
  refine aw_iconst X (0) (by decide) d_S_init_70 ?_
  refine aw_pF (ty := .int) X hc_0 in_0 11 (by decide) ty_0 tyok_0 nm_0 LK_92 (fun _ _ _ _ h => h) rfl (by decide +kernel) (fun _ => ⟨rfl, rfl⟩) d_S_init_71 (h.mono (fun M71 h => ?_))
  refine aw_aload_n X 0 rfl d_S_init_74 rfl ?_
  refine aw_iconst X (0) (by decide) d_S_init_75 ?_
  refine aw_pF (ty := .int) X hc_0 in_0 12 (by decide) ty_0 tyok_0 nm_0 LK_93 (fun _ _ _ _ h => h) rfl (by decide +kernel) (fun _ => ⟨rfl, rfl⟩) d_S_init_76 (h.mono (fun M76 h => ?_))
  refine aw_aload_n X 0 rfl d_S_init_79 rfl ?_
  refine aw_iconst X (1) (by decide) d_S_init_80 ?_
  refine aw_iconst X (4) (by decide) d_S_init_81 ?_
  refine aw_iload_n X 1 rfl d_S_init_82 rfl ?_
  refine aw_cSi X [_, _] (fun ad hlv => t_Ma_min l hlv h) (va_cwS 2 X.hts (gd_S2 LK_94 LK_95 LK_96 LK_code_Ma_min) rfl rfl rfl (by decide +kernel) ⟨(Nat.le_of_ble_eq_true rfl), (Nat.le_of_ble_eq_true rfl)⟩) rfl rfl (Nat.le_of_ble_eq_true rfl) d_S_init_83 ⟨(Nat.le_of_ble_eq_true rfl), (Nat.le_of_ble_eq_true rfl)⟩ (fun a83 M83 h => ?_)
  refine aw_cSi X [_, _] (fun ad hlv => t_Ma_max l hlv h) (va_cwS 2 X.hts (gd_S2 LK_98 LK_99 LK_96 LK_code_Ma_max) rfl rfl rfl (by decide +kernel) ⟨(Nat.le_of_ble_eq_true rfl), (Nat.le_of_ble_eq_true rfl)⟩) rfl rfl (Nat.le_of_ble_eq_true rfl) d_S_init_86 ⟨(Nat.le_of_ble_eq_true rfl), (Nat.le_of_ble_eq_true rfl)⟩ (fun a86 M86 h => ?_)
  refine aw_pFF (ty := .int) X hc_0 in_0 0 (by decide) ty_0 tyok_0 nm_0 LK_64 (fun _ _ _ _ h => h) rfl hin rfl (by decide +kernel) (fun _ => ⟨rfl, rfl⟩) d_S_init_89 (h.mono (fun M89 h => ?_))
  refine aw_aload_n X 0 rfl d_S_init_92 rfl ?_
  refine aw_nO X hc_3 in_3 ty_3 tyok_3 LK_101 LK_102 LK_103 fs_3 fl_3 (Nat.le_of_ble_eq_true rfl) (Nat.le_of_ble_eq_true rfl) d_S_init_93 (h.mono (fun a93 M93 h => ?_))
  refine aw_dup X rfl d_S_init_96 ?_
  refine aw_aload_n X 0 rfl d_S_init_97 rfl ?_
  refine aw_gI X hc_0 in_0 0 (by decide) LK_64 (fun _ _ _ _ h => h) d_S_init_98 (h.mono (fun a98 h => ?_))
  obtain ⟨⟨r101, f101, e101, g101⟩, h⟩ := h
  cases e101
  refine aw_cIv X [_] (fun ad hlv => t_R_init l hlv h) (cwI 1 X.hts (gd_in LK_code_R_init) rfl rfl rfl (X.hts _ LK_103) (X.hts _ LK_105) (X.hts _ LK_106) rfl (by decide +kernel) ⟨(Nat.le_of_ble_eq_true rfl), (Nat.le_of_ble_eq_true rfl)⟩) rfl rfl (Nat.le_of_ble_eq_true rfl) d_S_init_101 ⟨(Nat.le_of_ble_eq_true rfl), (Nat.le_of_ble_eq_true rfl)⟩ (fun M101 h => ?_)
  refine aw_pFF (ty := (.object "PartitionedProcedureStore$Runner")) X hc_0 in_0 6 (by decide) ty_0 tyok_0 nm_0 LK_107 (fun _ _ _ _ h => h) rfl hin rfl (by decide +kernel) nfO d_S_init_104 (h.mono (fun M104 h => ?_))
  refine aw_iconst X (0) (by decide) d_S_init_107 ?_
  refine aw_istore_n (lvn := [(2, _), (0, _), (1, _)]) X d_S_init_108 rfl (by decide) rfl ?_
  refine aw_iload_n X 0 rfl d_S_init_109 rfl ?_
  refine aw_bipush X (6) (by decide) d_S_init_110 ?_
  refine aw_icmp_ge (tgt := 134) X d_S_init_112 (by decide) (fun c => ?_) (fun c => ?_)
  · have h := h.1 c
    refine aw_lv [1, 2, 0] rfl ?_
    refine aw_widen (ce := 30) (sl := 235) (Nat.le_of_ble_eq_true rfl) (Nat.le_of_ble_eq_true rfl) ?_
    exact sd_S_init_134 X hr hin h
  · have h := h.2 c
    refine aw_aload_n X 1 rfl d_S_init_115 rfl ?_
    refine aw_gR X hc_0 in_0 1 (by decide) LK_81 (fun _ _ _ _ h => h) d_S_init_116 (h.mono (fun a116 h => ?_))
    refine aw_iload_n X 0 rfl d_S_init_119 rfl ?_
    refine aw_nO X hc_2 in_2 ty_2 tyok_2 LK_80 LK_108 LK_109 fs_2 fl_2 (Nat.le_of_ble_eq_true rfl) (Nat.le_of_ble_eq_true rfl) d_S_init_120 (h.mono (fun a120 M120 h => ?_))
    refine aw_dup X rfl d_S_init_123 ?_
    obtain ⟨⟨r124, f124, e124, g124⟩, h⟩ := h
    cases e124
    refine aw_cINv X [] (fun ad hlv => t_P_init l hlv h) ⟨va_cnB (host := "PartitionedProcedureStore") 0 X.hts (gd_in LK_code_P_init) rfl rfl rfl (X.hG.2.2.2 _ NW_111) (X.hts _ LK_109) (by decide +kernel) ⟨(Nat.le_of_ble_eq_true rfl), (Nat.le_of_ble_eq_true rfl)⟩, rfl, X.hts _ LK_112⟩ rfl rfl (Nat.le_of_ble_eq_true rfl) d_S_init_124 ⟨(Nat.le_of_ble_eq_true rfl), (Nat.le_of_ble_eq_true rfl)⟩ (fun M124 h => ?_)
    refine aw_sR X d_S_init_127 (h.mono (fun M127 h => ?_))
    refine aw_iinc (y := 0 + 1) (lvn := [(2, _), (0, _), (1, _)]) X 0 rfl d_S_init_128 rfl (by decide) rfl ?_
    refine aw_goto (tgt := 109) X d_S_init_131 (by decide) ?_
    refine aw_iload_n X 0 rfl d_S_init_109 rfl ?_
    refine aw_bipush X (6) (by decide) d_S_init_110 ?_
    refine aw_icmp_ge (tgt := 134) X d_S_init_112 (by decide) (fun c => ?_) (fun c => ?_)
    · have h := h.1 c
      refine aw_lv [1, 2, 0] rfl ?_
      refine aw_widen (ce := 30) (sl := 235) (Nat.le_of_ble_eq_true rfl) (Nat.le_of_ble_eq_true rfl) ?_
      exact sd_S_init_134 X hr hin h
    · have h := h.2 c
      refine aw_aload_n X 1 rfl d_S_init_115 rfl ?_
      refine aw_gR X hc_0 in_0 1 (by decide) LK_81 (fun _ _ _ _ h => h) d_S_init_116 (h.mono (fun a116 h => ?_))
      refine aw_iload_n X 0 rfl d_S_init_119 rfl ?_
      refine aw_nO X hc_2 in_2 ty_2 tyok_2 LK_80 LK_108 LK_109 fs_2 fl_2 (Nat.le_of_ble_eq_true rfl) (Nat.le_of_ble_eq_true rfl) d_S_init_120 (h.mono (fun a120 M120 h => ?_))
      refine aw_dup X rfl d_S_init_123 ?_
      obtain ⟨⟨r124, f124, e124, g124⟩, h⟩ := h
      cases e124
      refine aw_cINv X [] (fun ad hlv => t_P_init l hlv h) ⟨va_cnB (host := "PartitionedProcedureStore") 0 X.hts (gd_in LK_code_P_init) rfl rfl rfl (X.hG.2.2.2 _ NW_111) (X.hts _ LK_109) (by decide +kernel) ⟨(Nat.le_of_ble_eq_true rfl), (Nat.le_of_ble_eq_true rfl)⟩, rfl, X.hts _ LK_112⟩ rfl rfl (Nat.le_of_ble_eq_true rfl) d_S_init_124 ⟨(Nat.le_of_ble_eq_true rfl), (Nat.le_of_ble_eq_true rfl)⟩ (fun M124 h => ?_)
      refine aw_sR X d_S_init_127 (h.mono (fun M127 h => ?_))
      refine aw_iinc (y := (0 + 1) + 1) (lvn := [(2, _), (0, _), (1, _)]) X 0 rfl d_S_init_128 rfl (by decide) rfl ?_
      refine aw_goto (tgt := 109) X d_S_init_131 (by decide) ?_
      refine aw_iload_n X 0 rfl d_S_init_109 rfl ?_
      refine aw_bipush X (6) (by decide) d_S_init_110 ?_
      refine aw_icmp_ge (tgt := 134) X d_S_init_112 (by decide) (fun c => ?_) (fun c => ?_)
      · have h := h.1 c
        refine aw_lv [1, 2, 0] rfl ?_
        refine aw_widen (ce := 30) (sl := 235) (Nat.le_of_ble_eq_true rfl) (Nat.le_of_ble_eq_true rfl) ?_
        exact sd_S_init_134 X hr hin h
      · have h := h.2 c
        refine aw_aload_n X 1 rfl d_S_init_115 rfl ?_
        refine aw_gR X hc_0 in_0 1 (by decide) LK_81 (fun _ _ _ _ h => h) d_S_init_116 (h.mono (fun a116 h => ?_))
        refine aw_iload_n X 0 rfl d_S_init_119 rfl ?_
        refine aw_nO X hc_2 in_2 ty_2 tyok_2 LK_80 LK_108 LK_109 fs_2 fl_2 (Nat.le_of_ble_eq_true rfl) (Nat.le_of_ble_eq_true rfl) d_S_init_120 (h.mono (fun a120 M120 h => ?_))
        refine aw_dup X rfl d_S_init_123 ?_
        obtain ⟨⟨r124, f124, e124, g124⟩, h⟩ := h
        cases e124
        refine aw_cINv X [] (fun ad hlv => t_P_init l hlv h) ⟨va_cnB (host := "PartitionedProcedureStore") 0 X.hts (gd_in LK_code_P_init) rfl rfl rfl (X.hG.2.2.2 _ NW_111) (X.hts _ LK_109) (by decide +kernel) ⟨(Nat.le_of_ble_eq_true rfl), (Nat.le_of_ble_eq_true rfl)⟩, rfl, X.hts _ LK_112⟩ rfl rfl (Nat.le_of_ble_eq_true rfl) d_S_init_124 ⟨(Nat.le_of_ble_eq_true rfl), (Nat.le_of_ble_eq_true rfl)⟩ (fun M124 h => ?_)
        refine aw_sR X d_S_init_127 (h.mono (fun M127 h => ?_))
        refine aw_iinc (y := ((0 + 1) + 1) + 1) (lvn := [(2, _), (0, _), (1, _)]) X 0 rfl d_S_init_128 rfl (by decide) rfl ?_
        refine aw_goto (tgt := 109) X d_S_init_131 (by decide) ?_
        refine aw_iload_n X 0 rfl d_S_init_109 rfl ?_
        refine aw_bipush X (6) (by decide) d_S_init_110 ?_
        refine aw_icmp_ge (tgt := 134) X d_S_init_112 (by decide) (fun c => ?_) (fun c => ?_)
        · have h := h.1 c
          refine aw_lv [1, 2, 0] rfl ?_
          refine aw_widen (ce := 30) (sl := 235) (Nat.le_of_ble_eq_true rfl) (Nat.le_of_ble_eq_true rfl) ?_
          exact sd_S_init_134 X hr hin h
        · have h := h.2 c
          refine aw_aload_n X 1 rfl d_S_init_115 rfl ?_
          refine aw_gR X hc_0 in_0 1 (by decide) LK_81 (fun _ _ _ _ h => h) d_S_init_116 (h.mono (fun a116 h => ?_))
          refine aw_iload_n X 0 rfl d_S_init_119 rfl ?_
          refine aw_nO X hc_2 in_2 ty_2 tyok_2 LK_80 LK_108 LK_109 fs_2 fl_2 (Nat.le_of_ble_eq_true rfl) (Nat.le_of_ble_eq_true rfl) d_S_init_120 (h.mono (fun a120 M120 h => ?_))
          refine aw_dup X rfl d_S_init_123 ?_
          obtain ⟨⟨r124, f124, e124, g124⟩, h⟩ := h
          cases e124
          refine aw_cINv X [] (fun ad hlv => t_P_init l hlv h) ⟨va_cnB (host := "PartitionedProcedureStore") 0 X.hts (gd_in LK_code_P_init) rfl rfl rfl (X.hG.2.2.2 _ NW_111) (X.hts _ LK_109) (by decide +kernel) ⟨(Nat.le_of_ble_eq_true rfl), (Nat.le_of_ble_eq_true rfl)⟩, rfl, X.hts _ LK_112⟩ rfl rfl (Nat.le_of_ble_eq_true rfl) d_S_init_124 ⟨(Nat.le_of_ble_eq_true rfl), (Nat.le_of_ble_eq_true rfl)⟩ (fun M124 h => ?_)
          refine aw_sR X d_S_init_127 (h.mono (fun M127 h => ?_))
          refine aw_iinc (y := (((0 + 1) + 1) + 1) + 1) (lvn := [(2, _), (0, _), (1, _)]) X 0 rfl d_S_init_128 rfl (by decide) rfl ?_
          refine aw_goto (tgt := 109) X d_S_init_131 (by decide) ?_
          refine aw_iload_n X 0 rfl d_S_init_109 rfl ?_
          refine aw_bipush X (6) (by decide) d_S_init_110 ?_
          refine aw_icmp_ge (tgt := 134) X d_S_init_112 (by decide) (fun c => ?_) (fun c => ?_)
          · have h := h.1 c
            refine aw_lv [1, 2, 0] rfl ?_
            refine aw_widen (ce := 30) (sl := 235) (Nat.le_of_ble_eq_true rfl) (Nat.le_of_ble_eq_true rfl) ?_
            exact sd_S_init_134 X hr hin h
          · have h := h.2 c
            refine aw_aload_n X 1 rfl d_S_init_115 rfl ?_
            refine aw_gR X hc_0 in_0 1 (by decide) LK_81 (fun _ _ _ _ h => h) d_S_init_116 (h.mono (fun a116 h => ?_))
            refine aw_iload_n X 0 rfl d_S_init_119 rfl ?_
            refine aw_nO X hc_2 in_2 ty_2 tyok_2 LK_80 LK_108 LK_109 fs_2 fl_2 (Nat.le_of_ble_eq_true rfl) (Nat.le_of_ble_eq_true rfl) d_S_init_120 (h.mono (fun a120 M120 h => ?_))
            refine aw_dup X rfl d_S_init_123 ?_
            obtain ⟨⟨r124, f124, e124, g124⟩, h⟩ := h
            cases e124
            refine aw_cINv X [] (fun ad hlv => t_P_init l hlv h) ⟨va_cnB (host := "PartitionedProcedureStore") 0 X.hts (gd_in LK_code_P_init) rfl rfl rfl (X.hG.2.2.2 _ NW_111) (X.hts _ LK_109) (by decide +kernel) ⟨(Nat.le_of_ble_eq_true rfl), (Nat.le_of_ble_eq_true rfl)⟩, rfl, X.hts _ LK_112⟩ rfl rfl (Nat.le_of_ble_eq_true rfl) d_S_init_124 ⟨(Nat.le_of_ble_eq_true rfl), (Nat.le_of_ble_eq_true rfl)⟩ (fun M124 h => ?_)
            refine aw_sR X d_S_init_127 (h.mono (fun M127 h => ?_))
            refine aw_iinc (y := ((((0 + 1) + 1) + 1) + 1) + 1) (lvn := [(2, _), (0, _), (1, _)]) X 0 rfl d_S_init_128 rfl (by decide) rfl ?_
            refine aw_goto (tgt := 109) X d_S_init_131 (by decide) ?_
            refine aw_iload_n X 0 rfl d_S_init_109 rfl ?_
            refine aw_bipush X (6) (by decide) d_S_init_110 ?_
            refine aw_icmp_ge (tgt := 134) X d_S_init_112 (by decide) (fun c => ?_) (fun c => ?_)
            · have h := h.1 c
              refine aw_lv [1, 2, 0] rfl ?_
              refine aw_widen (ce := 30) (sl := 235) (Nat.le_of_ble_eq_true rfl) (Nat.le_of_ble_eq_true rfl) ?_
              exact sd_S_init_134 X hr hin h
            · have h := h.2 c
              refine aw_aload_n X 1 rfl d_S_init_115 rfl ?_
              refine aw_gR X hc_0 in_0 1 (by decide) LK_81 (fun _ _ _ _ h => h) d_S_init_116 (h.mono (fun a116 h => ?_))
              refine aw_iload_n X 0 rfl d_S_init_119 rfl ?_
              refine aw_nO X hc_2 in_2 ty_2 tyok_2 LK_80 LK_108 LK_109 fs_2 fl_2 (Nat.le_of_ble_eq_true rfl) (Nat.le_of_ble_eq_true rfl) d_S_init_120 (h.mono (fun a120 M120 h => ?_))
              refine aw_dup X rfl d_S_init_123 ?_
              obtain ⟨⟨r124, f124, e124, g124⟩, h⟩ := h
              cases e124
              refine aw_cINv X [] (fun ad hlv => t_P_init l hlv h) ⟨va_cnB (host := "PartitionedProcedureStore") 0 X.hts (gd_in LK_code_P_init) rfl rfl rfl (X.hG.2.2.2 _ NW_111) (X.hts _ LK_109) (by decide +kernel) ⟨(Nat.le_of_ble_eq_true rfl), (Nat.le_of_ble_eq_true rfl)⟩, rfl, X.hts _ LK_112⟩ rfl rfl (Nat.le_of_ble_eq_true rfl) d_S_init_124 ⟨(Nat.le_of_ble_eq_true rfl), (Nat.le_of_ble_eq_true rfl)⟩ (fun M124 h => ?_)
              refine aw_sR X d_S_init_127 (h.mono (fun M127 h => ?_))
              refine aw_iinc (y := (((((0 + 1) + 1) + 1) + 1) + 1) + 1) (lvn := [(2, _), (0, _), (1, _)]) X 0 rfl d_S_init_128 rfl (by decide) rfl ?_
              refine aw_goto (tgt := 109) X d_S_init_131 (by decide) ?_
              refine aw_iload_n X 0 rfl d_S_init_109 rfl ?_
              refine aw_bipush X (6) (by decide) d_S_init_110 ?_
              refine aw_icmp_ge (tgt := 134) X d_S_init_112 (by decide) (fun c => ?_) (fun c => ?_)
              · have h := h.1 c
                refine aw_lv [1, 2, 0] rfl ?_
                exact sd_S_init_134 X hr hin h
              · have h := h.2 c
                refine aw_aload_n X 1 rfl d_S_init_115 rfl ?_
                refine aw_gR X hc_0 in_0 1 (by decide) LK_81 (fun _ _ _ _ h => h) d_S_init_116 (h.mono (fun a116 h => ?_))
                refine aw_iload_n X 0 rfl d_S_init_119 rfl ?_
                refine aw_nO X hc_2 in_2 ty_2 tyok_2 LK_80 LK_108 LK_109 fs_2 fl_2 (Nat.le_of_ble_eq_true rfl) (Nat.le_of_ble_eq_true rfl) d_S_init_120 (h.mono (fun a120 M120 h => ?_))
                refine aw_dup X rfl d_S_init_123 ?_
                obtain ⟨⟨r124, f124, e124, g124⟩, h⟩ := h
                cases e124
                refine aw_cINv X [] (fun ad hlv => t_P_init l hlv h) ⟨va_cnB (host := "PartitionedProcedureStore") 0 X.hts (gd_in LK_code_P_init) rfl rfl rfl (X.hG.2.2.2 _ NW_111) (X.hts _ LK_109) (by decide +kernel) ⟨(Nat.le_of_ble_eq_true rfl), (Nat.le_of_ble_eq_true rfl)⟩, rfl, X.hts _ LK_112⟩ rfl rfl (Nat.le_of_ble_eq_true rfl) d_S_init_124 ⟨(Nat.le_of_ble_eq_true rfl), (Nat.le_of_ble_eq_true rfl)⟩ (fun M124 h => ?_)
                refine aw_sR X d_S_init_127 (h.mono (fun M127 h => ?_))
                refine aw_iinc (y := ((((((0 + 1) + 1) + 1) + 1) + 1) + 1) + 1) (lvn := [(2, _), (0, _), (1, _)]) X 0 rfl d_S_init_128 rfl (by decide) rfl ?_
                refine aw_goto (tgt := 109) X d_S_init_131 (by decide) ?_
                exact h.elim
end
theorem t_S_init (l : Launch) {D : va_G} {dA : Nat → ClassId} {B : Nat} {zE : ZT} {M : wM} {ad : Ro → Nat} {post : wM → Prop} {x0 : Option Ro} {x1 : Int32} (hlv : lvS M [vR x0, vI x1]) (h : wp_S_init post x0 x1 M) : Met l y_S_init w_S_init rm_S_init (PA D dA B zE M ad [vR x0, vI x1]) (QV D dA B zE M ad post) 49 318 (wA B) :=
  AW_start [vR x0, vI x1] [(0, vR x0), (1, vI x1)] hlv (by decide +kernel) rfl (fun _ hw => List.mem_cons_of_mem _ hw) rfl (Nat.le_of_ble_eq_true rfl) (fun p e s m args below meth c X hr hin => sd_S_init_0 X hr hin h)
