abbrev rm_Ar_copyOf0 : Room := { frames := 2, cells := 1, slots := 800, locals := 83 }
section
variable {p : Program} {l : Launch} {e : Env} {s : State} {m : MethodId} {args : Array Value} {below : List Frame} {meth : Method} {c : Code} {D : va_G} {dA : Nat → ClassId} {B : Nat} {zE : ZT} {ad0 : Ro → Nat} {M0 : wM}
def wp_Ar_copyOf0 (post : Option Ro → wM → Prop) (x0 : Option Ro) (x1 : Int32) (M : wM) : Prop := gC M x0 (wp_Ar_copyOf1 (fun a6 M6 => post a6 M6) x0 x1 (some (91, 0)) M)
set_option maxRecDepth 100000 in
set_option maxHeartbeats 4000000 in
theorem sd_Ar_copyOf0_0 (X : Cx p s m args meth c b_Ar_copyOf0 2 R_Ar TBL D dA B zE) (hr : meth.sig.returnType = (some (.array (.object "java/lang/Object")))) (hin : meth.name = y_Ar_copyOf0.name) {post : Option Ro → wM → Prop} {x0 : Option Ro} {x1 : Int32} {M : wM} (h : wp_Ar_copyOf0 post x0 x1 M) : AW p l e (headSpec w_Ar_copyOf0 rm_Ar_copyOf0).room s m args below meth c (MQ below (QR D dA B zE M0 ad0 post) args s 1 800 (wA B)) D dA B zE 2 ad0 M0 M 0 0 0 [(0, vR x0), (1, vI x1)] [] := by
  unfold wp_Ar_copyOf0 at h
  refine aw_aload_n X 0 rfl d_Ar_copyOf0_0 rfl ?_
  refine aw_iload_n X 1 rfl d_Ar_copyOf0_1 rfl ?_
  refine aw_aload_n X 0 rfl d_Ar_copyOf0_2 rfl ?_
  refine aw_gC X LK_143 NW_getClass LK_144 LK_145 LK_146 (Nat.le_of_ble_eq_true rfl) (Nat.le_of_ble_eq_true rfl) d_Ar_copyOf0_3 ⟨h.1, ?_⟩
  have h := h.2
  refine aw_cSr X [_, _, _] (fun ad hlv => t_Ar_copyOf1 l hlv h) (cwS 3 X.hts (gd_S LK_147 LK_148 LK_22 LK_code_Ar_copyOf1) rfl rfl rfl (by decide +kernel) ⟨(Nat.le_of_ble_eq_true rfl), (Nat.le_of_ble_eq_true rfl)⟩) rfl rfl (Nat.le_of_ble_eq_true rfl) d_Ar_copyOf0_6 ⟨(Nat.le_of_ble_eq_true rfl), (Nat.le_of_ble_eq_true rfl)⟩ (fun a6 M6 h => ?_)
  exact aw_aret X hr (Or.inr ⟨_, rfl⟩) (Nat.le_of_ble_eq_true rfl) (Nat.le_of_ble_eq_true rfl) d_Ar_copyOf0_9 h
end
theorem t_Ar_copyOf0 (l : Launch) {D : va_G} {dA : Nat → ClassId} {B : Nat} {zE : ZT} {M : wM} {ad : Ro → Nat} {post : Option Ro → wM → Prop} {x0 : Option Ro} {x1 : Int32} (hlv : lvS M [vR x0, vI x1]) (h : wp_Ar_copyOf0 post x0 x1 M) : Met l y_Ar_copyOf0 w_Ar_copyOf0 rm_Ar_copyOf0 (PA D dA B zE M ad [vR x0, vI x1]) (QR D dA B zE M ad post) 1 800 (wA B) :=
  AW_start [vR x0, vI x1] [(0, vR x0), (1, vI x1)] hlv (by decide +kernel) rfl (fun _ hw => List.mem_cons_of_mem _ hw) rfl (Nat.le_of_ble_eq_true rfl) (fun p e s m args below meth c X hr hin => sd_Ar_copyOf0_0 X hr hin h)
abbrev rm_A_grow1 : Room := { frames := 3, cells := 1, slots := 800, locals := 104 }
section
variable {p : Program} {l : Launch} {e : Env} {s : State} {m : MethodId} {args : Array Value} {below : List Frame} {meth : Method} {c : Code} {D : va_G} {dA : Nat → ClassId} {B : Nat} {zE : ZT} {ad0 : Ro → Nat} {M0 : wM}
def wp_A_grow1_20 (post : Option Ro → wM → Prop) (x0 : Option Ro) (x1 : Int32) (x2 : Int32) (M : wM) : Prop := wp_As_newLength (fun a27 M27 => gR M27 x0 8 0 (fun a33 => wp_Ar_copyOf0 (fun a37 M37 => pF M37 x0 8 0 (vR a37) (fun M41 => post a37 M41)) a33 a27 M27)) x2 (x1 - x2) (x2 >>> (1 &&& 31)) M
set_option maxRecDepth 100000 in
set_option maxHeartbeats 4000000 in
theorem sd_A_grow1_20 (X : Cx p s m args meth c b_A_grow1 4 R_A TBL D dA B zE) (hr : meth.sig.returnType = (some (.array (.object "java/lang/Object")))) (hin : meth.name = y_A_grow1.name) {post : Option Ro → wM → Prop} {x0 : Option Ro} {x1 : Int32} {x2 : Int32} {M : wM} (h : wp_A_grow1_20 post x0 x1 x2 M) : AW p l e (headSpec w_A_grow1 rm_A_grow1).room s m args below meth c (MQ below (QR D dA B zE M0 ad0 post) args s 1 800 (wA B)) D dA B zE 4 ad0 M0 M 0 0 20 [(0, vR x0), (1, vI x1), (2, vI x2)] [] := by
  unfold wp_A_grow1_20 at h
  refine aw_iload_n X 2 rfl d_A_grow1_20 rfl ?_
  refine aw_iload_n X 1 rfl d_A_grow1_21 rfl ?_
  refine aw_iload_n X 2 rfl d_A_grow1_22 rfl ?_
  refine aw_isub X d_A_grow1_23 ?_
  refine aw_iload_n X 2 rfl d_A_grow1_24 rfl ?_
  refine aw_iconst X (1) (by decide) d_A_grow1_25 ?_
  refine aw_ishr X d_A_grow1_26 ?_
  refine aw_cSi X [_, _, _] (fun ad hlv => t_As_newLength l hlv h) (va_cwS 3 X.hts (gd_S2 LK_150 LK_151 LK_152 LK_code_As_newLength) rfl rfl rfl (by decide +kernel) ⟨(Nat.le_of_ble_eq_true rfl), (Nat.le_of_ble_eq_true rfl)⟩) rfl rfl (Nat.le_of_ble_eq_true rfl) d_A_grow1_27 ⟨(Nat.le_of_ble_eq_true rfl), (Nat.le_of_ble_eq_true rfl)⟩ (fun a27 M27 h => ?_)
  refine aw_istore_n (lvn := [(3, _), (0, _), (1, _), (2, _)]) X d_A_grow1_30 rfl (by decide) rfl ?_
  refine aw_aload_n X 1 rfl d_A_grow1_31 rfl ?_
  refine aw_aload_n X 1 rfl d_A_grow1_32 rfl ?_
  refine aw_gR X hc_8 in_8 0 (by decide) LK_13 (fun _ _ _ _ h => h) d_A_grow1_33 (h.mono (fun a33 h => ?_))
  refine aw_iload_n X 0 rfl d_A_grow1_36 rfl ?_
  refine aw_cSr X [_, _] (fun ad hlv => t_Ar_copyOf0 l hlv h) (va_cwS 2 X.hts (gd_S2 LK_154 LK_155 LK_22 LK_code_Ar_copyOf0) rfl rfl rfl (by decide +kernel) ⟨(Nat.le_of_ble_eq_true rfl), (Nat.le_of_ble_eq_true rfl)⟩) rfl rfl (Nat.le_of_ble_eq_true rfl) d_A_grow1_37 ⟨(Nat.le_of_ble_eq_true rfl), (Nat.le_of_ble_eq_true rfl)⟩ (fun a37 M37 h => ?_)
  refine aw_dup_x1 X rfl rfl d_A_grow1_40 ?_
  refine aw_pF (ty := (.array (.object "java/lang/Object"))) X hc_8 in_8 0 (by decide) ty_8 tyok_8 nm_8 LK_13 (fun _ _ _ _ h => h) rfl (by decide +kernel) nfA d_A_grow1_41 (h.mono (fun M41 h => ?_))
  exact aw_aret X hr (Or.inr ⟨_, rfl⟩) (Nat.le_of_ble_eq_true rfl) (Nat.le_of_ble_eq_true rfl) d_A_grow1_44 h
def wp_A_grow1 (post : Option Ro → wM → Prop) (x0 : Option Ro) (x1 : Int32) (M : wM) : Prop := gR M x0 8 0 (fun a1 => aN M a1 (fun a4 => (0 < a4 → wp_A_grow1_20 post x0 x1 a4 M) ∧ (¬ 0 < a4 → gR M x0 8 0 (fun a11 => ns a11 (some (90, 0)) ∧ (a11 = (some (90, 0)) → wp_Ma_max (fun a49 M49 => nA M49 a49 10 (fun n => ar 3 n (fun _ => none)) (fun a52 M52 => pF M52 x0 8 0 (vR a52) (fun M56 => post a52 M56))) 10 x1 M) ∧ (¬ a11 = (some (90, 0)) → wp_A_grow1_20 post x0 x1 a4 M)))))
set_option maxRecDepth 100000 in
set_option maxHeartbeats 4000000 in
theorem sd_A_grow1_0 (X : Cx p s m args meth c b_A_grow1 4 R_A TBL D dA B zE) (hr : meth.sig.returnType = (some (.array (.object "java/lang/Object")))) (hin : meth.name = y_A_grow1.name) {post : Option Ro → wM → Prop} {x0 : Option Ro} {x1 : Int32} {M : wM} (h : wp_A_grow1 post x0 x1 M) : AW p l e (headSpec w_A_grow1 rm_A_grow1).room s m args below meth c (MQ below (QR D dA B zE M0 ad0 post) args s 1 800 (wA B)) D dA B zE 4 ad0 M0 M 0 0 0 [(0, vR x0), (1, vI x1)] [] := by
  unfold wp_A_grow1 at h
  refine aw_aload_n X 0 rfl d_A_grow1_0 rfl ?_
  refine aw_gR X hc_8 in_8 0 (by decide) LK_13 (fun _ _ _ _ h => h) d_A_grow1_1 (h.mono (fun a1 h => ?_))
  refine aw_aN X d_A_grow1_4 (h.mono (fun a4 h => ?_))
  refine aw_istore_n (lvn := [(2, _), (0, _), (1, _)]) X d_A_grow1_5 rfl (by decide) rfl ?_
  refine aw_iload_n X 0 rfl d_A_grow1_6 rfl ?_
  refine aw_if_gt (tgt := 20) X d_A_grow1_7 (by decide) (fun c => ?_) (fun c => ?_)
  · have h := h.1 c
    refine aw_lv [1, 2, 0] rfl ?_
    exact sd_A_grow1_20 X hr hin h
  · have h := h.2 c
    refine aw_aload_n X 1 rfl d_A_grow1_10 rfl ?_
    refine aw_gR X hc_8 in_8 0 (by decide) LK_13 (fun _ _ _ _ h => h) d_A_grow1_11 (h.mono (fun a11 h => ?_))
    refine aw_gets X LK_12 rfl d_A_grow1_14 ?_
    obtain ⟨hns, h⟩ := h
    refine aw_acmp_eq (tgt := 45) X hns d_A_grow1_17 (by decide) (fun c => ?_) (fun c => ?_)
    · have h := h.1 c
      refine aw_aload_n X 1 rfl d_A_grow1_45 rfl ?_
      refine aw_bipush X (10) (by decide) d_A_grow1_46 ?_
      refine aw_iload_n X 2 rfl d_A_grow1_48 rfl ?_
      refine aw_cSi X [_, _] (fun ad hlv => t_Ma_max l hlv h) (va_cwS 2 X.hts (gd_S2 LK_157 LK_99 LK_96 LK_code_Ma_max) rfl rfl rfl (by decide +kernel) ⟨(Nat.le_of_ble_eq_true rfl), (Nat.le_of_ble_eq_true rfl)⟩) rfl rfl (Nat.le_of_ble_eq_true rfl) d_A_grow1_49 ⟨(Nat.le_of_ble_eq_true rfl), (Nat.le_of_ble_eq_true rfl)⟩ (fun a49 M49 h => ?_)
      refine aw_nAR (t := 3) X rfl (by decide) LK_158 (X.hG.2.2.1.2.2.2.2.1 _ (by decide)) 10 (by decide) (Nat.le_of_ble_eq_true rfl) (Nat.le_of_ble_eq_true rfl) d_A_grow1_52 (h.mono (fun a52 M52 h => ?_))
      refine aw_dup_x1 X rfl rfl d_A_grow1_55 ?_
      refine aw_pF (ty := (.array (.object "java/lang/Object"))) X hc_8 in_8 0 (by decide) ty_8 tyok_8 nm_8 LK_13 (fun _ _ _ _ h => h) rfl (by decide +kernel) nfA d_A_grow1_56 (h.mono (fun M56 h => ?_))
      exact aw_aret X hr (Or.inr ⟨_, rfl⟩) (Nat.le_of_ble_eq_true rfl) (Nat.le_of_ble_eq_true rfl) d_A_grow1_59 h
    · have h := h.2 c
      refine aw_lv [1, 2, 0] rfl ?_
      exact sd_A_grow1_20 X hr hin h
end
theorem t_A_grow1 (l : Launch) {D : va_G} {dA : Nat → ClassId} {B : Nat} {zE : ZT} {M : wM} {ad : Ro → Nat} {post : Option Ro → wM → Prop} {x0 : Option Ro} {x1 : Int32} (hlv : lvS M [vR x0, vI x1]) (h : wp_A_grow1 post x0 x1 M) : Met l y_A_grow1 w_A_grow1 rm_A_grow1 (PA D dA B zE M ad [vR x0, vI x1]) (QR D dA B zE M ad post) 1 800 (wA B) :=
  AW_start [vR x0, vI x1] [(0, vR x0), (1, vI x1)] hlv (by decide +kernel) rfl (fun _ hw => List.mem_cons_of_mem _ hw) rfl (Nat.le_of_ble_eq_true rfl) (fun p e s m args below meth c X hr hin => sd_A_grow1_0 X hr hin h)
abbrev rm_A_grow0 : Room := { frames := 4, cells := 1, slots := 800, locals := 127 }
section
variable {p : Program} {l : Launch} {e : Env} {s : State} {m : MethodId} {args : Array Value} {below : List Frame} {meth : Method} {c : Code} {D : va_G} {dA : Nat → ClassId} {B : Nat} {zE : ZT} {ad0 : Ro → Nat} {M0 : wM}
def wp_A_grow0 (post : Option Ro → wM → Prop) (x0 : Option Ro) (M : wM) : Prop := gI M x0 8 1 (fun a2 => cV M x0 8 (wp_A_grow1 (fun a7 M7 => post a7 M7) x0 (a2 + 1) M))
set_option maxRecDepth 100000 in
set_option maxHeartbeats 4000000 in
theorem sd_A_grow0_0 (X : Cx p s m args meth c b_A_grow0 1 R_A TBL D dA B zE) (hr : meth.sig.returnType = (some (.array (.object "java/lang/Object")))) (hin : meth.name = y_A_grow0.name) {post : Option Ro → wM → Prop} {x0 : Option Ro} {M : wM} (h : wp_A_grow0 post x0 M) : AW p l e (headSpec w_A_grow0 rm_A_grow0).room s m args below meth c (MQ below (QR D dA B zE M0 ad0 post) args s 1 800 (wA B)) D dA B zE 1 ad0 M0 M 0 0 0 [(0, vR x0)] [] := by
  unfold wp_A_grow0 at h
  refine aw_aload_n X 0 rfl d_A_grow0_0 rfl ?_
  refine aw_aload_n X 0 rfl d_A_grow0_1 rfl ?_
  refine aw_gI X hc_8 in_8 1 (by decide) LK_115 (fun _ _ _ _ h => h) d_A_grow0_2 (h.mono (fun a2 h => ?_))
  refine aw_iconst X (1) (by decide) d_A_grow0_5 ?_
  refine aw_iadd X d_A_grow0_6 ?_
  obtain ⟨⟨r7, f7, e7, g7⟩, h⟩ := h
  cases e7
  refine aw_cVr X [_] (fun ad hlv => t_A_grow1 l hlv h) (cwV 1 X.hts (gd_V LK_159 LK_160 LK_161 LK_42 LK_code_A_grow1) rfl rfl rfl (by decide +kernel) ⟨(Nat.le_of_ble_eq_true rfl), (Nat.le_of_ble_eq_true rfl)⟩) ⟨8, f7, _, g7, hc_8, rfl⟩ rfl rfl (Nat.le_of_ble_eq_true rfl) d_A_grow0_7 ⟨(Nat.le_of_ble_eq_true rfl), (Nat.le_of_ble_eq_true rfl)⟩ (fun a7 M7 h => ?_)
  exact aw_aret X hr (Or.inr ⟨_, rfl⟩) (Nat.le_of_ble_eq_true rfl) (Nat.le_of_ble_eq_true rfl) d_A_grow0_10 h
end
theorem t_A_grow0 (l : Launch) {D : va_G} {dA : Nat → ClassId} {B : Nat} {zE : ZT} {M : wM} {ad : Ro → Nat} {post : Option Ro → wM → Prop} {x0 : Option Ro} (hlv : lvS M [vR x0]) (h : wp_A_grow0 post x0 M) : Met l y_A_grow0 w_A_grow0 rm_A_grow0 (PA D dA B zE M ad [vR x0]) (QR D dA B zE M ad post) 1 800 (wA B) :=
  AW_start [vR x0] [(0, vR x0)] hlv (by decide +kernel) rfl (fun _ hw => List.mem_cons_of_mem _ hw) rfl (Nat.le_of_ble_eq_true rfl) (fun p e s m args below meth c X hr hin => sd_A_grow0_0 X hr hin h)
abbrev rm_A_add1 : Room := { frames := 5, cells := 1, slots := 800, locals := 147 }
section
variable {p : Program} {l : Launch} {e : Env} {s : State} {m : MethodId} {args : Array Value} {below : List Frame} {meth : Method} {c : Code} {D : va_G} {dA : Nat → ClassId} {B : Nat} {zE : ZT} {ad0 : Ro → Nat} {M0 : wM}
def wp_A_add1_11 (post : wM → Prop) (x0 : Option Ro) (x1 : Option Ro) (x2 : Option Ro) (x3 : Int32) (M : wM) : Prop := sR M x2 x3 x1 (fun M14 => pF M14 x0 8 1 (vI (x3 + 1)) (fun M19 => post M19))
set_option maxRecDepth 100000 in
set_option maxHeartbeats 4000000 in
theorem sd_A_add1_11 (X : Cx p s m args meth c b_A_add1 4 R_A TBL D dA B zE) (hr : meth.sig.returnType = none) (hin : meth.name = y_A_add1.name) {post : wM → Prop} {x0 : Option Ro} {x1 : Option Ro} {x2 : Option Ro} {x3 : Int32} {M : wM} (h : wp_A_add1_11 post x0 x1 x2 x3 M) : AW p l e (headSpec w_A_add1 rm_A_add1).room s m args below meth c (MQ below (QV D dA B zE M0 ad0 post) args s 1 800 (wA B)) D dA B zE 4 ad0 M0 M 1 800 11 [(0, vR x0), (1, vR x1), (2, vR x2), (3, vI x3)] [] := by
  unfold wp_A_add1_11 at h
  refine aw_aload_n X 2 rfl d_A_add1_11 rfl ?_
  refine aw_iload_n X 3 rfl d_A_add1_12 rfl ?_
  refine aw_aload_n X 1 rfl d_A_add1_13 rfl ?_
  refine aw_sR X d_A_add1_14 (h.mono (fun M14 h => ?_))
  refine aw_aload_n X 0 rfl d_A_add1_15 rfl ?_
  refine aw_iload_n X 3 rfl d_A_add1_16 rfl ?_
  refine aw_iconst X (1) (by decide) d_A_add1_17 ?_
  refine aw_iadd X d_A_add1_18 ?_
  refine aw_pF (ty := .int) X hc_8 in_8 1 (by decide) ty_8 tyok_8 nm_8 LK_115 (fun _ _ _ _ h => h) rfl (by decide +kernel) (fun _ => ⟨rfl, rfl⟩) d_A_add1_19 (h.mono (fun M19 h => ?_))
  exact aw_vret X hr (Nat.le_of_ble_eq_true rfl) (Nat.le_of_ble_eq_true rfl) d_A_add1_22 h
def wp_A_add1 (post : wM → Prop) (x0 : Option Ro) (x1 : Option Ro) (x2 : Option Ro) (x3 : Int32) (M : wM) : Prop := aN M x2 (fun a2 => (¬ x3 = a2 → wp_A_add1_11 post x0 x1 x2 x3 M) ∧ (x3 = a2 → cV M x0 8 (wp_A_grow0 (fun a7 M7 => wp_A_add1_11 post x0 x1 a7 x3 M7) x0 M)))
set_option maxRecDepth 100000 in
set_option maxHeartbeats 4000000 in
theorem sd_A_add1_0 (X : Cx p s m args meth c b_A_add1 4 R_A TBL D dA B zE) (hr : meth.sig.returnType = none) (hin : meth.name = y_A_add1.name) {post : wM → Prop} {x0 : Option Ro} {x1 : Option Ro} {x2 : Option Ro} {x3 : Int32} {M : wM} (h : wp_A_add1 post x0 x1 x2 x3 M) : AW p l e (headSpec w_A_add1 rm_A_add1).room s m args below meth c (MQ below (QV D dA B zE M0 ad0 post) args s 1 800 (wA B)) D dA B zE 4 ad0 M0 M 0 0 0 [(0, vR x0), (1, vR x1), (2, vR x2), (3, vI x3)] [] := by
  unfold wp_A_add1 at h
  refine aw_iload_n X 3 rfl d_A_add1_0 rfl ?_
  refine aw_aload_n X 2 rfl d_A_add1_1 rfl ?_
  refine aw_aN X d_A_add1_2 (h.mono (fun a2 h => ?_))
  refine aw_icmp_ne (tgt := 11) X d_A_add1_3 (by decide) (fun c => ?_) (fun c => ?_)
  · have h := h.1 c
    refine aw_widen (ce := 1) (sl := 800) (Nat.le_of_ble_eq_true rfl) (Nat.le_of_ble_eq_true rfl) ?_
    exact sd_A_add1_11 X hr hin h
  · have h := h.2 c
    refine aw_aload_n X 0 rfl d_A_add1_6 rfl ?_
    obtain ⟨⟨r7, f7, e7, g7⟩, h⟩ := h
    cases e7
    refine aw_cVr X [] (fun ad hlv => t_A_grow0 l hlv h) (cwV 0 X.hts (gd_V LK_163 LK_164 LK_165 LK_42 LK_code_A_grow0) rfl rfl rfl (by decide +kernel) ⟨(Nat.le_of_ble_eq_true rfl), (Nat.le_of_ble_eq_true rfl)⟩) ⟨8, f7, _, g7, hc_8, rfl⟩ rfl rfl (Nat.le_of_ble_eq_true rfl) d_A_add1_7 ⟨(Nat.le_of_ble_eq_true rfl), (Nat.le_of_ble_eq_true rfl)⟩ (fun a7 M7 h => ?_)
    refine aw_astore_n (lvn := [(2, _), (0, _), (1, _), (3, _)]) X d_A_add1_10 rfl (by decide) rfl ?_
    refine aw_lv [1, 2, 0, 3] rfl ?_
    exact sd_A_add1_11 X hr hin h
end
theorem t_A_add1 (l : Launch) {D : va_G} {dA : Nat → ClassId} {B : Nat} {zE : ZT} {M : wM} {ad : Ro → Nat} {post : wM → Prop} {x0 : Option Ro} {x1 : Option Ro} {x2 : Option Ro} {x3 : Int32} (hlv : lvS M [vR x0, vR x1, vR x2, vI x3]) (h : wp_A_add1 post x0 x1 x2 x3 M) : Met l y_A_add1 w_A_add1 rm_A_add1 (PA D dA B zE M ad [vR x0, vR x1, vR x2, vI x3]) (QV D dA B zE M ad post) 1 800 (wA B) :=
  AW_start [vR x0, vR x1, vR x2, vI x3] [(0, vR x0), (1, vR x1), (2, vR x2), (3, vI x3)] hlv (by decide +kernel) rfl (fun _ hw => List.mem_cons_of_mem _ hw) rfl (Nat.le_of_ble_eq_true rfl) (fun p e s m args below meth c X hr hin => sd_A_add1_0 X hr hin h)
abbrev rm_A_add0 : Room := { frames := 6, cells := 1, slots := 800, locals := 170 }
section
variable {p : Program} {l : Launch} {e : Env} {s : State} {m : MethodId} {args : Array Value} {below : List Frame} {meth : Method} {c : Code} {D : va_G} {dA : Nat → ClassId} {B : Nat} {zE : ZT} {ad0 : Ro → Nat} {M0 : wM}
def wp_A_add0 (post : Int32 → wM → Prop) (x0 : Option Ro) (x1 : Option Ro) (M : wM) : Prop := gI M x0 8 2 (fun a2 => pF M x0 8 2 (vI (a2 + 1)) (fun M7 => gR M7 x0 8 0 (fun a13 => gI M7 x0 8 1 (fun a17 => cV M7 x0 8 (wp_A_add1 (fun M20 => post 1 M20) x0 x1 a13 a17 M7)))))
set_option maxRecDepth 100000 in
set_option maxHeartbeats 4000000 in
theorem sd_A_add0_0 (X : Cx p s m args meth c b_A_add0 2 R_A TBL D dA B zE) (hr : meth.sig.returnType = (some .boolean)) (hin : meth.name = y_A_add0.name) {post : Int32 → wM → Prop} {x0 : Option Ro} {x1 : Option Ro} {M : wM} (h : wp_A_add0 post x0 x1 M) : AW p l e (headSpec w_A_add0 rm_A_add0).room s m args below meth c (MQ below (QI D dA B zE M0 ad0 post) args s 1 800 (wA B)) D dA B zE 2 ad0 M0 M 0 0 0 [(0, vR x0), (1, vR x1)] [] := by
  unfold wp_A_add0 at h
  refine aw_aload_n X 0 rfl d_A_add0_0 rfl ?_
  refine aw_dup X rfl d_A_add0_1 ?_
  refine aw_gI X hc_8 in_8 2 (by decide) LK_113 (fun _ _ h x hx => u_same (h _ LK_114) x hx) d_A_add0_2 (h.mono (fun a2 h => ?_))
  refine aw_iconst X (1) (by decide) d_A_add0_5 ?_
  refine aw_iadd X d_A_add0_6 ?_
  refine aw_pF (ty := .int) X hc_8 in_8 2 (by decide) ty_8 tyok_8 nm_8 LK_113 (fun _ _ h x hx => u_same (h _ LK_114) x hx) rfl (by decide +kernel) (fun _ => ⟨rfl, rfl⟩) d_A_add0_7 (h.mono (fun M7 h => ?_))
  refine aw_aload_n X 0 rfl d_A_add0_10 rfl ?_
  refine aw_aload_n X 1 rfl d_A_add0_11 rfl ?_
  refine aw_aload_n X 0 rfl d_A_add0_12 rfl ?_
  refine aw_gR X hc_8 in_8 0 (by decide) LK_13 (fun _ _ _ _ h => h) d_A_add0_13 (h.mono (fun a13 h => ?_))
  refine aw_aload_n X 0 rfl d_A_add0_16 rfl ?_
  refine aw_gI X hc_8 in_8 1 (by decide) LK_115 (fun _ _ _ _ h => h) d_A_add0_17 (h.mono (fun a17 h => ?_))
  obtain ⟨⟨r20, f20, e20, g20⟩, h⟩ := h
  cases e20
  refine aw_cVv X [_, _, _] (fun ad hlv => t_A_add1 l hlv h) (cwV 3 X.hts (gd_V LK_167 LK_168 LK_169 LK_42 LK_code_A_add1) rfl rfl rfl (by decide +kernel) ⟨(Nat.le_of_ble_eq_true rfl), (Nat.le_of_ble_eq_true rfl)⟩) ⟨8, f20, _, g20, hc_8, rfl⟩ rfl rfl (Nat.le_of_ble_eq_true rfl) d_A_add0_20 ⟨(Nat.le_of_ble_eq_true rfl), (Nat.le_of_ble_eq_true rfl)⟩ (fun M20 h => ?_)
  refine aw_iconst X (1) (by decide) d_A_add0_23 ?_
  exact aw_zret X hr (Or.inr rfl) (Nat.le_of_ble_eq_true rfl) (Nat.le_of_ble_eq_true rfl) d_A_add0_24 h
end
theorem t_A_add0 (l : Launch) {D : va_G} {dA : Nat → ClassId} {B : Nat} {zE : ZT} {M : wM} {ad : Ro → Nat} {post : Int32 → wM → Prop} {x0 : Option Ro} {x1 : Option Ro} (hlv : lvS M [vR x0, vR x1]) (h : wp_A_add0 post x0 x1 M) : Met l y_A_add0 w_A_add0 rm_A_add0 (PA D dA B zE M ad [vR x0, vR x1]) (QI D dA B zE M ad post) 1 800 (wA B) :=
  AW_start [vR x0, vR x1] [(0, vR x0), (1, vR x1)] hlv (by decide +kernel) rfl (fun _ hw => List.mem_cons_of_mem _ hw) rfl (Nat.le_of_ble_eq_true rfl) (fun p e s m args below meth c X hr hin => sd_A_add0_0 X hr hin h)
abbrev rm_S_add : Room := { frames := 7, cells := 2, slots := 804, locals := 191 }
section
variable {p : Program} {l : Launch} {e : Env} {s : State} {m : MethodId} {args : Array Value} {below : List Frame} {meth : Method} {c : Code} {D : va_G} {dA : Nat → ClassId} {B : Nat} {zE : ZT} {ad0 : Ro → Nat} {M0 : wM}
def wp_S_add_18 (post : Int32 → wM → Prop) (x0 : Option Ro) (x1 : Int32) (x2 : Int32) (x3 : Int32) (x4 : Int32) (M : wM) : Prop := post (-1) M
set_option maxRecDepth 100000 in
set_option maxHeartbeats 4000000 in
theorem sd_S_add_18 (X : Cx p s m args meth c b_S_add 6 R_S TBL D dA B zE) (hr : meth.sig.returnType = (some .int)) (hin : meth.name = y_S_add.name) {post : Int32 → wM → Prop} {x0 : Option Ro} {x1 : Int32} {x2 : Int32} {x3 : Int32} {x4 : Int32} {M : wM} (h : wp_S_add_18 post x0 x1 x2 x3 x4 M) : AW p l e (headSpec w_S_add rm_S_add).room s m args below meth c (MQ below (QI D dA B zE M0 ad0 post) args s 2 804 (wA B)) D dA B zE 6 ad0 M0 M 0 0 18 [(0, vR x0), (1, vI x1), (2, vI x2), (3, vI x3), (4, vI x4)] [] := by
  unfold wp_S_add_18 at h
  refine aw_iconst X (-1) (by decide) d_S_add_18 ?_
  exact aw_iret X hr (Nat.le_of_ble_eq_true rfl) (Nat.le_of_ble_eq_true rfl) d_S_add_19 h
def wp_S_add (post : Int32 → wM → Prop) (x0 : Option Ro) (x1 : Int32) (x2 : Int32) (x3 : Int32) (x4 : Int32) (M : wM) : Prop := gR M x0 0 2 (fun a1 => (a1 = none → wp_S_add_18 post x0 x1 x2 x3 x4 M) ∧ (¬ a1 = none → wp_S_isStatement (fun a12 M12 => (¬ a12 = 0 → gR M12 x0 0 2 (fun a21 => gR M12 a21 2 0 (fun a24 => cV M12 a24 8 (wp_A_size (fun a27 M27 => (a27 < (8 : Int32) → gR M27 x0 0 2 (fun a43 => gR M27 a43 2 0 (fun a46 => nO M27 5 fd_5 (fun a49 M49 => cV M49 a49 5 (wp_T_init (fun M58 => cV M58 a46 8 (wp_A_add0 (fun a61 M61 => post a27 M61) a46 a49 M58)) a49 x1 x2 x3 x4 M49))))) ∧ (¬ a27 < (8 : Int32) → post (-2) M27)) a24 M12)))) ∧ (a12 = 0 → wp_S_add_18 post x0 x1 x2 x3 x4 M12)) x1 x2 x3 x4 M))
set_option maxRecDepth 100000 in
set_option maxHeartbeats 4000000 in
theorem sd_S_add_0 (X : Cx p s m args meth c b_S_add 6 R_S TBL D dA B zE) (hr : meth.sig.returnType = (some .int)) (hin : meth.name = y_S_add.name) {post : Int32 → wM → Prop} {x0 : Option Ro} {x1 : Int32} {x2 : Int32} {x3 : Int32} {x4 : Int32} {M : wM} (h : wp_S_add post x0 x1 x2 x3 x4 M) : AW p l e (headSpec w_S_add rm_S_add).room s m args below meth c (MQ below (QI D dA B zE M0 ad0 post) args s 2 804 (wA B)) D dA B zE 6 ad0 M0 M 0 0 0 [(0, vR x0), (1, vI x1), (2, vI x2), (3, vI x3), (4, vI x4)] [] := by
  unfold wp_S_add at h
  refine aw_aload_n X 0 rfl d_S_add_0 rfl ?_
  refine aw_gR X hc_0 in_0 2 (by decide) LK_82 (fun _ _ _ _ h => h) d_S_add_1 (h.mono (fun a1 h => ?_))
  refine aw_ifnull (tgt := 18) X d_S_add_4 (by decide) (fun c => ?_) (fun c => ?_)
  · have h := h.1 c
    exact sd_S_add_18 X hr hin h
  · have h := h.2 c
    refine aw_iload_n X 1 rfl d_S_add_7 rfl ?_
    refine aw_iload_n X 2 rfl d_S_add_8 rfl ?_
    refine aw_iload_n X 3 rfl d_S_add_9 rfl ?_
    refine aw_iload X 4 rfl d_S_add_10 ?_
    refine aw_cSi X [_, _, _, _] (fun ad hlv => t_S_isStatement l hlv h) (cwS 4 X.hts (gd_S LK_171 LK_172 LK_122 LK_code_S_isStatement) rfl rfl rfl (by decide +kernel) ⟨(Nat.le_of_ble_eq_true rfl), (Nat.le_of_ble_eq_true rfl)⟩) rfl rfl (Nat.le_of_ble_eq_true rfl) d_S_add_12 ⟨(Nat.le_of_ble_eq_true rfl), (Nat.le_of_ble_eq_true rfl)⟩ (fun a12 M12 h => ?_)
    refine aw_if_ne (tgt := 20) X d_S_add_15 (by decide) (fun c => ?_) (fun c => ?_)
    · have h := h.1 c
      refine aw_aload_n X 0 rfl d_S_add_20 rfl ?_
      refine aw_gR X hc_0 in_0 2 (by decide) LK_82 (fun _ _ _ _ h => h) d_S_add_21 (h.mono (fun a21 h => ?_))
      refine aw_gR X hc_2 in_2 0 (by decide) LK_174 (fun _ _ _ _ h => h) d_S_add_24 (h.mono (fun a24 h => ?_))
      obtain ⟨⟨r27, f27, e27, g27⟩, h⟩ := h
      cases e27
      refine aw_cVi X [] (fun ad hlv => t_A_size l hlv h) (cwV 0 X.hts (gd_V LK_175 LK_176 LK_177 LK_42 LK_code_A_size) rfl rfl rfl (by decide +kernel) ⟨(Nat.le_of_ble_eq_true rfl), (Nat.le_of_ble_eq_true rfl)⟩) ⟨8, f27, _, g27, hc_8, rfl⟩ rfl rfl (Nat.le_of_ble_eq_true rfl) d_S_add_27 ⟨(Nat.le_of_ble_eq_true rfl), (Nat.le_of_ble_eq_true rfl)⟩ (fun a27 M27 h => ?_)
      refine aw_istore (lvn := [(5, _), (0, _), (1, _), (2, _), (3, _), (4, _)]) X d_S_add_30 (by decide) rfl ?_
      refine aw_iload X 0 rfl d_S_add_32 ?_
      refine aw_bipush X (8) (by decide) d_S_add_34 ?_
      refine aw_icmp_lt (tgt := 42) X d_S_add_36 (by decide) (fun c => ?_) (fun c => ?_)
      · have h := h.1 c
        refine aw_aload_n X 1 rfl d_S_add_42 rfl ?_
        refine aw_gR X hc_0 in_0 2 (by decide) LK_82 (fun _ _ _ _ h => h) d_S_add_43 (h.mono (fun a43 h => ?_))
        refine aw_gR X hc_2 in_2 0 (by decide) LK_174 (fun _ _ _ _ h => h) d_S_add_46 (h.mono (fun a46 h => ?_))
        refine aw_nO X hc_5 in_5 ty_5 tyok_5 LK_179 LK_180 LK_181 fs_5 fl_5 (Nat.le_of_ble_eq_true rfl) (Nat.le_of_ble_eq_true rfl) d_S_add_49 (h.mono (fun a49 M49 h => ?_))
        refine aw_dup X rfl d_S_add_52 ?_
        refine aw_iload_n X 2 rfl d_S_add_53 rfl ?_
        refine aw_iload_n X 3 rfl d_S_add_54 rfl ?_
        refine aw_iload_n X 4 rfl d_S_add_55 rfl ?_
        refine aw_iload X 5 rfl d_S_add_56 ?_
        obtain ⟨⟨r58, f58, e58, g58⟩, h⟩ := h
        cases e58
        refine aw_cIv X [_, _, _, _] (fun ad hlv => t_T_init l hlv h) (cwI 4 X.hts (gd_in LK_code_T_init) rfl rfl rfl (X.hts _ LK_181) (X.hts _ LK_183) (X.hts _ LK_184) rfl (by decide +kernel) ⟨(Nat.le_of_ble_eq_true rfl), (Nat.le_of_ble_eq_true rfl)⟩) rfl rfl (Nat.le_of_ble_eq_true rfl) d_S_add_58 ⟨(Nat.le_of_ble_eq_true rfl), (Nat.le_of_ble_eq_true rfl)⟩ (fun M58 h => ?_)
        obtain ⟨⟨r61, f61, e61, g61⟩, h⟩ := h
        cases e61
        refine aw_cVi X [_] (fun ad hlv => t_A_add0 l hlv h) (cwV 1 X.hts (gd_V LK_185 LK_186 LK_187 LK_42 LK_code_A_add0) rfl rfl rfl (by decide +kernel) ⟨(Nat.le_of_ble_eq_true rfl), (Nat.le_of_ble_eq_true rfl)⟩) ⟨8, f61, _, g61, hc_8, rfl⟩ rfl rfl (Nat.le_of_ble_eq_true rfl) d_S_add_61 ⟨(Nat.le_of_ble_eq_true rfl), (Nat.le_of_ble_eq_true rfl)⟩ (fun a61 M61 h => ?_)
        refine aw_pop X rfl d_S_add_64 ?_
        refine aw_iload X 0 rfl d_S_add_65 ?_
        exact aw_iret X hr (Nat.le_of_ble_eq_true rfl) (Nat.le_of_ble_eq_true rfl) d_S_add_67 h
      · have h := h.2 c
        refine aw_bipush X (-2) (by decide) d_S_add_39 ?_
        exact aw_iret X hr (Nat.le_of_ble_eq_true rfl) (Nat.le_of_ble_eq_true rfl) d_S_add_41 h
    · have h := h.2 c
      exact sd_S_add_18 X hr hin h
end
theorem t_S_add (l : Launch) {D : va_G} {dA : Nat → ClassId} {B : Nat} {zE : ZT} {M : wM} {ad : Ro → Nat} {post : Int32 → wM → Prop} {x0 : Option Ro} {x1 : Int32} {x2 : Int32} {x3 : Int32} {x4 : Int32} (hlv : lvS M [vR x0, vI x1, vI x2, vI x3, vI x4]) (h : wp_S_add post x0 x1 x2 x3 x4 M) : Met l y_S_add w_S_add rm_S_add (PA D dA B zE M ad [vR x0, vI x1, vI x2, vI x3, vI x4]) (QI D dA B zE M ad post) 2 804 (wA B) :=
  AW_start [vR x0, vI x1, vI x2, vI x3, vI x4] [(0, vR x0), (1, vI x1), (2, vI x2), (3, vI x3), (4, vI x4)] hlv (by decide +kernel) rfl (fun _ hw => List.mem_cons_of_mem _ hw) rfl (Nat.le_of_ble_eq_true rfl) (fun p e s m args below meth c X hr hin => sd_S_add_0 X hr hin h)
abbrev rm_Pc_checkIndex : Room := { frames := 0, cells := 0, slots := 0, locals := 0 }
section
variable {p : Program} {l : Launch} {e : Env} {s : State} {m : MethodId} {args : Array Value} {below : List Frame} {meth : Method} {c : Code} {D : va_G} {dA : Nat → ClassId} {B : Nat} {zE : ZT} {ad0 : Ro → Nat} {M0 : wM}
def wp_Pc_checkIndex_9 (post : Int32 → wM → Prop) (x0 : Int32) (x1 : Int32) (x2 : Option Ro) (M : wM) : Prop := False
set_option maxRecDepth 100000 in
set_option maxHeartbeats 4000000 in
theorem sd_Pc_checkIndex_9 (X : Cx p s m args meth c b_Pc_checkIndex 3 R_Pc TBL D dA B zE) (hr : meth.sig.returnType = (some .int)) (hin : meth.name = y_Pc_checkIndex.name) {post : Int32 → wM → Prop} {x0 : Int32} {x1 : Int32} {x2 : Option Ro} {M : wM} (h : wp_Pc_checkIndex_9 post x0 x1 x2 M) : AW p l e (headSpec w_Pc_checkIndex rm_Pc_checkIndex).room s m args below meth c (MQ below (QI D dA B zE M0 ad0 post) args s 0 0 (wA B)) D dA B zE 3 ad0 M0 M 0 0 9 [(0, vI x0), (1, vI x1), (2, vR x2)] [] := by
  unfold wp_Pc_checkIndex_9 at h
  refine aw_aload_n X 2 rfl d_Pc_checkIndex_9 rfl ?_
  refine aw_iload_n X 0 rfl d_Pc_checkIndex_10 rfl ?_
  refine aw_iload_n X 1 rfl d_Pc_checkIndex_11 rfl ?_
  exact h.elim
def wp_Pc_checkIndex (post : Int32 → wM → Prop) (x0 : Int32) (x1 : Int32) (x2 : Option Ro) (M : wM) : Prop := (x0 < 0 → wp_Pc_checkIndex_9 post x0 x1 x2 M) ∧ (¬ x0 < 0 → (x0 < x1 → post x0 M) ∧ (¬ x0 < x1 → wp_Pc_checkIndex_9 post x0 x1 x2 M))
set_option maxRecDepth 100000 in
set_option maxHeartbeats 4000000 in
theorem sd_Pc_checkIndex_0 (X : Cx p s m args meth c b_Pc_checkIndex 3 R_Pc TBL D dA B zE) (hr : meth.sig.returnType = (some .int)) (hin : meth.name = y_Pc_checkIndex.name) {post : Int32 → wM → Prop} {x0 : Int32} {x1 : Int32} {x2 : Option Ro} {M : wM} (h : wp_Pc_checkIndex post x0 x1 x2 M) : AW p l e (headSpec w_Pc_checkIndex rm_Pc_checkIndex).room s m args below meth c (MQ below (QI D dA B zE M0 ad0 post) args s 0 0 (wA B)) D dA B zE 3 ad0 M0 M 0 0 0 [(0, vI x0), (1, vI x1), (2, vR x2)] [] := by
  unfold wp_Pc_checkIndex at h
  refine aw_iload_n X 0 rfl d_Pc_checkIndex_0 rfl ?_
  refine aw_if_lt (tgt := 9) X d_Pc_checkIndex_1 (by decide) (fun c => ?_) (fun c => ?_)
  · have h := h.1 c
    exact sd_Pc_checkIndex_9 X hr hin h
  · have h := h.2 c
    refine aw_iload_n X 0 rfl d_Pc_checkIndex_4 rfl ?_
    refine aw_iload_n X 1 rfl d_Pc_checkIndex_5 rfl ?_
    refine aw_icmp_lt (tgt := 16) X d_Pc_checkIndex_6 (by decide) (fun c => ?_) (fun c => ?_)
    · have h := h.1 c
      refine aw_iload_n X 0 rfl d_Pc_checkIndex_16 rfl ?_
      exact aw_iret X hr (Nat.le_of_ble_eq_true rfl) (Nat.le_of_ble_eq_true rfl) d_Pc_checkIndex_17 h
    · have h := h.2 c
      exact sd_Pc_checkIndex_9 X hr hin h
end
theorem t_Pc_checkIndex (l : Launch) {D : va_G} {dA : Nat → ClassId} {B : Nat} {zE : ZT} {M : wM} {ad : Ro → Nat} {post : Int32 → wM → Prop} {x0 : Int32} {x1 : Int32} {x2 : Option Ro} (hlv : lvS M [vI x0, vI x1, vR x2]) (h : wp_Pc_checkIndex post x0 x1 x2 M) : Met l y_Pc_checkIndex w_Pc_checkIndex rm_Pc_checkIndex (PA D dA B zE M ad [vI x0, vI x1, vR x2]) (QI D dA B zE M ad post) 0 0 (wA B) :=
  AW_start [vI x0, vI x1, vR x2] [(0, vI x0), (1, vI x1), (2, vR x2)] hlv (by decide +kernel) rfl (fun _ hw => List.mem_cons_of_mem _ hw) rfl (Nat.le_of_ble_eq_true rfl) (fun p e s m args below meth c X hr hin => sd_Pc_checkIndex_0 X hr hin h)
abbrev rm_Oj_checkIndex : Room := { frames := 1, cells := 0, slots := 0, locals := 22 }
section
variable {p : Program} {l : Launch} {e : Env} {s : State} {m : MethodId} {args : Array Value} {below : List Frame} {meth : Method} {c : Code} {D : va_G} {dA : Nat → ClassId} {B : Nat} {zE : ZT} {ad0 : Ro → Nat} {M0 : wM}
def wp_Oj_checkIndex (post : Int32 → wM → Prop) (x0 : Int32) (x1 : Int32) (M : wM) : Prop := wp_Pc_checkIndex (fun a3 M3 => post a3 M3) x0 x1 none M
set_option maxRecDepth 100000 in
set_option maxHeartbeats 4000000 in
theorem sd_Oj_checkIndex_0 (X : Cx p s m args meth c b_Oj_checkIndex 2 R_Oj TBL D dA B zE) (hr : meth.sig.returnType = (some .int)) (hin : meth.name = y_Oj_checkIndex.name) {post : Int32 → wM → Prop} {x0 : Int32} {x1 : Int32} {M : wM} (h : wp_Oj_checkIndex post x0 x1 M) : AW p l e (headSpec w_Oj_checkIndex rm_Oj_checkIndex).room s m args below meth c (MQ below (QI D dA B zE M0 ad0 post) args s 0 0 (wA B)) D dA B zE 2 ad0 M0 M 0 0 0 [(0, vI x0), (1, vI x1)] [] := by
  unfold wp_Oj_checkIndex at h
  refine aw_iload_n X 0 rfl d_Oj_checkIndex_0 rfl ?_
  refine aw_iload_n X 1 rfl d_Oj_checkIndex_1 rfl ?_
  refine aw_null X d_Oj_checkIndex_2 ?_
  refine aw_cSi X [_, _, _] (fun ad hlv => t_Pc_checkIndex l hlv h) (va_cwS 3 X.hts (gd_S2 LK_189 LK_190 LK_191 LK_code_Pc_checkIndex) rfl rfl rfl (by decide +kernel) ⟨(Nat.le_of_ble_eq_true rfl), (Nat.le_of_ble_eq_true rfl)⟩) rfl rfl (Nat.le_of_ble_eq_true rfl) d_Oj_checkIndex_3 ⟨(Nat.le_of_ble_eq_true rfl), (Nat.le_of_ble_eq_true rfl)⟩ (fun a3 M3 h => ?_)
  exact aw_iret X hr (Nat.le_of_ble_eq_true rfl) (Nat.le_of_ble_eq_true rfl) d_Oj_checkIndex_6 h
end
theorem t_Oj_checkIndex (l : Launch) {D : va_G} {dA : Nat → ClassId} {B : Nat} {zE : ZT} {M : wM} {ad : Ro → Nat} {post : Int32 → wM → Prop} {x0 : Int32} {x1 : Int32} (hlv : lvS M [vI x0, vI x1]) (h : wp_Oj_checkIndex post x0 x1 M) : Met l y_Oj_checkIndex w_Oj_checkIndex rm_Oj_checkIndex (PA D dA B zE M ad [vI x0, vI x1]) (QI D dA B zE M ad post) 0 0 (wA B) :=
  AW_start [vI x0, vI x1] [(0, vI x0), (1, vI x1)] hlv (by decide +kernel) rfl (fun _ hw => List.mem_cons_of_mem _ hw) rfl (Nat.le_of_ble_eq_true rfl) (fun p e s m args below meth c X hr hin => sd_Oj_checkIndex_0 X hr hin h)
abbrev rm_A_elementData : Room := { frames := 0, cells := 0, slots := 0, locals := 0 }
section
variable {p : Program} {l : Launch} {e : Env} {s : State} {m : MethodId} {args : Array Value} {below : List Frame} {meth : Method} {c : Code} {D : va_G} {dA : Nat → ClassId} {B : Nat} {zE : ZT} {ad0 : Ro → Nat} {M0 : wM}
def wp_A_elementData (post : Option Ro → wM → Prop) (x0 : Option Ro) (x1 : Int32) (M : wM) : Prop := gR M x0 8 0 (fun a1 => lR M a1 x1 (fun a5 => post a5 M))
set_option maxRecDepth 100000 in
set_option maxHeartbeats 4000000 in
theorem sd_A_elementData_0 (X : Cx p s m args meth c b_A_elementData 2 R_A TBL D dA B zE) (hr : meth.sig.returnType = (some (.object "java/lang/Object"))) (hin : meth.name = y_A_elementData.name) {post : Option Ro → wM → Prop} {x0 : Option Ro} {x1 : Int32} {M : wM} (h : wp_A_elementData post x0 x1 M) : AW p l e (headSpec w_A_elementData rm_A_elementData).room s m args below meth c (MQ below (QR D dA B zE M0 ad0 post) args s 0 0 (wA B)) D dA B zE 2 ad0 M0 M 0 0 0 [(0, vR x0), (1, vI x1)] [] := by
  unfold wp_A_elementData at h
  refine aw_aload_n X 0 rfl d_A_elementData_0 rfl ?_
  refine aw_gR X hc_8 in_8 0 (by decide) LK_13 (fun _ _ _ _ h => h) d_A_elementData_1 (h.mono (fun a1 h => ?_))
  refine aw_iload_n X 1 rfl d_A_elementData_4 rfl ?_
  refine aw_lR X d_A_elementData_5 (h.mono (fun a5 h => ?_))
  exact aw_aret X hr (Or.inl ⟨_, rfl⟩) (Nat.le_of_ble_eq_true rfl) (Nat.le_of_ble_eq_true rfl) d_A_elementData_6 h
end
theorem t_A_elementData (l : Launch) {D : va_G} {dA : Nat → ClassId} {B : Nat} {zE : ZT} {M : wM} {ad : Ro → Nat} {post : Option Ro → wM → Prop} {x0 : Option Ro} {x1 : Int32} (hlv : lvS M [vR x0, vI x1]) (h : wp_A_elementData post x0 x1 M) : Met l y_A_elementData w_A_elementData rm_A_elementData (PA D dA B zE M ad [vR x0, vI x1]) (QR D dA B zE M ad post) 0 0 (wA B) :=
  AW_start [vR x0, vI x1] [(0, vR x0), (1, vI x1)] hlv (by decide +kernel) rfl (fun _ hw => List.mem_cons_of_mem _ hw) rfl (Nat.le_of_ble_eq_true rfl) (fun p e s m args below meth c X hr hin => sd_A_elementData_0 X hr hin h)
abbrev rm_A_get : Room := { frames := 2, cells := 0, slots := 0, locals := 43 }
section
variable {p : Program} {l : Launch} {e : Env} {s : State} {m : MethodId} {args : Array Value} {below : List Frame} {meth : Method} {c : Code} {D : va_G} {dA : Nat → ClassId} {B : Nat} {zE : ZT} {ad0 : Ro → Nat} {M0 : wM}
def wp_A_get (post : Option Ro → wM → Prop) (x0 : Option Ro) (x1 : Int32) (M : wM) : Prop := gI M x0 8 1 (fun a2 => wp_Oj_checkIndex (fun a5 M5 => cV M5 x0 8 (wp_A_elementData (fun a11 M11 => post a11 M11) x0 x1 M5)) x1 a2 M)
set_option maxRecDepth 100000 in
set_option maxHeartbeats 4000000 in
theorem sd_A_get_0 (X : Cx p s m args meth c b_A_get 2 R_A TBL D dA B zE) (hr : meth.sig.returnType = (some (.object "java/lang/Object"))) (hin : meth.name = y_A_get.name) {post : Option Ro → wM → Prop} {x0 : Option Ro} {x1 : Int32} {M : wM} (h : wp_A_get post x0 x1 M) : AW p l e (headSpec w_A_get rm_A_get).room s m args below meth c (MQ below (QR D dA B zE M0 ad0 post) args s 0 0 (wA B)) D dA B zE 2 ad0 M0 M 0 0 0 [(0, vR x0), (1, vI x1)] [] := by
  unfold wp_A_get at h
  refine aw_iload_n X 1 rfl d_A_get_0 rfl ?_
  refine aw_aload_n X 0 rfl d_A_get_1 rfl ?_
  refine aw_gI X hc_8 in_8 1 (by decide) LK_115 (fun _ _ _ _ h => h) d_A_get_2 (h.mono (fun a2 h => ?_))
  refine aw_cSi X [_, _] (fun ad hlv => t_Oj_checkIndex l hlv h) (va_cwS 2 X.hts (gd_S2 LK_193 LK_194 LK_195 LK_code_Oj_checkIndex) rfl rfl rfl (by decide +kernel) ⟨(Nat.le_of_ble_eq_true rfl), (Nat.le_of_ble_eq_true rfl)⟩) rfl rfl (Nat.le_of_ble_eq_true rfl) d_A_get_5 ⟨(Nat.le_of_ble_eq_true rfl), (Nat.le_of_ble_eq_true rfl)⟩ (fun a5 M5 h => ?_)
  refine aw_pop X rfl d_A_get_8 ?_
  refine aw_aload_n X 0 rfl d_A_get_9 rfl ?_
  refine aw_iload_n X 1 rfl d_A_get_10 rfl ?_
  obtain ⟨⟨r11, f11, e11, g11⟩, h⟩ := h
  cases e11
  refine aw_cVr X [_] (fun ad hlv => t_A_elementData l hlv h) (cwV 1 X.hts (gd_V LK_197 LK_198 LK_199 LK_42 LK_code_A_elementData) rfl rfl rfl (by decide +kernel) ⟨(Nat.le_of_ble_eq_true rfl), (Nat.le_of_ble_eq_true rfl)⟩) ⟨8, f11, _, g11, hc_8, rfl⟩ rfl rfl (Nat.le_of_ble_eq_true rfl) d_A_get_11 ⟨(Nat.le_of_ble_eq_true rfl), (Nat.le_of_ble_eq_true rfl)⟩ (fun a11 M11 h => ?_)
  exact aw_aret X hr (Or.inl ⟨_, rfl⟩) (Nat.le_of_ble_eq_true rfl) (Nat.le_of_ble_eq_true rfl) d_A_get_14 h
end
theorem t_A_get (l : Launch) {D : va_G} {dA : Nat → ClassId} {B : Nat} {zE : ZT} {M : wM} {ad : Ro → Nat} {post : Option Ro → wM → Prop} {x0 : Option Ro} {x1 : Int32} (hlv : lvS M [vR x0, vI x1]) (h : wp_A_get post x0 x1 M) : Met l y_A_get w_A_get rm_A_get (PA D dA B zE M ad [vR x0, vI x1]) (QR D dA B zE M ad post) 0 0 (wA B) :=
  AW_start [vR x0, vI x1] [(0, vR x0), (1, vI x1)] hlv (by decide +kernel) rfl (fun _ hw => List.mem_cons_of_mem _ hw) rfl (Nat.le_of_ble_eq_true rfl) (fun p e s m args below meth c X hr hin => sd_A_get_0 X hr hin h)
abbrev rm_P_isSound : Room := { frames := 3, cells := 0, slots := 0, locals := 64 }
section
variable {p : Program} {l : Launch} {e : Env} {s : State} {m : MethodId} {args : Array Value} {below : List Frame} {meth : Method} {c : Code} {D : va_G} {dA : Nat → ClassId} {B : Nat} {zE : ZT} {ad0 : Ro → Nat} {M0 : wM}
def wp_P_isSound_83 (post : Int32 → wM → Prop) (x0 : Option Ro) (x1 : Int32) (x2 : Int32) (s0 : Int32) (M : wM) : Prop := (s0 = 0 ∨ s0 = 1) ∧ post s0 M
set_option maxRecDepth 100000 in
set_option maxHeartbeats 4000000 in
theorem sd_P_isSound_83 (X : Cx p s m args meth c b_P_isSound 4 R_P TBL D dA B zE) (hr : meth.sig.returnType = (some .boolean)) (hin : meth.name = y_P_isSound.name) {post : Int32 → wM → Prop} {x0 : Option Ro} {x1 : Int32} {x2 : Int32} {s0 : Int32} {M : wM} (h : wp_P_isSound_83 post x0 x1 x2 s0 M) : AW p l e (headSpec w_P_isSound rm_P_isSound).room s m args below meth c (MQ below (QI D dA B zE M0 ad0 post) args s 0 0 (wA B)) D dA B zE 4 ad0 M0 M 0 0 83 [(0, vR x0), (1, vI x1), (2, vI x2)] [vI s0] := by
  unfold wp_P_isSound_83 at h
  exact aw_zret X hr h.1 (Nat.le_of_ble_eq_true rfl) (Nat.le_of_ble_eq_true rfl) d_P_isSound_83 h.2
def wp_P_isSound_68 (post : Int32 → wM → Prop) (k10 : Option Ro → Int32 → Int32 → wM → Prop) (x0 : Option Ro) (x1 : Int32) (x2 : Int32) (x3 : Option Ro) (M : wM) : Prop := k10 x0 x1 (x2 + 1) M
set_option maxRecDepth 100000 in
set_option maxHeartbeats 4000000 in
theorem sd_P_isSound_68 (X : Cx p s m args meth c b_P_isSound 4 R_P TBL D dA B zE) (hr : meth.sig.returnType = (some .boolean)) (hin : meth.name = y_P_isSound.name) {post : Int32 → wM → Prop} {k10 : Option Ro → Int32 → Int32 → wM → Prop} (hk10 : ∀ (x0 : Option Ro) (x1 : Int32) (x2 : Int32) (M : wM), k10 x0 x1 x2 M → AW p l e (headSpec w_P_isSound rm_P_isSound).room s m args below meth c (MQ below (QI D dA B zE M0 ad0 post) args s 0 0 (wA B)) D dA B zE 4 ad0 M0 M 0 0 10 [(0, vR x0), (1, vI x1), (2, vI x2)] []) {x0 : Option Ro} {x1 : Int32} {x2 : Int32} {x3 : Option Ro} {M : wM} (h : wp_P_isSound_68 post k10 x0 x1 x2 x3 M) : AW p l e (headSpec w_P_isSound rm_P_isSound).room s m args below meth c (MQ below (QI D dA B zE M0 ad0 post) args s 0 0 (wA B)) D dA B zE 4 ad0 M0 M 0 0 68 [(0, vR x0), (1, vI x1), (2, vI x2), (3, vR x3)] [] := by
  unfold wp_P_isSound_68 at h
  refine aw_iinc (y := x2 + 1) (lvn := [(2, _), (0, _), (1, _), (3, _)]) X 2 rfl d_P_isSound_68 rfl (by decide) rfl ?_
  refine aw_goto (tgt := 10) X d_P_isSound_71 (by decide) ?_
  refine aw_lv [1, 2, 0] rfl ?_
  exact hk10 _ _ _ _ h
def wp_P_isSound_50 (post : Int32 → wM → Prop) (k10 : Option Ro → Int32 → Int32 → wM → Prop) (x0 : Option Ro) (x1 : Int32) (x2 : Int32) (x3 : Option Ro) (M : wM) : Prop := gI M x3 5 0 (fun a51 => (¬ a51 = (9 : Int32) → wp_P_isSound_68 post k10 x0 x1 x2 x3 M) ∧ (a51 = (9 : Int32) → gI M x0 2 1 (fun a60 => (¬ a60 = 0 → wp_P_isSound_68 post k10 x0 x1 x2 x3 M) ∧ (a60 = 0 → post 0 M))))
set_option maxRecDepth 100000 in
set_option maxHeartbeats 4000000 in
theorem sd_P_isSound_50 (X : Cx p s m args meth c b_P_isSound 4 R_P TBL D dA B zE) (hr : meth.sig.returnType = (some .boolean)) (hin : meth.name = y_P_isSound.name) {post : Int32 → wM → Prop} {k10 : Option Ro → Int32 → Int32 → wM → Prop} (hk10 : ∀ (x0 : Option Ro) (x1 : Int32) (x2 : Int32) (M : wM), k10 x0 x1 x2 M → AW p l e (headSpec w_P_isSound rm_P_isSound).room s m args below meth c (MQ below (QI D dA B zE M0 ad0 post) args s 0 0 (wA B)) D dA B zE 4 ad0 M0 M 0 0 10 [(0, vR x0), (1, vI x1), (2, vI x2)] []) {x0 : Option Ro} {x1 : Int32} {x2 : Int32} {x3 : Option Ro} {M : wM} (h : wp_P_isSound_50 post k10 x0 x1 x2 x3 M) : AW p l e (headSpec w_P_isSound rm_P_isSound).room s m args below meth c (MQ below (QI D dA B zE M0 ad0 post) args s 0 0 (wA B)) D dA B zE 4 ad0 M0 M 0 0 50 [(0, vR x0), (1, vI x1), (2, vI x2), (3, vR x3)] [] := by
  unfold wp_P_isSound_50 at h
  refine aw_aload_n X 3 rfl d_P_isSound_50 rfl ?_
  refine aw_gI X hc_5 in_5 0 (by decide) LK_201 (fun _ _ _ _ h => h) d_P_isSound_51 (h.mono (fun a51 h => ?_))
  refine aw_bipush X (9) (by decide) d_P_isSound_54 ?_
  refine aw_icmp_ne (tgt := 68) X d_P_isSound_56 (by decide) (fun c => ?_) (fun c => ?_)
  · have h := h.1 c
    exact sd_P_isSound_68 X hr hin hk10 h
  · have h := h.2 c
    refine aw_aload_n X 0 rfl d_P_isSound_59 rfl ?_
    refine aw_gI X hc_2 in_2 1 (by decide) LK_47 (fun _ _ _ _ h => h) d_P_isSound_60 (h.mono (fun a60 h => ?_))
    refine aw_if_ne (tgt := 68) X d_P_isSound_63 (by decide) (fun c => ?_) (fun c => ?_)
    · have h := h.1 c
      exact sd_P_isSound_68 X hr hin hk10 h
    · have h := h.2 c
      refine aw_iconst X (0) (by decide) d_P_isSound_66 ?_
      exact aw_zret X hr (Or.inl rfl) (Nat.le_of_ble_eq_true rfl) (Nat.le_of_ble_eq_true rfl) d_P_isSound_67 h
def wp_P_isSound_10 (post : Int32 → wM → Prop) : Nat → Option Ro → Int32 → Int32 → wM → Prop
  | 0, _, _, _, _ => False
  | n + 1, x0, x1, x2, M => (x1 ≤ x2 → (x1 ≤ 0 → wp_P_isSound_83 post x0 x1 x2 0 M) ∧ (¬ x1 ≤ 0 → wp_P_isSound_83 post x0 x1 x2 1 M)) ∧ (¬ x1 ≤ x2 → gR M x0 2 0 (fun a16 => cV M a16 8 (wp_A_get (fun a20 M20 => ck M20 a20 5 (gI M20 a20 5 0 (fun a28 => (¬ a28 = (7 : Int32) → wp_P_isSound_50 post (fun x0 x1 x2 M => wp_P_isSound_10 post n x0 x1 x2 M) x0 x1 x2 a20 M20) ∧ (a28 = (7 : Int32) → gI M20 a20 5 2 (fun a37 => (a37 ≤ ((x1 - 1) - x2) → wp_P_isSound_50 post (fun x0 x1 x2 M => wp_P_isSound_10 post n x0 x1 x2 M) x0 x1 x2 a20 M20) ∧ (¬ a37 ≤ ((x1 - 1) - x2) → post 0 M20)))))) a16 x2 M)))
set_option maxRecDepth 100000 in
set_option maxHeartbeats 4000000 in
theorem sd_P_isSound_10 (X : Cx p s m args meth c b_P_isSound 4 R_P TBL D dA B zE) (hr : meth.sig.returnType = (some .boolean)) (hin : meth.name = y_P_isSound.name) {post : Int32 → wM → Prop} : ∀ (n : Nat) (x0 : Option Ro) (x1 : Int32) (x2 : Int32) (M : wM), wp_P_isSound_10 post n x0 x1 x2 M → AW p l e (headSpec w_P_isSound rm_P_isSound).room s m args below meth c (MQ below (QI D dA B zE M0 ad0 post) args s 0 0 (wA B)) D dA B zE 4 ad0 M0 M 0 0 10 [(0, vR x0), (1, vI x1), (2, vI x2)] [] := by
  intro n
  induction n with
  | zero => intro x0 x1 x2 M h; exact h.elim
  | succ n ih =>
    intro x0 x1 x2 M h
    unfold wp_P_isSound_10 at h
    refine aw_iload_n X 2 rfl d_P_isSound_10 rfl ?_
    refine aw_iload_n X 1 rfl d_P_isSound_11 rfl ?_
    refine aw_icmp_ge (tgt := 74) X d_P_isSound_12 (by decide) (fun c => ?_) (fun c => ?_)
    · have h := h.1 c
      refine aw_iload_n X 1 rfl d_P_isSound_74 rfl ?_
      refine aw_if_le (tgt := 82) X d_P_isSound_75 (by decide) (fun c => ?_) (fun c => ?_)
      · have h := h.1 c
        refine aw_iconst X (0) (by decide) d_P_isSound_82 ?_
        exact sd_P_isSound_83 X hr hin h
      · have h := h.2 c
        refine aw_iconst X (1) (by decide) d_P_isSound_78 ?_
        refine aw_goto (tgt := 83) X d_P_isSound_79 (by decide) ?_
        exact sd_P_isSound_83 X hr hin h
    · have h := h.2 c
      refine aw_aload_n X 0 rfl d_P_isSound_15 rfl ?_
      refine aw_gR X hc_2 in_2 0 (by decide) LK_46 (fun _ _ _ _ h => h) d_P_isSound_16 (h.mono (fun a16 h => ?_))
      refine aw_iload_n X 2 rfl d_P_isSound_19 rfl ?_
      obtain ⟨⟨r20, f20, e20, g20⟩, h⟩ := h
      cases e20
      refine aw_cVr X [_] (fun ad hlv => t_A_get l hlv h) (cwV 1 X.hts (gd_V LK_202 LK_203 LK_204 LK_42 LK_code_A_get) rfl rfl rfl (by decide +kernel) ⟨(Nat.le_of_ble_eq_true rfl), (Nat.le_of_ble_eq_true rfl)⟩) ⟨8, f20, _, g20, hc_8, rfl⟩ rfl rfl (Nat.le_of_ble_eq_true rfl) d_P_isSound_20 ⟨(Nat.le_of_ble_eq_true rfl), (Nat.le_of_ble_eq_true rfl)⟩ (fun a20 M20 h => ?_)
      refine aw_ck X hc_5 LK_206 d_P_isSound_23 ⟨h.1, ?_⟩
      have h := h.2
      refine aw_astore_n (lvn := [(3, _), (0, _), (1, _), (2, _)]) X d_P_isSound_26 rfl (by decide) rfl ?_
      refine aw_aload_n X 0 rfl d_P_isSound_27 rfl ?_
      refine aw_gI X hc_5 in_5 0 (by decide) LK_201 (fun _ _ _ _ h => h) d_P_isSound_28 (h.mono (fun a28 h => ?_))
      refine aw_bipush X (7) (by decide) d_P_isSound_31 ?_
      refine aw_icmp_ne (tgt := 50) X d_P_isSound_33 (by decide) (fun c => ?_) (fun c => ?_)
      · have h := h.1 c
        refine aw_lv [1, 2, 3, 0] rfl ?_
        exact sd_P_isSound_50 X hr hin ih h
      · have h := h.2 c
        refine aw_aload_n X 0 rfl d_P_isSound_36 rfl ?_
        refine aw_gI X hc_5 in_5 2 (by decide) LK_207 (fun _ _ _ _ h => h) d_P_isSound_37 (h.mono (fun a37 h => ?_))
        refine aw_iload_n X 2 rfl d_P_isSound_40 rfl ?_
        refine aw_iconst X (1) (by decide) d_P_isSound_41 ?_
        refine aw_isub X d_P_isSound_42 ?_
        refine aw_iload_n X 3 rfl d_P_isSound_43 rfl ?_
        refine aw_isub X d_P_isSound_44 ?_
        refine aw_icmp_le (tgt := 50) X d_P_isSound_45 (by decide) (fun c => ?_) (fun c => ?_)
        · have h := h.1 c
          refine aw_lv [1, 2, 3, 0] rfl ?_
          exact sd_P_isSound_50 X hr hin ih h
        · have h := h.2 c
          refine aw_iconst X (0) (by decide) d_P_isSound_48 ?_
          exact aw_zret X hr (Or.inl rfl) (Nat.le_of_ble_eq_true rfl) (Nat.le_of_ble_eq_true rfl) d_P_isSound_49 h
def wp_P_isSound (post : Int32 → wM → Prop) (x0 : Option Ro) (M : wM) : Prop := gR M x0 2 0 (fun a1 => cV M a1 8 (wp_A_size (fun a4 M4 => (∃ n, wp_P_isSound_10 post n x0 a4 0 M4)) a1 M))
set_option maxRecDepth 100000 in
set_option maxHeartbeats 4000000 in
theorem sd_P_isSound_0 (X : Cx p s m args meth c b_P_isSound 4 R_P TBL D dA B zE) (hr : meth.sig.returnType = (some .boolean)) (hin : meth.name = y_P_isSound.name) {post : Int32 → wM → Prop} {x0 : Option Ro} {M : wM} (h : wp_P_isSound post x0 M) : AW p l e (headSpec w_P_isSound rm_P_isSound).room s m args below meth c (MQ below (QI D dA B zE M0 ad0 post) args s 0 0 (wA B)) D dA B zE 4 ad0 M0 M 0 0 0 [(0, vR x0)] [] := by
  unfold wp_P_isSound at h
  refine aw_aload_n X 0 rfl d_P_isSound_0 rfl ?_
  refine aw_gR X hc_2 in_2 0 (by decide) LK_46 (fun _ _ _ _ h => h) d_P_isSound_1 (h.mono (fun a1 h => ?_))
  obtain ⟨⟨r4, f4, e4, g4⟩, h⟩ := h
  cases e4
  refine aw_cVi X [] (fun ad hlv => t_A_size l hlv h) (cwV 0 X.hts (gd_V LK_208 LK_176 LK_177 LK_42 LK_code_A_size) rfl rfl rfl (by decide +kernel) ⟨(Nat.le_of_ble_eq_true rfl), (Nat.le_of_ble_eq_true rfl)⟩) ⟨8, f4, _, g4, hc_8, rfl⟩ rfl rfl (Nat.le_of_ble_eq_true rfl) d_P_isSound_4 ⟨(Nat.le_of_ble_eq_true rfl), (Nat.le_of_ble_eq_true rfl)⟩ (fun a4 M4 h => ?_)
  refine aw_istore_n (lvn := [(1, _), (0, _)]) X d_P_isSound_7 rfl (by decide) rfl ?_
  refine aw_iconst X (0) (by decide) d_P_isSound_8 ?_
  refine aw_istore_n (lvn := [(2, _), (1, _), (0, _)]) X d_P_isSound_9 rfl (by decide) rfl ?_
  refine aw_lv [2, 1, 0] rfl ?_
  obtain ⟨n, h⟩ := h
  exact sd_P_isSound_10 X hr hin n _ _ _ _ h
end
theorem t_P_isSound (l : Launch) {D : va_G} {dA : Nat → ClassId} {B : Nat} {zE : ZT} {M : wM} {ad : Ro → Nat} {post : Int32 → wM → Prop} {x0 : Option Ro} (hlv : lvS M [vR x0]) (h : wp_P_isSound post x0 M) : Met l y_P_isSound w_P_isSound rm_P_isSound (PA D dA B zE M ad [vR x0]) (QI D dA B zE M ad post) 0 0 (wA B) :=
  AW_start [vR x0] [(0, vR x0)] hlv (by decide +kernel) rfl (fun _ hw => List.mem_cons_of_mem _ hw) rfl (Nat.le_of_ble_eq_true rfl) (fun p e s m args below meth c X hr hin => sd_P_isSound_0 X hr hin h)
abbrev rm_S_deploy : Room := { frames := 4, cells := 0, slots := 0, locals := 87 }
section
variable {p : Program} {l : Launch} {e : Env} {s : State} {m : MethodId} {args : Array Value} {below : List Frame} {meth : Method} {c : Code} {D : va_G} {dA : Nat → ClassId} {B : Nat} {zE : ZT} {ad0 : Ro → Nat} {M0 : wM}
def wp_S_deploy (post : Int32 → wM → Prop) (x0 : Option Ro) (M : wM) : Prop := gR M x0 0 2 (fun a1 => (¬ a1 = none → gR M x0 0 2 (fun a10 => pF M x0 0 2 (vR none) (fun M16 => cV M16 a10 2 (wp_P_isSound (fun a20 M20 => (¬ a20 = 0 → pF M20 a10 2 2 (vI 1) (fun M31 => post 0 M31)) ∧ (a20 = 0 → post (-3) M20)) a10 M16)))) ∧ (a1 = none → post (-1) M))
set_option maxRecDepth 100000 in
set_option maxHeartbeats 4000000 in
theorem sd_S_deploy_0 (X : Cx p s m args meth c b_S_deploy 2 R_S TBL D dA B zE) (hr : meth.sig.returnType = (some .int)) (hin : meth.name = y_S_deploy.name) {post : Int32 → wM → Prop} {x0 : Option Ro} {M : wM} (h : wp_S_deploy post x0 M) : AW p l e (headSpec w_S_deploy rm_S_deploy).room s m args below meth c (MQ below (QI D dA B zE M0 ad0 post) args s 0 0 (wA B)) D dA B zE 2 ad0 M0 M 0 0 0 [(0, vR x0)] [] := by
  unfold wp_S_deploy at h
  refine aw_aload_n X 0 rfl d_S_deploy_0 rfl ?_
  refine aw_gR X hc_0 in_0 2 (by decide) LK_82 (fun _ _ _ _ h => h) d_S_deploy_1 (h.mono (fun a1 h => ?_))
  refine aw_ifnonnull (tgt := 9) X d_S_deploy_4 (by decide) (fun c => ?_) (fun c => ?_)
  · have h := h.1 c
    refine aw_aload_n X 0 rfl d_S_deploy_9 rfl ?_
    refine aw_gR X hc_0 in_0 2 (by decide) LK_82 (fun _ _ _ _ h => h) d_S_deploy_10 (h.mono (fun a10 h => ?_))
    refine aw_astore_n (lvn := [(1, _), (0, _)]) X d_S_deploy_13 rfl (by decide) rfl ?_
    refine aw_aload_n X 1 rfl d_S_deploy_14 rfl ?_
    refine aw_null X d_S_deploy_15 ?_
    refine aw_pF (ty := (.object "PartitionedProcedureStore$Procedure")) X hc_0 in_0 2 (by decide) ty_0 tyok_0 nm_0 LK_82 (fun _ _ _ _ h => h) rfl (by decide +kernel) nfO d_S_deploy_16 (h.mono (fun M16 h => ?_))
    refine aw_aload_n X 0 rfl d_S_deploy_19 rfl ?_
    obtain ⟨⟨r20, f20, e20, g20⟩, h⟩ := h
    cases e20
    refine aw_cVi X [] (fun ad hlv => t_P_isSound l hlv h) (cwV 0 X.hts (gd_V LK_209 LK_210 LK_211 LK_109 LK_code_P_isSound) rfl rfl rfl (by decide +kernel) ⟨(Nat.le_of_ble_eq_true rfl), (Nat.le_of_ble_eq_true rfl)⟩) ⟨2, f20, _, g20, hc_2, rfl⟩ rfl rfl (Nat.le_of_ble_eq_true rfl) d_S_deploy_20 ⟨(Nat.le_of_ble_eq_true rfl), (Nat.le_of_ble_eq_true rfl)⟩ (fun a20 M20 h => ?_)
    refine aw_if_ne (tgt := 29) X d_S_deploy_23 (by decide) (fun c => ?_) (fun c => ?_)
    · have h := h.1 c
      refine aw_aload_n X 0 rfl d_S_deploy_29 rfl ?_
      refine aw_iconst X (1) (by decide) d_S_deploy_30 ?_
      refine aw_pF (ty := .boolean) X hc_2 in_2 2 (by decide) ty_2 tyok_2 nm_2 LK_124 (fun _ _ _ _ h => h) rfl (by decide +kernel) (fun _ => ⟨rfl, rfl⟩) d_S_deploy_31 (h.mono (fun M31 h => ?_))
      refine aw_iconst X (0) (by decide) d_S_deploy_34 ?_
      exact aw_iret X hr (Nat.le_of_ble_eq_true rfl) (Nat.le_of_ble_eq_true rfl) d_S_deploy_35 h
    · have h := h.2 c
      refine aw_bipush X (-3) (by decide) d_S_deploy_26 ?_
      exact aw_iret X hr (Nat.le_of_ble_eq_true rfl) (Nat.le_of_ble_eq_true rfl) d_S_deploy_28 h
  · have h := h.2 c
    refine aw_iconst X (-1) (by decide) d_S_deploy_7 ?_
    exact aw_iret X hr (Nat.le_of_ble_eq_true rfl) (Nat.le_of_ble_eq_true rfl) d_S_deploy_8 h
end
theorem t_S_deploy (l : Launch) {D : va_G} {dA : Nat → ClassId} {B : Nat} {zE : ZT} {M : wM} {ad : Ro → Nat} {post : Int32 → wM → Prop} {x0 : Option Ro} (hlv : lvS M [vR x0]) (h : wp_S_deploy post x0 M) : Met l y_S_deploy w_S_deploy rm_S_deploy (PA D dA B zE M ad [vR x0]) (QI D dA B zE M ad post) 0 0 (wA B) :=
  AW_start [vR x0] [(0, vR x0)] hlv (by decide +kernel) rfl (fun _ hw => List.mem_cons_of_mem _ hw) rfl (Nat.le_of_ble_eq_true rfl) (fun p e s m args below meth c X hr hin => sd_S_deploy_0 X hr hin h)
abbrev rm_K_init : Room := { frames := 1, cells := 0, slots := 0, locals := 40 }
section
variable {p : Program} {l : Launch} {e : Env} {s : State} {m : MethodId} {args : Array Value} {below : List Frame} {meth : Method} {c : Code} {D : va_G} {dA : Nat → ClassId} {B : Nat} {zE : ZT} {ad0 : Ro → Nat} {M0 : wM}
def wp_K_init (post : wM → Prop) (x0 : Option Ro) (x1 : Int32) (x2 : Int32) (x3 : Option Ro) (x4 : Int32) (x5 : Int32) (x6 : Int32) (M : wM) : Prop := nn x0 (pF M x0 7 0 (vI x1) (fun M6 => pF M6 x0 7 1 (vI x2) (fun M11 => pF M11 x0 7 2 (vR x3) (fun M16 => pF M16 x0 7 3 (vI x4) (fun M22 => pF M22 x0 7 4 (vI x5) (fun M28 => pF M28 x0 7 5 (vI x6) (fun M34 => post M34)))))))
set_option maxRecDepth 100000 in
set_option maxHeartbeats 4000000 in
theorem sd_K_init_0 (X : Cx p s m args meth c b_K_init 7 R_K TBL D dA B zE) (hr : meth.sig.returnType = none) (hin : meth.name = y_K_init.name) {post : wM → Prop} {x0 : Option Ro} {x1 : Int32} {x2 : Int32} {x3 : Option Ro} {x4 : Int32} {x5 : Int32} {x6 : Int32} {M : wM} (h : wp_K_init post x0 x1 x2 x3 x4 x5 x6 M) : AW p l e (headSpec w_K_init rm_K_init).room s m args below meth c (MQ below (QV D dA B zE M0 ad0 post) args s 0 0 (wA B)) D dA B zE 7 ad0 M0 M 0 0 0 [(0, vR x0), (1, vI x1), (2, vI x2), (3, vR x3), (4, vI x4), (5, vI x5), (6, vI x6)] [] := by
  unfold wp_K_init at h
  refine aw_aload_n X 0 rfl d_K_init_0 rfl ?_
  obtain ⟨⟨r1, e1⟩, h⟩ := h
  cases e1
  refine aw_objInit X LK_213 LK_1 LK_objcode (Nat.le_of_ble_eq_true rfl) (Nat.le_of_ble_eq_true rfl) d_K_init_1 ?_
  refine aw_aload_n X 0 rfl d_K_init_4 rfl ?_
  refine aw_iload_n X 1 rfl d_K_init_5 rfl ?_
  refine aw_pFF (ty := .int) X hc_7 in_7 0 (by decide) ty_7 tyok_7 nm_7 LK_214 (fun _ _ _ _ h => h) rfl hin rfl (by decide +kernel) (fun _ => ⟨rfl, rfl⟩) d_K_init_6 (h.mono (fun M6 h => ?_))
  refine aw_aload_n X 0 rfl d_K_init_9 rfl ?_
  refine aw_iload_n X 2 rfl d_K_init_10 rfl ?_
  refine aw_pFF (ty := .int) X hc_7 in_7 1 (by decide) ty_7 tyok_7 nm_7 LK_215 (fun _ _ _ _ h => h) rfl hin rfl (by decide +kernel) (fun _ => ⟨rfl, rfl⟩) d_K_init_11 (h.mono (fun M11 h => ?_))
  refine aw_aload_n X 0 rfl d_K_init_14 rfl ?_
  refine aw_aload_n X 3 rfl d_K_init_15 rfl ?_
  refine aw_pFF (ty := (.object "PartitionedProcedureStore$Procedure")) X hc_7 in_7 2 (by decide) ty_7 tyok_7 nm_7 LK_216 (fun _ _ _ _ h => h) rfl hin rfl (by decide +kernel) nfO d_K_init_16 (h.mono (fun M16 h => ?_))
  refine aw_aload_n X 0 rfl d_K_init_19 rfl ?_
  refine aw_iload X 4 rfl d_K_init_20 ?_
  refine aw_pFF (ty := .int) X hc_7 in_7 3 (by decide) ty_7 tyok_7 nm_7 LK_217 (fun _ _ _ _ h => h) rfl hin rfl (by decide +kernel) (fun _ => ⟨rfl, rfl⟩) d_K_init_22 (h.mono (fun M22 h => ?_))
  refine aw_aload_n X 0 rfl d_K_init_25 rfl ?_
  refine aw_iload X 5 rfl d_K_init_26 ?_
  refine aw_pFF (ty := .int) X hc_7 in_7 4 (by decide) ty_7 tyok_7 nm_7 LK_218 (fun _ _ _ _ h => h) rfl hin rfl (by decide +kernel) (fun _ => ⟨rfl, rfl⟩) d_K_init_28 (h.mono (fun M28 h => ?_))
  refine aw_aload_n X 0 rfl d_K_init_31 rfl ?_
  refine aw_iload X 6 rfl d_K_init_32 ?_
  refine aw_pFF (ty := .int) X hc_7 in_7 5 (by decide) ty_7 tyok_7 nm_7 LK_219 (fun _ _ _ _ h => h) rfl hin rfl (by decide +kernel) (fun _ => ⟨rfl, rfl⟩) d_K_init_34 (h.mono (fun M34 h => ?_))
  exact aw_vret X hr (Nat.le_of_ble_eq_true rfl) (Nat.le_of_ble_eq_true rfl) d_K_init_37 h
end
theorem t_K_init (l : Launch) {D : va_G} {dA : Nat → ClassId} {B : Nat} {zE : ZT} {M : wM} {ad : Ro → Nat} {post : wM → Prop} {x0 : Option Ro} {x1 : Int32} {x2 : Int32} {x3 : Option Ro} {x4 : Int32} {x5 : Int32} {x6 : Int32} (hlv : lvS M [vR x0, vI x1, vI x2, vR x3, vI x4, vI x5, vI x6]) (h : wp_K_init post x0 x1 x2 x3 x4 x5 x6 M) : Met l y_K_init w_K_init rm_K_init (PA D dA B zE M ad [vR x0, vI x1, vI x2, vR x3, vI x4, vI x5, vI x6]) (QV D dA B zE M ad post) 0 0 (wA B) :=
  AW_start [vR x0, vI x1, vI x2, vR x3, vI x4, vI x5, vI x6] [(0, vR x0), (1, vI x1), (2, vI x2), (3, vR x3), (4, vI x4), (5, vI x5), (6, vI x6)] hlv (by decide +kernel) rfl (fun _ hw => List.mem_cons_of_mem _ hw) rfl (Nat.le_of_ble_eq_true rfl) (fun p e s m args below meth c X hr hin => sd_K_init_0 X hr hin h)
abbrev rm_C_begin : Room := { frames := 0, cells := 0, slots := 0, locals := 0 }
section
variable {p : Program} {l : Launch} {e : Env} {s : State} {m : MethodId} {args : Array Value} {below : List Frame} {meth : Method} {c : Code} {D : va_G} {dA : Nat → ClassId} {B : Nat} {zE : ZT} {ad0 : Ro → Nat} {M0 : wM}
def wp_C_begin (post : wM → Prop) (x0 : Option Ro) (x1 : Int32) (M : wM) : Prop := pF M x0 1 0 (vI 1) (fun M2 => pF M2 x0 1 1 (vI x1) (fun M7 => pF M7 x0 1 2 (vI 0) (fun M12 => post M12)))
set_option maxRecDepth 100000 in
set_option maxHeartbeats 4000000 in
theorem sd_C_begin_0 (X : Cx p s m args meth c b_C_begin 2 R_C TBL D dA B zE) (hr : meth.sig.returnType = none) (hin : meth.name = y_C_begin.name) {post : wM → Prop} {x0 : Option Ro} {x1 : Int32} {M : wM} (h : wp_C_begin post x0 x1 M) : AW p l e (headSpec w_C_begin rm_C_begin).room s m args below meth c (MQ below (QV D dA B zE M0 ad0 post) args s 0 0 (wA B)) D dA B zE 2 ad0 M0 M 0 0 0 [(0, vR x0), (1, vI x1)] [] := by
  unfold wp_C_begin at h
  refine aw_aload_n X 0 rfl d_C_begin_0 rfl ?_
  refine aw_iconst X (1) (by decide) d_C_begin_1 ?_
  refine aw_pF (ty := .int) X hc_1 in_1 0 (by decide) ty_1 tyok_1 nm_1 LK_50 (fun _ _ _ _ h => h) rfl (by decide +kernel) (fun _ => ⟨rfl, rfl⟩) d_C_begin_2 (h.mono (fun M2 h => ?_))
  refine aw_aload_n X 0 rfl d_C_begin_5 rfl ?_
  refine aw_iload_n X 1 rfl d_C_begin_6 rfl ?_
  refine aw_pF (ty := .int) X hc_1 in_1 1 (by decide) ty_1 tyok_1 nm_1 LK_51 (fun _ _ _ _ h => h) rfl (by decide +kernel) (fun _ => ⟨rfl, rfl⟩) d_C_begin_7 (h.mono (fun M7 h => ?_))
  refine aw_aload_n X 0 rfl d_C_begin_10 rfl ?_
  refine aw_iconst X (0) (by decide) d_C_begin_11 ?_
  refine aw_pF (ty := .boolean) X hc_1 in_1 2 (by decide) ty_1 tyok_1 nm_1 LK_52 (fun _ _ _ _ h => h) rfl (by decide +kernel) (fun _ => ⟨rfl, rfl⟩) d_C_begin_12 (h.mono (fun M12 h => ?_))
  exact aw_vret X hr (Nat.le_of_ble_eq_true rfl) (Nat.le_of_ble_eq_true rfl) d_C_begin_15 h
end
theorem t_C_begin (l : Launch) {D : va_G} {dA : Nat → ClassId} {B : Nat} {zE : ZT} {M : wM} {ad : Ro → Nat} {post : wM → Prop} {x0 : Option Ro} {x1 : Int32} (hlv : lvS M [vR x0, vI x1]) (h : wp_C_begin post x0 x1 M) : Met l y_C_begin w_C_begin rm_C_begin (PA D dA B zE M ad [vR x0, vI x1]) (QV D dA B zE M ad post) 0 0 (wA B) :=
  AW_start [vR x0, vI x1] [(0, vR x0), (1, vI x1)] hlv (by decide +kernel) rfl (fun _ hw => List.mem_cons_of_mem _ hw) rfl (Nat.le_of_ble_eq_true rfl) (fun p e s m args below meth c X hr hin => sd_C_begin_0 X hr hin h)
abbrev rm_S_waitAtAllSites : Room := { frames := 7, cells := 5, slots := 4000, locals := 191 }
section
variable {p : Program} {l : Launch} {e : Env} {s : State} {m : MethodId} {args : Array Value} {below : List Frame} {meth : Method} {c : Code} {D : va_G} {dA : Nat → ClassId} {B : Nat} {zE : ZT} {ad0 : Ro → Nat} {M0 : wM}
def wp_S_waitAtAllSites_39 (post : wM → Prop) (x0 : Option Ro) (x1 : Option Ro) (x2 : Option Ro) (x3 : Int32) (x4 : Int32) (M : wM) : Prop := post M
set_option maxRecDepth 100000 in
set_option maxHeartbeats 4000000 in
theorem sd_S_waitAtAllSites_39 (X : Cx p s m args meth c b_S_waitAtAllSites 6 R_S TBL D dA B zE) (hr : meth.sig.returnType = none) (hin : meth.name = y_S_waitAtAllSites.name) {post : wM → Prop} {x0 : Option Ro} {x1 : Option Ro} {x2 : Option Ro} {x3 : Int32} {x4 : Int32} {M : wM} (h : wp_S_waitAtAllSites_39 post x0 x1 x2 x3 x4 M) : AW p l e (headSpec w_S_waitAtAllSites rm_S_waitAtAllSites).room s m args below meth c (MQ below (QV D dA B zE M0 ad0 post) args s 5 4000 (wA B)) D dA B zE 6 ad0 M0 M 4 3200 39 [(0, vR x0), (1, vR x1), (2, vR x2), (3, vI x3), (4, vI x4)] [] := by
  unfold wp_S_waitAtAllSites_39 at h
  exact aw_vret X hr (Nat.le_of_ble_eq_true rfl) (Nat.le_of_ble_eq_true rfl) d_S_waitAtAllSites_39 h
def wp_S_waitAtAllSites (post : wM → Prop) (x0 : Option Ro) (x1 : Option Ro) (M : wM) : Prop := gR M x0 0 3 (fun a1 => aN M a1 (fun a6 => (a6 ≤ (0 : Int32) → wp_S_waitAtAllSites_39 post x0 x1 a1 a6 0 M) ∧ (¬ a6 ≤ (0 : Int32) → lR M a1 0 (fun a20 => gR M a20 4 0 (fun a25 => cV M a25 8 (wp_A_add0 (fun a29 M29 => (a6 ≤ (0 + 1 : Int32) → wp_S_waitAtAllSites_39 post x0 x1 a1 a6 (0 + 1) M29) ∧ (¬ a6 ≤ (0 + 1 : Int32) → lR M29 a1 (0 + 1) (fun a20 => gR M29 a20 4 0 (fun a25 => cV M29 a25 8 (wp_A_add0 (fun a29 M29 => (a6 ≤ ((0 + 1) + 1 : Int32) → wp_S_waitAtAllSites_39 post x0 x1 a1 a6 ((0 + 1) + 1) M29) ∧ (¬ a6 ≤ ((0 + 1) + 1 : Int32) → lR M29 a1 ((0 + 1) + 1) (fun a20 => gR M29 a20 4 0 (fun a25 => cV M29 a25 8 (wp_A_add0 (fun a29 M29 => (a6 ≤ (((0 + 1) + 1) + 1 : Int32) → wp_S_waitAtAllSites_39 post x0 x1 a1 a6 (((0 + 1) + 1) + 1) M29) ∧ (¬ a6 ≤ (((0 + 1) + 1) + 1 : Int32) → lR M29 a1 (((0 + 1) + 1) + 1) (fun a20 => gR M29 a20 4 0 (fun a25 => cV M29 a25 8 (wp_A_add0 (fun a29 M29 => (a6 ≤ ((((0 + 1) + 1) + 1) + 1 : Int32) → wp_S_waitAtAllSites_39 post x0 x1 a1 a6 ((((0 + 1) + 1) + 1) + 1) M29) ∧ (¬ a6 ≤ ((((0 + 1) + 1) + 1) + 1 : Int32) → lR M29 a1 ((((0 + 1) + 1) + 1) + 1) (fun a20 => gR M29 a20 4 0 (fun a25 => cV M29 a25 8 (wp_A_add0 (fun a29 M29 => False) a25 x1 M29))))) a25 x1 M29))))) a25 x1 M29))))) a25 x1 M29))))) a25 x1 M))))))
set_option maxRecDepth 100000 in
set_option maxHeartbeats 4000000 in
theorem sd_S_waitAtAllSites_0 (X : Cx p s m args meth c b_S_waitAtAllSites 6 R_S TBL D dA B zE) (hr : meth.sig.returnType = none) (hin : meth.name = y_S_waitAtAllSites.name) {post : wM → Prop} {x0 : Option Ro} {x1 : Option Ro} {M : wM} (h : wp_S_waitAtAllSites post x0 x1 M) : AW p l e (headSpec w_S_waitAtAllSites rm_S_waitAtAllSites).room s m args below meth c (MQ below (QV D dA B zE M0 ad0 post) args s 5 4000 (wA B)) D dA B zE 6 ad0 M0 M 0 0 0 [(0, vR x0), (1, vR x1)] [] := by
  unfold wp_S_waitAtAllSites at h
  refine aw_aload_n X 0 rfl d_S_waitAtAllSites_0 rfl ?_
  refine aw_gR X hc_0 in_0 3 (by decide) LK_66 (fun _ _ _ _ h => h) d_S_waitAtAllSites_1 (h.mono (fun a1 h => ?_))
  refine aw_astore_n (lvn := [(2, _), (0, _), (1, _)]) X d_S_waitAtAllSites_4 rfl (by decide) rfl ?_
  refine aw_aload_n X 0 rfl d_S_waitAtAllSites_5 rfl ?_
  refine aw_aN X d_S_waitAtAllSites_6 (h.mono (fun a6 h => ?_))
  refine aw_istore_n (lvn := [(3, _), (2, _), (0, _), (1, _)]) X d_S_waitAtAllSites_7 rfl (by decide) rfl ?_
  refine aw_iconst X (0) (by decide) d_S_waitAtAllSites_8 ?_
  refine aw_istore (lvn := [(4, _), (3, _), (2, _), (0, _), (1, _)]) X d_S_waitAtAllSites_9 (by decide) rfl ?_
  refine aw_iload X 0 rfl d_S_waitAtAllSites_11 ?_
  refine aw_iload_n X 1 rfl d_S_waitAtAllSites_13 rfl ?_
  refine aw_icmp_ge (tgt := 39) X d_S_waitAtAllSites_14 (by decide) (fun c => ?_) (fun c => ?_)
  · have h := h.1 c
    refine aw_lv [3, 4, 2, 1, 0] rfl ?_
    refine aw_widen (ce := 4) (sl := 3200) (Nat.le_of_ble_eq_true rfl) (Nat.le_of_ble_eq_true rfl) ?_
    exact sd_S_waitAtAllSites_39 X hr hin h
  · have h := h.2 c
    refine aw_aload_n X 2 rfl d_S_waitAtAllSites_17 rfl ?_
    refine aw_iload X 0 rfl d_S_waitAtAllSites_18 ?_
    refine aw_lR X d_S_waitAtAllSites_20 (h.mono (fun a20 h => ?_))
    refine aw_astore (lvn := [(5, _), (4, _), (3, _), (2, _), (0, _), (1, _)]) X d_S_waitAtAllSites_21 (by decide) rfl ?_
    refine aw_aload X 0 rfl d_S_waitAtAllSites_23 ?_
    refine aw_gR X hc_4 in_4 0 (by decide) LK_220 (fun _ _ _ _ h => h) d_S_waitAtAllSites_25 (h.mono (fun a25 h => ?_))
    refine aw_aload_n X 5 rfl d_S_waitAtAllSites_28 rfl ?_
    obtain ⟨⟨r29, f29, e29, g29⟩, h⟩ := h
    cases e29
    refine aw_cVi X [_] (fun ad hlv => t_A_add0 l hlv h) (cwV 1 X.hts (gd_V LK_185 LK_186 LK_187 LK_42 LK_code_A_add0) rfl rfl rfl (by decide +kernel) ⟨(Nat.le_of_ble_eq_true rfl), (Nat.le_of_ble_eq_true rfl)⟩) ⟨8, f29, _, g29, hc_8, rfl⟩ rfl rfl (Nat.le_of_ble_eq_true rfl) d_S_waitAtAllSites_29 ⟨(Nat.le_of_ble_eq_true rfl), (Nat.le_of_ble_eq_true rfl)⟩ (fun a29 M29 h => ?_)
    refine aw_pop X rfl d_S_waitAtAllSites_32 ?_
    refine aw_iinc (y := 0 + 1) (lvn := [(4, _), (5, _), (3, _), (2, _), (0, _), (1, _)]) X 1 rfl d_S_waitAtAllSites_33 rfl (by decide) rfl ?_
    refine aw_goto (tgt := 11) X d_S_waitAtAllSites_36 (by decide) ?_
    refine aw_iload X 0 rfl d_S_waitAtAllSites_11 ?_
    refine aw_iload_n X 2 rfl d_S_waitAtAllSites_13 rfl ?_
    refine aw_icmp_ge (tgt := 39) X d_S_waitAtAllSites_14 (by decide) (fun c => ?_) (fun c => ?_)
    · have h := h.1 c
      refine aw_lv [4, 5, 3, 2, 0] rfl ?_
      refine aw_widen (ce := 4) (sl := 3200) (Nat.le_of_ble_eq_true rfl) (Nat.le_of_ble_eq_true rfl) ?_
      exact sd_S_waitAtAllSites_39 X hr hin h
    · have h := h.2 c
      refine aw_aload_n X 3 rfl d_S_waitAtAllSites_17 rfl ?_
      refine aw_iload X 0 rfl d_S_waitAtAllSites_18 ?_
      refine aw_lR X d_S_waitAtAllSites_20 (h.mono (fun a20 h => ?_))
      refine aw_astore (lvn := [(5, _), (4, _), (3, _), (2, _), (0, _), (1, _)]) X d_S_waitAtAllSites_21 (by decide) rfl ?_
      refine aw_aload X 0 rfl d_S_waitAtAllSites_23 ?_
      refine aw_gR X hc_4 in_4 0 (by decide) LK_220 (fun _ _ _ _ h => h) d_S_waitAtAllSites_25 (h.mono (fun a25 h => ?_))
      refine aw_aload_n X 5 rfl d_S_waitAtAllSites_28 rfl ?_
      obtain ⟨⟨r29, f29, e29, g29⟩, h⟩ := h
      cases e29
      refine aw_cVi X [_] (fun ad hlv => t_A_add0 l hlv h) (cwV 1 X.hts (gd_V LK_185 LK_186 LK_187 LK_42 LK_code_A_add0) rfl rfl rfl (by decide +kernel) ⟨(Nat.le_of_ble_eq_true rfl), (Nat.le_of_ble_eq_true rfl)⟩) ⟨8, f29, _, g29, hc_8, rfl⟩ rfl rfl (Nat.le_of_ble_eq_true rfl) d_S_waitAtAllSites_29 ⟨(Nat.le_of_ble_eq_true rfl), (Nat.le_of_ble_eq_true rfl)⟩ (fun a29 M29 h => ?_)
      refine aw_pop X rfl d_S_waitAtAllSites_32 ?_
      refine aw_iinc (y := (0 + 1) + 1) (lvn := [(4, _), (5, _), (3, _), (2, _), (0, _), (1, _)]) X 1 rfl d_S_waitAtAllSites_33 rfl (by decide) rfl ?_
      refine aw_goto (tgt := 11) X d_S_waitAtAllSites_36 (by decide) ?_
      refine aw_iload X 0 rfl d_S_waitAtAllSites_11 ?_
      refine aw_iload_n X 2 rfl d_S_waitAtAllSites_13 rfl ?_
      refine aw_icmp_ge (tgt := 39) X d_S_waitAtAllSites_14 (by decide) (fun c => ?_) (fun c => ?_)
      · have h := h.1 c
        refine aw_lv [4, 5, 3, 2, 0] rfl ?_
        refine aw_widen (ce := 4) (sl := 3200) (Nat.le_of_ble_eq_true rfl) (Nat.le_of_ble_eq_true rfl) ?_
        exact sd_S_waitAtAllSites_39 X hr hin h
      · have h := h.2 c
        refine aw_aload_n X 3 rfl d_S_waitAtAllSites_17 rfl ?_
        refine aw_iload X 0 rfl d_S_waitAtAllSites_18 ?_
        refine aw_lR X d_S_waitAtAllSites_20 (h.mono (fun a20 h => ?_))
        refine aw_astore (lvn := [(5, _), (4, _), (3, _), (2, _), (0, _), (1, _)]) X d_S_waitAtAllSites_21 (by decide) rfl ?_
        refine aw_aload X 0 rfl d_S_waitAtAllSites_23 ?_
        refine aw_gR X hc_4 in_4 0 (by decide) LK_220 (fun _ _ _ _ h => h) d_S_waitAtAllSites_25 (h.mono (fun a25 h => ?_))
        refine aw_aload_n X 5 rfl d_S_waitAtAllSites_28 rfl ?_
        obtain ⟨⟨r29, f29, e29, g29⟩, h⟩ := h
        cases e29
        refine aw_cVi X [_] (fun ad hlv => t_A_add0 l hlv h) (cwV 1 X.hts (gd_V LK_185 LK_186 LK_187 LK_42 LK_code_A_add0) rfl rfl rfl (by decide +kernel) ⟨(Nat.le_of_ble_eq_true rfl), (Nat.le_of_ble_eq_true rfl)⟩) ⟨8, f29, _, g29, hc_8, rfl⟩ rfl rfl (Nat.le_of_ble_eq_true rfl) d_S_waitAtAllSites_29 ⟨(Nat.le_of_ble_eq_true rfl), (Nat.le_of_ble_eq_true rfl)⟩ (fun a29 M29 h => ?_)
        refine aw_pop X rfl d_S_waitAtAllSites_32 ?_
        refine aw_iinc (y := ((0 + 1) + 1) + 1) (lvn := [(4, _), (5, _), (3, _), (2, _), (0, _), (1, _)]) X 1 rfl d_S_waitAtAllSites_33 rfl (by decide) rfl ?_
        refine aw_goto (tgt := 11) X d_S_waitAtAllSites_36 (by decide) ?_
        refine aw_iload X 0 rfl d_S_waitAtAllSites_11 ?_
        refine aw_iload_n X 2 rfl d_S_waitAtAllSites_13 rfl ?_
        refine aw_icmp_ge (tgt := 39) X d_S_waitAtAllSites_14 (by decide) (fun c => ?_) (fun c => ?_)
        · have h := h.1 c
          refine aw_lv [4, 5, 3, 2, 0] rfl ?_
          refine aw_widen (ce := 4) (sl := 3200) (Nat.le_of_ble_eq_true rfl) (Nat.le_of_ble_eq_true rfl) ?_
          exact sd_S_waitAtAllSites_39 X hr hin h
        · have h := h.2 c
          refine aw_aload_n X 3 rfl d_S_waitAtAllSites_17 rfl ?_
          refine aw_iload X 0 rfl d_S_waitAtAllSites_18 ?_
          refine aw_lR X d_S_waitAtAllSites_20 (h.mono (fun a20 h => ?_))
          refine aw_astore (lvn := [(5, _), (4, _), (3, _), (2, _), (0, _), (1, _)]) X d_S_waitAtAllSites_21 (by decide) rfl ?_
          refine aw_aload X 0 rfl d_S_waitAtAllSites_23 ?_
          refine aw_gR X hc_4 in_4 0 (by decide) LK_220 (fun _ _ _ _ h => h) d_S_waitAtAllSites_25 (h.mono (fun a25 h => ?_))
          refine aw_aload_n X 5 rfl d_S_waitAtAllSites_28 rfl ?_
          obtain ⟨⟨r29, f29, e29, g29⟩, h⟩ := h
          cases e29
          refine aw_cVi X [_] (fun ad hlv => t_A_add0 l hlv h) (cwV 1 X.hts (gd_V LK_185 LK_186 LK_187 LK_42 LK_code_A_add0) rfl rfl rfl (by decide +kernel) ⟨(Nat.le_of_ble_eq_true rfl), (Nat.le_of_ble_eq_true rfl)⟩) ⟨8, f29, _, g29, hc_8, rfl⟩ rfl rfl (Nat.le_of_ble_eq_true rfl) d_S_waitAtAllSites_29 ⟨(Nat.le_of_ble_eq_true rfl), (Nat.le_of_ble_eq_true rfl)⟩ (fun a29 M29 h => ?_)
          refine aw_pop X rfl d_S_waitAtAllSites_32 ?_
          refine aw_iinc (y := (((0 + 1) + 1) + 1) + 1) (lvn := [(4, _), (5, _), (3, _), (2, _), (0, _), (1, _)]) X 1 rfl d_S_waitAtAllSites_33 rfl (by decide) rfl ?_
          refine aw_goto (tgt := 11) X d_S_waitAtAllSites_36 (by decide) ?_
          refine aw_iload X 0 rfl d_S_waitAtAllSites_11 ?_
          refine aw_iload_n X 2 rfl d_S_waitAtAllSites_13 rfl ?_
          refine aw_icmp_ge (tgt := 39) X d_S_waitAtAllSites_14 (by decide) (fun c => ?_) (fun c => ?_)
          · have h := h.1 c
            refine aw_lv [4, 5, 3, 2, 0] rfl ?_
            exact sd_S_waitAtAllSites_39 X hr hin h
          · have h := h.2 c
            refine aw_aload_n X 3 rfl d_S_waitAtAllSites_17 rfl ?_
            refine aw_iload X 0 rfl d_S_waitAtAllSites_18 ?_
            refine aw_lR X d_S_waitAtAllSites_20 (h.mono (fun a20 h => ?_))
            refine aw_astore (lvn := [(5, _), (4, _), (3, _), (2, _), (0, _), (1, _)]) X d_S_waitAtAllSites_21 (by decide) rfl ?_
            refine aw_aload X 0 rfl d_S_waitAtAllSites_23 ?_
            refine aw_gR X hc_4 in_4 0 (by decide) LK_220 (fun _ _ _ _ h => h) d_S_waitAtAllSites_25 (h.mono (fun a25 h => ?_))
            refine aw_aload_n X 5 rfl d_S_waitAtAllSites_28 rfl ?_
            obtain ⟨⟨r29, f29, e29, g29⟩, h⟩ := h
            cases e29
            refine aw_cVi X [_] (fun ad hlv => t_A_add0 l hlv h) (cwV 1 X.hts (gd_V LK_185 LK_186 LK_187 LK_42 LK_code_A_add0) rfl rfl rfl (by decide +kernel) ⟨(Nat.le_of_ble_eq_true rfl), (Nat.le_of_ble_eq_true rfl)⟩) ⟨8, f29, _, g29, hc_8, rfl⟩ rfl rfl (Nat.le_of_ble_eq_true rfl) d_S_waitAtAllSites_29 ⟨(Nat.le_of_ble_eq_true rfl), (Nat.le_of_ble_eq_true rfl)⟩ (fun a29 M29 h => ?_)
            refine aw_pop X rfl d_S_waitAtAllSites_32 ?_
            refine aw_iinc (y := ((((0 + 1) + 1) + 1) + 1) + 1) (lvn := [(4, _), (5, _), (3, _), (2, _), (0, _), (1, _)]) X 1 rfl d_S_waitAtAllSites_33 rfl (by decide) rfl ?_
            refine aw_goto (tgt := 11) X d_S_waitAtAllSites_36 (by decide) ?_
            exact h.elim
end
theorem t_S_waitAtAllSites (l : Launch) {D : va_G} {dA : Nat → ClassId} {B : Nat} {zE : ZT} {M : wM} {ad : Ro → Nat} {post : wM → Prop} {x0 : Option Ro} {x1 : Option Ro} (hlv : lvS M [vR x0, vR x1]) (h : wp_S_waitAtAllSites post x0 x1 M) : Met l y_S_waitAtAllSites w_S_waitAtAllSites rm_S_waitAtAllSites (PA D dA B zE M ad [vR x0, vR x1]) (QV D dA B zE M ad post) 5 4000 (wA B) :=
  AW_start [vR x0, vR x1] [(0, vR x0), (1, vR x1)] hlv (by decide +kernel) rfl (fun _ hw => List.mem_cons_of_mem _ hw) rfl (Nat.le_of_ble_eq_true rfl) (fun p e s m args below meth c X hr hin => sd_S_waitAtAllSites_0 X hr hin h)
