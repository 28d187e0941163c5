abbrev rm_Ma_floorMod : Room := { frames := 0, cells := 0, slots := 0, locals := 0 }
section
variable {p : Program} {l : Launch} {e : Env} {s : State} {m : MethodId} {args : Array Value} {below : List Frame} {meth : Method} {c : Code} {D : va_G} {dA : Nat → ClassId} {B : Nat} {zE : ZT} {ad0 : Ro → Nat} {M0 : wM}
def wp_Ma_floorMod_18 (post : Int32 → wM → Prop) (x0 : Int32) (x1 : Int32) (x2 : Int32) (M : wM) : Prop := post x2 M
set_option maxRecDepth 100000 in
set_option maxHeartbeats 4000000 in
theorem sd_Ma_floorMod_18 (X : Cx p s m args meth c b_Ma_floorMod 3 R_Ma TBL D dA B zE) (hr : meth.sig.returnType = (some .int)) (hin : meth.name = y_Ma_floorMod.name) {post : Int32 → wM → Prop} {x0 : Int32} {x1 : Int32} {x2 : Int32} {M : wM} (h : wp_Ma_floorMod_18 post x0 x1 x2 M) : AW p l e (headSpec w_Ma_floorMod rm_Ma_floorMod).room s m args below meth c (MQ below (QI D dA B zE M0 ad0 post) args s 0 0 (wA B)) D dA B zE 3 ad0 M0 M 0 0 18 [(0, vI x0), (1, vI x1), (2, vI x2)] [] := by
  unfold wp_Ma_floorMod_18 at h
  refine aw_iload_n X 2 rfl d_Ma_floorMod_18 rfl ?_
  exact aw_iret X hr (Nat.le_of_ble_eq_true rfl) (Nat.le_of_ble_eq_true rfl) d_Ma_floorMod_19 h
def wp_Ma_floorMod (post : Int32 → wM → Prop) (x0 : Int32) (x1 : Int32) (M : wM) : Prop := (¬ x1 = 0) ∧ ((0 ≤ (x0 ^^^ x1) → wp_Ma_floorMod_18 post x0 x1 (x0 - x0 / x1 * x1) M) ∧ (¬ 0 ≤ (x0 ^^^ x1) → ((x0 - x0 / x1 * x1) = 0 → wp_Ma_floorMod_18 post x0 x1 (x0 - x0 / x1 * x1) M) ∧ (¬ (x0 - x0 / x1 * x1) = 0 → post ((x0 - x0 / x1 * x1) + x1) M)))
set_option maxRecDepth 100000 in
set_option maxHeartbeats 4000000 in
theorem sd_Ma_floorMod_0 (X : Cx p s m args meth c b_Ma_floorMod 3 R_Ma TBL D dA B zE) (hr : meth.sig.returnType = (some .int)) (hin : meth.name = y_Ma_floorMod.name) {post : Int32 → wM → Prop} {x0 : Int32} {x1 : Int32} {M : wM} (h : wp_Ma_floorMod post x0 x1 M) : AW p l e (headSpec w_Ma_floorMod rm_Ma_floorMod).room s m args below meth c (MQ below (QI D dA B zE M0 ad0 post) args s 0 0 (wA B)) D dA B zE 3 ad0 M0 M 0 0 0 [(0, vI x0), (1, vI x1)] [] := by
  unfold wp_Ma_floorMod at h
  refine aw_iload_n X 0 rfl d_Ma_floorMod_0 rfl ?_
  refine aw_iload_n X 1 rfl d_Ma_floorMod_1 rfl ?_
  refine aw_irem X h.1 d_Ma_floorMod_2 ?_
  have h := h.2
  refine aw_istore_n (lvn := [(2, _), (0, _), (1, _)]) X d_Ma_floorMod_3 rfl (by decide) rfl ?_
  refine aw_iload_n X 1 rfl d_Ma_floorMod_4 rfl ?_
  refine aw_iload_n X 2 rfl d_Ma_floorMod_5 rfl ?_
  refine aw_ixor X d_Ma_floorMod_6 ?_
  refine aw_if_ge (tgt := 18) X d_Ma_floorMod_7 (by decide) (fun c => ?_) (fun c => ?_)
  · have h := h.1 c
    refine aw_lv [1, 2, 0] rfl ?_
    exact sd_Ma_floorMod_18 X hr hin h
  · have h := h.2 c
    refine aw_iload_n X 0 rfl d_Ma_floorMod_10 rfl ?_
    refine aw_if_eq (tgt := 18) X d_Ma_floorMod_11 (by decide) (fun c => ?_) (fun c => ?_)
    · have h := h.1 c
      refine aw_lv [1, 2, 0] rfl ?_
      exact sd_Ma_floorMod_18 X hr hin h
    · have h := h.2 c
      refine aw_iload_n X 0 rfl d_Ma_floorMod_14 rfl ?_
      refine aw_iload_n X 2 rfl d_Ma_floorMod_15 rfl ?_
      refine aw_iadd X d_Ma_floorMod_16 ?_
      exact aw_iret X hr (Nat.le_of_ble_eq_true rfl) (Nat.le_of_ble_eq_true rfl) d_Ma_floorMod_17 h
end
theorem t_Ma_floorMod (l : Launch) {D : va_G} {dA : Nat → ClassId} {B : Nat} {zE : ZT} {M : wM} {ad : Ro → Nat} {post : Int32 → wM → Prop} {x0 : Int32} {x1 : Int32} (hlv : lvS M [vI x0, vI x1]) (h : wp_Ma_floorMod post x0 x1 M) : Met l y_Ma_floorMod w_Ma_floorMod rm_Ma_floorMod (PA D dA B zE M ad [vI x0, vI x1]) (QI D dA B zE M ad post) 0 0 (wA B) :=
  AW_startF [vI x0, vI x1] [(0, vI x0), (1, vI x1)] hlv (by decide +kernel) rfl (fun _ hw => List.mem_cons_of_mem _ hw) rfl (Nat.le_of_ble_eq_true rfl) (fun p e s m args below meth c X hr hin => sd_Ma_floorMod_0 X hr hin h)
abbrev rm_K_home : Room := { frames := 1, cells := 0, slots := 0, locals := 22 }
section
variable {p : Program} {l : Launch} {e : Env} {s : State} {m : MethodId} {args : Array Value} {below : List Frame} {meth : Method} {c : Code} {D : va_G} {dA : Nat → ClassId} {B : Nat} {zE : ZT} {ad0 : Ro → Nat} {M0 : wM}
def wp_K_home (post : Int32 → wM → Prop) (x0 : Option Ro) (x1 : Int32) (M : wM) : Prop := gI M x0 7 3 (fun a1 => wp_Ma_floorMod (fun a5 M5 => post a5 M5) a1 x1 M)
set_option maxRecDepth 100000 in
set_option maxHeartbeats 4000000 in
theorem sd_K_home_0 (X : Cx p s m args meth c b_K_home 2 R_K TBL D dA B zE) (hr : meth.sig.returnType = (some .int)) (hin : meth.name = y_K_home.name) {post : Int32 → wM → Prop} {x0 : Option Ro} {x1 : Int32} {M : wM} (h : wp_K_home post x0 x1 M) : AW p l e (headSpec w_K_home rm_K_home).room s m args below meth c (MQ below (QI D dA B zE M0 ad0 post) args s 0 0 (wA B)) D dA B zE 2 ad0 M0 M 0 0 0 [(0, vR x0), (1, vI x1)] [] := by
  unfold wp_K_home at h
  refine aw_aload_n X 0 rfl d_K_home_0 rfl ?_
  refine aw_gI X hc_7 in_7 3 (by decide) LK_217 (fun _ _ _ _ h => h) d_K_home_1 (h.mono (fun a1 h => ?_))
  refine aw_iload_n X 1 rfl d_K_home_4 rfl ?_
  refine aw_cSi X [_, _] (fun ad hlv => t_Ma_floorMod l hlv h) (va_cwS 2 X.hts (gd_S2 LK_221 LK_222 LK_96 LK_code_Ma_floorMod) rfl rfl rfl (by decide +kernel) ⟨(Nat.le_of_ble_eq_true rfl), (Nat.le_of_ble_eq_true rfl)⟩) rfl rfl (Nat.le_of_ble_eq_true rfl) d_K_home_5 ⟨(Nat.le_of_ble_eq_true rfl), (Nat.le_of_ble_eq_true rfl)⟩ (fun a5 M5 h => ?_)
  exact aw_iret X hr (Nat.le_of_ble_eq_true rfl) (Nat.le_of_ble_eq_true rfl) d_K_home_8 h
end
theorem t_K_home (l : Launch) {D : va_G} {dA : Nat → ClassId} {B : Nat} {zE : ZT} {M : wM} {ad : Ro → Nat} {post : Int32 → wM → Prop} {x0 : Option Ro} {x1 : Int32} (hlv : lvS M [vR x0, vI x1]) (h : wp_K_home post x0 x1 M) : Met l y_K_home w_K_home rm_K_home (PA D dA B zE M ad [vR x0, vI x1]) (QI D dA B zE M ad post) 0 0 (wA B) :=
  AW_start [vR x0, vI x1] [(0, vR x0), (1, vI x1)] hlv (by decide +kernel) rfl (fun _ hw => List.mem_cons_of_mem _ hw) rfl (Nat.le_of_ble_eq_true rfl) (fun p e s m args below meth c X hr hin => sd_K_home_0 X hr hin h)
abbrev rm_S_invoke : Room := { frames := 8, cells := 7, slots := 4806, locals := 216 }
section
variable {p : Program} {l : Launch} {e : Env} {s : State} {m : MethodId} {args : Array Value} {below : List Frame} {meth : Method} {c : Code} {D : va_G} {dA : Nat → ClassId} {B : Nat} {zE : ZT} {ad0 : Ro → Nat} {M0 : wM}
def wp_S_invoke_162 (post : Int32 → wM → Prop) (x0 : Option Ro) (x1 : Int32) (x2 : Int32) (x3 : Int32) (x4 : Int32) (x5 : Int32) (x6 : Option Ro) (M : wM) : Prop := gI M x0 0 11 (fun a163 => post a163 M)
set_option maxRecDepth 100000 in
set_option maxHeartbeats 4000000 in
theorem sd_S_invoke_162 (X : Cx p s m args meth c b_S_invoke 7 R_S TBL D dA B zE) (hr : meth.sig.returnType = (some .int)) (hin : meth.name = y_S_invoke.name) {post : Int32 → wM → Prop} {x0 : Option Ro} {x1 : Int32} {x2 : Int32} {x3 : Int32} {x4 : Int32} {x5 : Int32} {x6 : Option Ro} {M : wM} (h : wp_S_invoke_162 post x0 x1 x2 x3 x4 x5 x6 M) : AW p l e (headSpec w_S_invoke rm_S_invoke).room s m args below meth c (MQ below (QI D dA B zE M0 ad0 post) args s 7 4806 (wA B)) D dA B zE 7 ad0 M0 M 7 4806 162 [(0, vR x0), (1, vI x1), (2, vI x2), (3, vI x3), (4, vI x4), (5, vI x5), (6, vR x6)] [] := by
  unfold wp_S_invoke_162 at h
  refine aw_aload_n X 0 rfl d_S_invoke_162 rfl ?_
  refine aw_gI X hc_0 in_0 11 (by decide) LK_92 (fun _ _ _ _ h => h) d_S_invoke_163 (h.mono (fun a163 h => ?_))
  exact aw_iret X hr (Nat.le_of_ble_eq_true rfl) (Nat.le_of_ble_eq_true rfl) d_S_invoke_166 h
def wp_S_invoke_44 (post : Int32 → wM → Prop) (x0 : Option Ro) (x1 : Int32) (x2 : Int32) (x3 : Int32) (x4 : Int32) (x5 : Int32) (M : wM) : Prop := post (-1) M
set_option maxRecDepth 100000 in
set_option maxHeartbeats 4000000 in
theorem sd_S_invoke_44 (X : Cx p s m args meth c b_S_invoke 7 R_S TBL D dA B zE) (hr : meth.sig.returnType = (some .int)) (hin : meth.name = y_S_invoke.name) {post : Int32 → wM → Prop} {x0 : Option Ro} {x1 : Int32} {x2 : Int32} {x3 : Int32} {x4 : Int32} {x5 : Int32} {M : wM} (h : wp_S_invoke_44 post x0 x1 x2 x3 x4 x5 M) : AW p l e (headSpec w_S_invoke rm_S_invoke).room s m args below meth c (MQ below (QI D dA B zE M0 ad0 post) args s 7 4806 (wA B)) D dA B zE 7 ad0 M0 M 0 0 44 [(0, vR x0), (1, vI x1), (2, vI x2), (3, vI x3), (4, vI x4), (5, vI x5)] [] := by
  unfold wp_S_invoke_44 at h
  refine aw_iconst X (-1) (by decide) d_S_invoke_44 ?_
  exact aw_iret X hr (Nat.le_of_ble_eq_true rfl) (Nat.le_of_ble_eq_true rfl) d_S_invoke_45 h
def wp_S_invoke_21 (post : Int32 → wM → Prop) (x0 : Option Ro) (x1 : Int32) (x2 : Int32) (x3 : Int32) (x4 : Int32) (x5 : Int32) (M : wM) : Prop := post (-1) M
set_option maxRecDepth 100000 in
set_option maxHeartbeats 4000000 in
theorem sd_S_invoke_21 (X : Cx p s m args meth c b_S_invoke 7 R_S TBL D dA B zE) (hr : meth.sig.returnType = (some .int)) (hin : meth.name = y_S_invoke.name) {post : Int32 → wM → Prop} {x0 : Option Ro} {x1 : Int32} {x2 : Int32} {x3 : Int32} {x4 : Int32} {x5 : Int32} {M : wM} (h : wp_S_invoke_21 post x0 x1 x2 x3 x4 x5 M) : AW p l e (headSpec w_S_invoke rm_S_invoke).room s m args below meth c (MQ below (QI D dA B zE M0 ad0 post) args s 7 4806 (wA B)) D dA B zE 7 ad0 M0 M 0 0 21 [(0, vR x0), (1, vI x1), (2, vI x2), (3, vI x3), (4, vI x4), (5, vI x5)] [] := by
  unfold wp_S_invoke_21 at h
  refine aw_iconst X (-1) (by decide) d_S_invoke_21 ?_
  exact aw_iret X hr (Nat.le_of_ble_eq_true rfl) (Nat.le_of_ble_eq_true rfl) d_S_invoke_22 h
def wp_S_invoke (post : Int32 → wM → Prop) (x0 : Option Ro) (x1 : Int32) (x2 : Int32) (x3 : Int32) (x4 : Int32) (x5 : Int32) (M : wM) : Prop := wp_S_isWithin (fun a2 M2 => (a2 = 0 → wp_S_invoke_21 post x0 x1 x2 x3 x4 x5 M2) ∧ (¬ a2 = 0 → gR M2 x0 0 4 (fun a9 => lR M2 a9 x1 (fun a13 => gI M2 a13 1 0 (fun a14 => (¬ a14 = (1 : Int32) → wp_S_isWithin (fun a26 M26 => (a26 = 0 → wp_S_invoke_44 post x0 x1 x2 x3 x4 x5 M26) ∧ (¬ a26 = 0 → gR M26 x0 0 1 (fun a33 => lR M26 a33 x2 (fun a37 => gI M26 a37 2 2 (fun a38 => (¬ a38 = 0 → gR M26 x0 0 5 (fun a47 => cV M26 a47 8 (wp_A_size (fun a50 M50 => (a50 < (48 : Int32) → gI M50 x0 0 11 (fun a63 => pF M50 x0 0 11 (vI (a63 + 1)) (fun M68 => nO M68 7 fd_7 (fun a71 M71 => gI M71 x0 0 11 (fun a76 => gR M71 x0 0 1 (fun a81 => lR M71 a81 x2 (fun a85 => cV M71 a71 7 (wp_K_init (fun M91 => gR M91 x0 0 5 (fun a97 => cV M91 a97 8 (wp_A_add0 (fun a102 M102 => gR M102 x0 0 4 (fun a107 => lR M102 a107 x1 (fun a111 => gI M102 x0 0 11 (fun a113 => cV M102 a111 1 (wp_C_begin (fun M116 => gR M116 a71 7 2 (fun a121 => gI M116 a121 2 1 (fun a124 => (a124 = 0 → gR M116 x0 0 3 (fun a140 => gI M116 x0 0 0 (fun a146 => cV M116 a71 7 (wp_K_home (fun a149 M149 => lR M149 a140 a149 (fun a152 => gR M149 a152 4 0 (fun a153 => cV M149 a153 8 (wp_A_add0 (fun a158 M158 => wp_S_invoke_162 post x0 x1 x2 x3 x4 x5 a71 M158) a153 a71 M149)))) a71 a146 M116)))) ∧ (¬ a124 = 0 → cV M116 x0 0 (wp_S_waitAtAllSites (fun M133 => wp_S_invoke_162 post x0 x1 x2 x3 x4 x5 a71 M133) x0 a71 M116))))) a111 a113 M102))))) a97 a71 M91))) a71 a76 x1 a85 x3 x4 x5 M71)))))))) ∧ (¬ a50 < (48 : Int32) → post (-2) M50)) a47 M26))) ∧ (a38 = 0 → wp_S_invoke_44 post x0 x1 x2 x3 x4 x5 M26)))))) x2 6 M2) ∧ (a14 = (1 : Int32) → wp_S_invoke_21 post x0 x1 x2 x3 x4 x5 M2)))))) x1 4 M
set_option maxRecDepth 100000 in
set_option maxHeartbeats 4000000 in
theorem sd_S_invoke_0 (X : Cx p s m args meth c b_S_invoke 7 R_S TBL D dA B zE) (hr : meth.sig.returnType = (some .int)) (hin : meth.name = y_S_invoke.name) {post : Int32 → wM → Prop} {x0 : Option Ro} {x1 : Int32} {x2 : Int32} {x3 : Int32} {x4 : Int32} {x5 : Int32} {M : wM} (h : wp_S_invoke post x0 x1 x2 x3 x4 x5 M) : AW p l e (headSpec w_S_invoke rm_S_invoke).room s m args below meth c (MQ below (QI D dA B zE M0 ad0 post) args s 7 4806 (wA B)) D dA B zE 7 ad0 M0 M 0 0 0 [(0, vR x0), (1, vI x1), (2, vI x2), (3, vI x3), (4, vI x4), (5, vI x5)] [] := by
  unfold wp_S_invoke at h
  refine aw_iload_n X 1 rfl d_S_invoke_0 rfl ?_
  refine aw_iconst X (4) (by decide) d_S_invoke_1 ?_
  refine aw_cSi X [_, _] (fun ad hlv => t_S_isWithin l hlv h) (cwS 2 X.hts (gd_S LK_120 LK_121 LK_122 LK_code_S_isWithin) rfl rfl rfl (by decide +kernel) ⟨(Nat.le_of_ble_eq_true rfl), (Nat.le_of_ble_eq_true rfl)⟩) rfl rfl (Nat.le_of_ble_eq_true rfl) d_S_invoke_2 ⟨(Nat.le_of_ble_eq_true rfl), (Nat.le_of_ble_eq_true rfl)⟩ (fun a2 M2 h => ?_)
  refine aw_if_eq (tgt := 21) X d_S_invoke_5 (by decide) (fun c => ?_) (fun c => ?_)
  · have h := h.1 c
    exact sd_S_invoke_21 X hr hin h
  · have h := h.2 c
    refine aw_aload_n X 0 rfl d_S_invoke_8 rfl ?_
    refine aw_gR X hc_0 in_0 4 (by decide) LK_72 (fun _ _ _ _ h => h) d_S_invoke_9 (h.mono (fun a9 h => ?_))
    refine aw_iload_n X 1 rfl d_S_invoke_12 rfl ?_
    refine aw_lR X d_S_invoke_13 (h.mono (fun a13 h => ?_))
    refine aw_gI X hc_1 in_1 0 (by decide) LK_224 (fun _ _ _ _ h => h) d_S_invoke_14 (h.mono (fun a14 h => ?_))
    refine aw_iconst X (1) (by decide) d_S_invoke_17 ?_
    refine aw_icmp_ne (tgt := 23) X d_S_invoke_18 (by decide) (fun c => ?_) (fun c => ?_)
    · have h := h.1 c
      refine aw_iload_n X 2 rfl d_S_invoke_23 rfl ?_
      refine aw_bipush X (6) (by decide) d_S_invoke_24 ?_
      refine aw_cSi X [_, _] (fun ad hlv => t_S_isWithin l hlv h) (cwS 2 X.hts (gd_S LK_120 LK_121 LK_122 LK_code_S_isWithin) rfl rfl rfl (by decide +kernel) ⟨(Nat.le_of_ble_eq_true rfl), (Nat.le_of_ble_eq_true rfl)⟩) rfl rfl (Nat.le_of_ble_eq_true rfl) d_S_invoke_26 ⟨(Nat.le_of_ble_eq_true rfl), (Nat.le_of_ble_eq_true rfl)⟩ (fun a26 M26 h => ?_)
      refine aw_if_eq (tgt := 44) X d_S_invoke_29 (by decide) (fun c => ?_) (fun c => ?_)
      · have h := h.1 c
        exact sd_S_invoke_44 X hr hin h
      · have h := h.2 c
        refine aw_aload_n X 0 rfl d_S_invoke_32 rfl ?_
        refine aw_gR X hc_0 in_0 1 (by decide) LK_81 (fun _ _ _ _ h => h) d_S_invoke_33 (h.mono (fun a33 h => ?_))
        refine aw_iload_n X 2 rfl d_S_invoke_36 rfl ?_
        refine aw_lR X d_S_invoke_37 (h.mono (fun a37 h => ?_))
        refine aw_gI X hc_2 in_2 2 (by decide) LK_124 (fun _ _ _ _ h => h) d_S_invoke_38 (h.mono (fun a38 h => ?_))
        refine aw_if_ne (tgt := 46) X d_S_invoke_41 (by decide) (fun c => ?_) (fun c => ?_)
        · have h := h.1 c
          refine aw_aload_n X 0 rfl d_S_invoke_46 rfl ?_
          refine aw_gR X hc_0 in_0 5 (by decide) LK_85 (fun _ _ _ _ h => h) d_S_invoke_47 (h.mono (fun a47 h => ?_))
          obtain ⟨⟨r50, f50, e50, g50⟩, h⟩ := h
          cases e50
          refine aw_cVi X [] (fun ad hlv => t_A_size l hlv h) (cwV 0 X.hts (gd_V LK_175 LK_176 LK_177 LK_42 LK_code_A_size) rfl rfl rfl (by decide +kernel) ⟨(Nat.le_of_ble_eq_true rfl), (Nat.le_of_ble_eq_true rfl)⟩) ⟨8, f50, _, g50, hc_8, rfl⟩ rfl rfl (Nat.le_of_ble_eq_true rfl) d_S_invoke_50 ⟨(Nat.le_of_ble_eq_true rfl), (Nat.le_of_ble_eq_true rfl)⟩ (fun a50 M50 h => ?_)
          refine aw_bipush X (48) (by decide) d_S_invoke_53 ?_
          refine aw_icmp_lt (tgt := 61) X d_S_invoke_55 (by decide) (fun c => ?_) (fun c => ?_)
          · have h := h.1 c
            refine aw_aload_n X 0 rfl d_S_invoke_61 rfl ?_
            refine aw_dup X rfl d_S_invoke_62 ?_
            refine aw_gI X hc_0 in_0 11 (by decide) LK_92 (fun _ _ _ _ h => h) d_S_invoke_63 (h.mono (fun a63 h => ?_))
            refine aw_iconst X (1) (by decide) d_S_invoke_66 ?_
            refine aw_iadd X d_S_invoke_67 ?_
            refine aw_pF (ty := .int) X hc_0 in_0 11 (by decide) ty_0 tyok_0 nm_0 LK_92 (fun _ _ _ _ h => h) rfl (by decide +kernel) (fun _ => ⟨rfl, rfl⟩) d_S_invoke_68 (h.mono (fun M68 h => ?_))
            refine aw_nO X hc_7 in_7 ty_7 tyok_7 LK_225 LK_226 LK_227 fs_7 fl_7 (Nat.le_of_ble_eq_true rfl) (Nat.le_of_ble_eq_true rfl) d_S_invoke_71 (h.mono (fun a71 M71 h => ?_))
            refine aw_dup X rfl d_S_invoke_74 ?_
            refine aw_aload_n X 0 rfl d_S_invoke_75 rfl ?_
            refine aw_gI X hc_0 in_0 11 (by decide) LK_92 (fun _ _ _ _ h => h) d_S_invoke_76 (h.mono (fun a76 h => ?_))
            refine aw_iload_n X 1 rfl d_S_invoke_79 rfl ?_
            refine aw_aload_n X 0 rfl d_S_invoke_80 rfl ?_
            refine aw_gR X hc_0 in_0 1 (by decide) LK_81 (fun _ _ _ _ h => h) d_S_invoke_81 (h.mono (fun a81 h => ?_))
            refine aw_iload_n X 2 rfl d_S_invoke_84 rfl ?_
            refine aw_lR X d_S_invoke_85 (h.mono (fun a85 h => ?_))
            refine aw_iload_n X 3 rfl d_S_invoke_86 rfl ?_
            refine aw_iload X 4 rfl d_S_invoke_87 ?_
            refine aw_iload X 5 rfl d_S_invoke_89 ?_
            obtain ⟨⟨r91, f91, e91, g91⟩, h⟩ := h
            cases e91
            refine aw_cIv X [_, _, _, _, _, _] (fun ad hlv => t_K_init l hlv h) (cwI 6 X.hts (gd_in LK_code_K_init) rfl rfl rfl (X.hts _ LK_227) (X.hts _ LK_229) (X.hts _ LK_230) rfl (by decide +kernel) ⟨(Nat.le_of_ble_eq_true rfl), (Nat.le_of_ble_eq_true rfl)⟩) rfl rfl (Nat.le_of_ble_eq_true rfl) d_S_invoke_91 ⟨(Nat.le_of_ble_eq_true rfl), (Nat.le_of_ble_eq_true rfl)⟩ (fun M91 h => ?_)
            refine aw_astore (lvn := [(6, _), (0, _), (1, _), (2, _), (3, _), (4, _), (5, _)]) X d_S_invoke_94 (by decide) rfl ?_
            refine aw_aload_n X 1 rfl d_S_invoke_96 rfl ?_
            refine aw_gR X hc_0 in_0 5 (by decide) LK_85 (fun _ _ _ _ h => h) d_S_invoke_97 (h.mono (fun a97 h => ?_))
            refine aw_aload X 0 rfl d_S_invoke_100 ?_
            obtain ⟨⟨r102, f102, e102, g102⟩, h⟩ := h
            cases e102
            refine aw_cVi X [_] (fun ad hlv => t_A_add0 l hlv h) (cwV 1 X.hts (gd_V LK_185 LK_186 LK_187 LK_42 LK_code_A_add0) rfl rfl rfl (by decide +kernel) ⟨(Nat.le_of_ble_eq_true rfl), (Nat.le_of_ble_eq_true rfl)⟩) ⟨8, f102, _, g102, hc_8, rfl⟩ rfl rfl (Nat.le_of_ble_eq_true rfl) d_S_invoke_102 ⟨(Nat.le_of_ble_eq_true rfl), (Nat.le_of_ble_eq_true rfl)⟩ (fun a102 M102 h => ?_)
            refine aw_pop X rfl d_S_invoke_105 ?_
            refine aw_aload_n X 1 rfl d_S_invoke_106 rfl ?_
            refine aw_gR X hc_0 in_0 4 (by decide) LK_72 (fun _ _ _ _ h => h) d_S_invoke_107 (h.mono (fun a107 h => ?_))
            refine aw_iload_n X 2 rfl d_S_invoke_110 rfl ?_
            refine aw_lR X d_S_invoke_111 (h.mono (fun a111 h => ?_))
            refine aw_aload_n X 1 rfl d_S_invoke_112 rfl ?_
            refine aw_gI X hc_0 in_0 11 (by decide) LK_92 (fun _ _ _ _ h => h) d_S_invoke_113 (h.mono (fun a113 h => ?_))
            obtain ⟨⟨r116, f116, e116, g116⟩, h⟩ := h
            cases e116
            refine aw_cVv X [_] (fun ad hlv => t_C_begin l hlv h) (cwV 1 X.hts (gd_V LK_231 LK_232 LK_233 LK_75 LK_code_C_begin) rfl rfl rfl (by decide +kernel) ⟨(Nat.le_of_ble_eq_true rfl), (Nat.le_of_ble_eq_true rfl)⟩) ⟨1, f116, _, g116, hc_1, rfl⟩ rfl rfl (Nat.le_of_ble_eq_true rfl) d_S_invoke_116 ⟨(Nat.le_of_ble_eq_true rfl), (Nat.le_of_ble_eq_true rfl)⟩ (fun M116 h => ?_)
            refine aw_aload X 0 rfl d_S_invoke_119 ?_
            refine aw_gR X hc_7 in_7 2 (by decide) LK_235 (fun _ _ _ _ h => h) d_S_invoke_121 (h.mono (fun a121 h => ?_))
            refine aw_gI X hc_2 in_2 1 (by decide) LK_236 (fun _ _ _ _ h => h) d_S_invoke_124 (h.mono (fun a124 h => ?_))
            refine aw_if_eq (tgt := 139) X d_S_invoke_127 (by decide) (fun c => ?_) (fun c => ?_)
            · have h := h.1 c
              refine aw_aload_n X 1 rfl d_S_invoke_139 rfl ?_
              refine aw_gR X hc_0 in_0 3 (by decide) LK_66 (fun _ _ _ _ h => h) d_S_invoke_140 (h.mono (fun a140 h => ?_))
              refine aw_aload X 0 rfl d_S_invoke_143 ?_
              refine aw_aload_n X 1 rfl d_S_invoke_145 rfl ?_
              refine aw_gI X hc_0 in_0 0 (by decide) LK_64 (fun _ _ _ _ h => h) d_S_invoke_146 (h.mono (fun a146 h => ?_))
              obtain ⟨⟨r149, f149, e149, g149⟩, h⟩ := h
              cases e149
              refine aw_cVi X [_] (fun ad hlv => t_K_home l hlv h) (cwV 1 X.hts (gd_V LK_237 LK_238 LK_239 LK_227 LK_code_K_home) rfl rfl rfl (by decide +kernel) ⟨(Nat.le_of_ble_eq_true rfl), (Nat.le_of_ble_eq_true rfl)⟩) ⟨7, f149, _, g149, hc_7, rfl⟩ rfl rfl (Nat.le_of_ble_eq_true rfl) d_S_invoke_149 ⟨(Nat.le_of_ble_eq_true rfl), (Nat.le_of_ble_eq_true rfl)⟩ (fun a149 M149 h => ?_)
              refine aw_lR X d_S_invoke_152 (h.mono (fun a152 h => ?_))
              refine aw_gR X hc_4 in_4 0 (by decide) LK_220 (fun _ _ _ _ h => h) d_S_invoke_153 (h.mono (fun a153 h => ?_))
              refine aw_aload X 0 rfl d_S_invoke_156 ?_
              obtain ⟨⟨r158, f158, e158, g158⟩, h⟩ := h
              cases e158
              refine aw_cVi X [_] (fun ad hlv => t_A_add0 l hlv h) (cwV 1 X.hts (gd_V LK_185 LK_186 LK_187 LK_42 LK_code_A_add0) rfl rfl rfl (by decide +kernel) ⟨(Nat.le_of_ble_eq_true rfl), (Nat.le_of_ble_eq_true rfl)⟩) ⟨8, f158, _, g158, hc_8, rfl⟩ rfl rfl (Nat.le_of_ble_eq_true rfl) d_S_invoke_158 ⟨(Nat.le_of_ble_eq_true rfl), (Nat.le_of_ble_eq_true rfl)⟩ (fun a158 M158 h => ?_)
              refine aw_pop X rfl d_S_invoke_161 ?_
              refine aw_lv [1, 2, 3, 4, 5, 6, 0] rfl ?_
              refine aw_widen (ce := 7) (sl := 4806) (Nat.le_of_ble_eq_true rfl) (Nat.le_of_ble_eq_true rfl) ?_
              exact sd_S_invoke_162 X hr hin h
            · have h := h.2 c
              refine aw_aload_n X 1 rfl d_S_invoke_130 rfl ?_
              refine aw_aload X 0 rfl d_S_invoke_131 ?_
              obtain ⟨⟨r133, f133, e133, g133⟩, h⟩ := h
              cases e133
              refine aw_cVv X [_] (fun ad hlv => t_S_waitAtAllSites l hlv h) (cwV 1 X.hts (gd_V LK_241 LK_242 LK_243 LK_122 LK_code_S_waitAtAllSites) rfl rfl rfl (by decide +kernel) ⟨(Nat.le_of_ble_eq_true rfl), (Nat.le_of_ble_eq_true rfl)⟩) ⟨0, f133, _, g133, hc_0, rfl⟩ rfl rfl (Nat.le_of_ble_eq_true rfl) d_S_invoke_133 ⟨(Nat.le_of_ble_eq_true rfl), (Nat.le_of_ble_eq_true rfl)⟩ (fun M133 h => ?_)
              refine aw_goto (tgt := 162) X d_S_invoke_136 (by decide) ?_
              refine aw_lv [1, 2, 3, 4, 5, 6, 0] rfl ?_
              exact sd_S_invoke_162 X hr hin h
          · have h := h.2 c
            refine aw_bipush X (-2) (by decide) d_S_invoke_58 ?_
            exact aw_iret X hr (Nat.le_of_ble_eq_true rfl) (Nat.le_of_ble_eq_true rfl) d_S_invoke_60 h
        · have h := h.2 c
          exact sd_S_invoke_44 X hr hin h
    · have h := h.2 c
      exact sd_S_invoke_21 X hr hin h
end
theorem t_S_invoke (l : Launch) {D : va_G} {dA : Nat → ClassId} {B : Nat} {zE : ZT} {M : wM} {ad : Ro → Nat} {post : Int32 → wM → Prop} {x0 : Option Ro} {x1 : Int32} {x2 : Int32} {x3 : Int32} {x4 : Int32} {x5 : Int32} (hlv : lvS M [vR x0, vI x1, vI x2, vI x3, vI x4, vI x5]) (h : wp_S_invoke post x0 x1 x2 x3 x4 x5 M) : Met l y_S_invoke w_S_invoke rm_S_invoke (PA D dA B zE M ad [vR x0, vI x1, vI x2, vI x3, vI x4, vI x5]) (QI D dA B zE M ad post) 7 4806 (wA B) :=
  AW_start [vR x0, vI x1, vI x2, vI x3, vI x4, vI x5] [(0, vR x0), (1, vI x1), (2, vI x2), (3, vI x3), (4, vI x4), (5, vI x5)] hlv (by decide +kernel) rfl (fun _ hw => List.mem_cons_of_mem _ hw) rfl (Nat.le_of_ble_eq_true rfl) (fun p e s m args below meth c X hr hin => sd_S_invoke_0 X hr hin h)
abbrev rm_A_isEmpty : Room := { frames := 0, cells := 0, slots := 0, locals := 0 }
section
variable {p : Program} {l : Launch} {e : Env} {s : State} {m : MethodId} {args : Array Value} {below : List Frame} {meth : Method} {c : Code} {D : va_G} {dA : Nat → ClassId} {B : Nat} {zE : ZT} {ad0 : Ro → Nat} {M0 : wM}
def wp_A_isEmpty_12 (post : Int32 → wM → Prop) (x0 : Option Ro) (s0 : Int32) (M : wM) : Prop := (s0 = 0 ∨ s0 = 1) ∧ post s0 M
set_option maxRecDepth 100000 in
set_option maxHeartbeats 4000000 in
theorem sd_A_isEmpty_12 (X : Cx p s m args meth c b_A_isEmpty 1 R_A TBL D dA B zE) (hr : meth.sig.returnType = (some .boolean)) (hin : meth.name = y_A_isEmpty.name) {post : Int32 → wM → Prop} {x0 : Option Ro} {s0 : Int32} {M : wM} (h : wp_A_isEmpty_12 post x0 s0 M) : AW p l e (headSpec w_A_isEmpty rm_A_isEmpty).room s m args below meth c (MQ below (QI D dA B zE M0 ad0 post) args s 0 0 (wA B)) D dA B zE 1 ad0 M0 M 0 0 12 [(0, vR x0)] [vI s0] := by
  unfold wp_A_isEmpty_12 at h
  exact aw_zret X hr h.1 (Nat.le_of_ble_eq_true rfl) (Nat.le_of_ble_eq_true rfl) d_A_isEmpty_12 h.2
def wp_A_isEmpty (post : Int32 → wM → Prop) (x0 : Option Ro) (M : wM) : Prop := gI M x0 8 1 (fun a1 => (¬ a1 = 0 → wp_A_isEmpty_12 post x0 0 M) ∧ (a1 = 0 → wp_A_isEmpty_12 post x0 1 M))
set_option maxRecDepth 100000 in
set_option maxHeartbeats 4000000 in
theorem sd_A_isEmpty_0 (X : Cx p s m args meth c b_A_isEmpty 1 R_A TBL D dA B zE) (hr : meth.sig.returnType = (some .boolean)) (hin : meth.name = y_A_isEmpty.name) {post : Int32 → wM → Prop} {x0 : Option Ro} {M : wM} (h : wp_A_isEmpty post x0 M) : AW p l e (headSpec w_A_isEmpty rm_A_isEmpty).room s m args below meth c (MQ below (QI D dA B zE M0 ad0 post) args s 0 0 (wA B)) D dA B zE 1 ad0 M0 M 0 0 0 [(0, vR x0)] [] := by
  unfold wp_A_isEmpty at h
  refine aw_aload_n X 0 rfl d_A_isEmpty_0 rfl ?_
  refine aw_gI X hc_8 in_8 1 (by decide) LK_115 (fun _ _ _ _ h => h) d_A_isEmpty_1 (h.mono (fun a1 h => ?_))
  refine aw_if_ne (tgt := 11) X d_A_isEmpty_4 (by decide) (fun c => ?_) (fun c => ?_)
  · have h := h.1 c
    refine aw_iconst X (0) (by decide) d_A_isEmpty_11 ?_
    exact sd_A_isEmpty_12 X hr hin h
  · have h := h.2 c
    refine aw_iconst X (1) (by decide) d_A_isEmpty_7 ?_
    refine aw_goto (tgt := 12) X d_A_isEmpty_8 (by decide) ?_
    exact sd_A_isEmpty_12 X hr hin h
end
theorem t_A_isEmpty (l : Launch) {D : va_G} {dA : Nat → ClassId} {B : Nat} {zE : ZT} {M : wM} {ad : Ro → Nat} {post : Int32 → wM → Prop} {x0 : Option Ro} (hlv : lvS M [vR x0]) (h : wp_A_isEmpty post x0 M) : Met l y_A_isEmpty w_A_isEmpty rm_A_isEmpty (PA D dA B zE M ad [vR x0]) (QI D dA B zE M ad post) 0 0 (wA B) :=
  AW_start [vR x0] [(0, vR x0)] hlv (by decide +kernel) rfl (fun _ hw => List.mem_cons_of_mem _ hw) rfl (Nat.le_of_ble_eq_true rfl) (fun p e s m args below meth c X hr hin => sd_A_isEmpty_0 X hr hin h)
abbrev rm_Q_first : Room := { frames := 3, cells := 0, slots := 0, locals := 64 }
section
variable {p : Program} {l : Launch} {e : Env} {s : State} {m : MethodId} {args : Array Value} {below : List Frame} {meth : Method} {c : Code} {D : va_G} {dA : Nat → ClassId} {B : Nat} {zE : ZT} {ad0 : Ro → Nat} {M0 : wM}
def wp_Q_first_25 (post : Option Ro → wM → Prop) (x0 : Option Ro) (s0 : Option Ro) (M : wM) : Prop := post s0 M
set_option maxRecDepth 100000 in
set_option maxHeartbeats 4000000 in
theorem sd_Q_first_25 (X : Cx p s m args meth c b_Q_first 1 R_Q TBL D dA B zE) (hr : meth.sig.returnType = (some (.object "PartitionedProcedureStore$Task"))) (hin : meth.name = y_Q_first.name) {post : Option Ro → wM → Prop} {x0 : Option Ro} {s0 : Option Ro} {M : wM} (h : wp_Q_first_25 post x0 s0 M) : AW p l e (headSpec w_Q_first rm_Q_first).room s m args below meth c (MQ below (QR D dA B zE M0 ad0 post) args s 0 0 (wA B)) D dA B zE 1 ad0 M0 M 0 0 25 [(0, vR x0)] [vR s0] := by
  unfold wp_Q_first_25 at h
  exact aw_aret X hr (Or.inl ⟨_, rfl⟩) (Nat.le_of_ble_eq_true rfl) (Nat.le_of_ble_eq_true rfl) d_Q_first_25 h
def wp_Q_first (post : Option Ro → wM → Prop) (x0 : Option Ro) (M : wM) : Prop := gR M x0 4 0 (fun a1 => cV M a1 8 (wp_A_isEmpty (fun a4 M4 => (a4 = 0 → gR M4 x0 4 0 (fun a15 => cV M4 a15 8 (wp_A_get (fun a19 M19 => ck M19 a19 7 (wp_Q_first_25 post x0 a19 M19)) a15 0 M4))) ∧ (¬ a4 = 0 → wp_Q_first_25 post x0 none M4)) a1 M))
set_option maxRecDepth 100000 in
set_option maxHeartbeats 4000000 in
theorem sd_Q_first_0 (X : Cx p s m args meth c b_Q_first 1 R_Q TBL D dA B zE) (hr : meth.sig.returnType = (some (.object "PartitionedProcedureStore$Task"))) (hin : meth.name = y_Q_first.name) {post : Option Ro → wM → Prop} {x0 : Option Ro} {M : wM} (h : wp_Q_first post x0 M) : AW p l e (headSpec w_Q_first rm_Q_first).room s m args below meth c (MQ below (QR D dA B zE M0 ad0 post) args s 0 0 (wA B)) D dA B zE 1 ad0 M0 M 0 0 0 [(0, vR x0)] [] := by
  unfold wp_Q_first at h
  refine aw_aload_n X 0 rfl d_Q_first_0 rfl ?_
  refine aw_gR X hc_4 in_4 0 (by decide) LK_60 (fun _ _ _ _ h => h) d_Q_first_1 (h.mono (fun a1 h => ?_))
  obtain ⟨⟨r4, f4, e4, g4⟩, h⟩ := h
  cases e4
  refine aw_cVi X [] (fun ad hlv => t_A_isEmpty l hlv h) (cwV 0 X.hts (gd_V LK_245 LK_246 LK_247 LK_42 LK_code_A_isEmpty) rfl rfl rfl (by decide +kernel) ⟨(Nat.le_of_ble_eq_true rfl), (Nat.le_of_ble_eq_true rfl)⟩) ⟨8, f4, _, g4, hc_8, rfl⟩ rfl rfl (Nat.le_of_ble_eq_true rfl) d_Q_first_4 ⟨(Nat.le_of_ble_eq_true rfl), (Nat.le_of_ble_eq_true rfl)⟩ (fun a4 M4 h => ?_)
  refine aw_if_eq (tgt := 14) X d_Q_first_7 (by decide) (fun c => ?_) (fun c => ?_)
  · have h := h.1 c
    refine aw_aload_n X 0 rfl d_Q_first_14 rfl ?_
    refine aw_gR X hc_4 in_4 0 (by decide) LK_60 (fun _ _ _ _ h => h) d_Q_first_15 (h.mono (fun a15 h => ?_))
    refine aw_iconst X (0) (by decide) d_Q_first_18 ?_
    obtain ⟨⟨r19, f19, e19, g19⟩, h⟩ := h
    cases e19
    refine aw_cVr X [_] (fun ad hlv => t_A_get l hlv h) (cwV 1 X.hts (gd_V LK_249 LK_203 LK_204 LK_42 LK_code_A_get) rfl rfl rfl (by decide +kernel) ⟨(Nat.le_of_ble_eq_true rfl), (Nat.le_of_ble_eq_true rfl)⟩) ⟨8, f19, _, g19, hc_8, rfl⟩ rfl rfl (Nat.le_of_ble_eq_true rfl) d_Q_first_19 ⟨(Nat.le_of_ble_eq_true rfl), (Nat.le_of_ble_eq_true rfl)⟩ (fun a19 M19 h => ?_)
    refine aw_ck X hc_7 LK_250 d_Q_first_22 ⟨h.1, ?_⟩
    have h := h.2
    exact sd_Q_first_25 X hr hin h
  · have h := h.2 c
    refine aw_null X d_Q_first_10 ?_
    refine aw_goto (tgt := 25) X d_Q_first_11 (by decide) ?_
    exact sd_Q_first_25 X hr hin h
end
theorem t_Q_first (l : Launch) {D : va_G} {dA : Nat → ClassId} {B : Nat} {zE : ZT} {M : wM} {ad : Ro → Nat} {post : Option Ro → wM → Prop} {x0 : Option Ro} (hlv : lvS M [vR x0]) (h : wp_Q_first post x0 M) : Met l y_Q_first w_Q_first rm_Q_first (PA D dA B zE M ad [vR x0]) (QR D dA B zE M ad post) 0 0 (wA B) :=
  AW_start [vR x0] [(0, vR x0)] hlv (by decide +kernel) rfl (fun _ hw => List.mem_cons_of_mem _ hw) rfl (Nat.le_of_ble_eq_true rfl) (fun p e s m args below meth c X hr hin => sd_Q_first_0 X hr hin h)
abbrev rm_A_fastRemove : Room := { frames := 1, cells := 0, slots := 0, locals := 60 }
section
variable {p : Program} {l : Launch} {e : Env} {s : State} {m : MethodId} {args : Array Value} {below : List Frame} {meth : Method} {c : Code} {D : va_G} {dA : Nat → ClassId} {B : Nat} {zE : ZT} {ad0 : Ro → Nat} {M0 : wM}
def wp_A_fastRemove_34 (post : wM → Prop) (x0 : Option Ro) (x1 : Option Ro) (x2 : Int32) (x3 : Int32) (M : wM) : Prop := pF M x0 8 1 (vI x3) (fun M38 => sR M38 x1 x3 none (fun M42 => post M42))
set_option maxRecDepth 100000 in
set_option maxHeartbeats 4000000 in
theorem sd_A_fastRemove_34 (X : Cx p s m args meth c b_A_fastRemove 4 R_A TBL D dA B zE) (hr : meth.sig.returnType = none) (hin : meth.name = y_A_fastRemove.name) {post : wM → Prop} {x0 : Option Ro} {x1 : Option Ro} {x2 : Int32} {x3 : Int32} {M : wM} (h : wp_A_fastRemove_34 post x0 x1 x2 x3 M) : AW p l e (headSpec w_A_fastRemove rm_A_fastRemove).room s m args below meth c (MQ below (QV D dA B zE M0 ad0 post) args s 0 0 (wA B)) D dA B zE 4 ad0 M0 M 0 0 34 [(0, vR x0), (1, vR x1), (2, vI x2), (3, vI x3)] [] := by
  unfold wp_A_fastRemove_34 at h
  refine aw_aload_n X 1 rfl d_A_fastRemove_34 rfl ?_
  refine aw_aload_n X 0 rfl d_A_fastRemove_35 rfl ?_
  refine aw_iload_n X 3 rfl d_A_fastRemove_36 rfl ?_
  refine aw_dup_x1 X rfl rfl d_A_fastRemove_37 ?_
  refine aw_pF (ty := .int) X hc_8 in_8 1 (by decide) ty_8 tyok_8 nm_8 LK_115 (fun _ _ _ _ h => h) rfl (by decide +kernel) (fun _ => ⟨rfl, rfl⟩) d_A_fastRemove_38 (h.mono (fun M38 h => ?_))
  refine aw_null X d_A_fastRemove_41 ?_
  refine aw_sR X d_A_fastRemove_42 (h.mono (fun M42 h => ?_))
  exact aw_vret X hr (Nat.le_of_ble_eq_true rfl) (Nat.le_of_ble_eq_true rfl) d_A_fastRemove_43 h
def wp_A_fastRemove (post : wM → Prop) (x0 : Option Ro) (x1 : Option Ro) (x2 : Int32) (M : wM) : Prop := gI M x0 8 2 (fun a2 => pF M x0 8 2 (vI (a2 + 1)) (fun M7 => gI M7 x0 8 1 (fun a11 => ((a11 - 1) ≤ x2 → wp_A_fastRemove_34 post x0 x1 x2 (a11 - 1) M7) ∧ (¬ (a11 - 1) ≤ x2 → cpR M7 x1 (x2 + 1) x1 x2 ((a11 - 1) - x2) (fun M31 => wp_A_fastRemove_34 post x0 x1 x2 (a11 - 1) M31)))))
set_option maxRecDepth 100000 in
set_option maxHeartbeats 4000000 in
theorem sd_A_fastRemove_0 (X : Cx p s m args meth c b_A_fastRemove 4 R_A TBL D dA B zE) (hr : meth.sig.returnType = none) (hin : meth.name = y_A_fastRemove.name) {post : wM → Prop} {x0 : Option Ro} {x1 : Option Ro} {x2 : Int32} {M : wM} (h : wp_A_fastRemove post x0 x1 x2 M) : AW p l e (headSpec w_A_fastRemove rm_A_fastRemove).room s m args below meth c (MQ below (QV D dA B zE M0 ad0 post) args s 0 0 (wA B)) D dA B zE 4 ad0 M0 M 0 0 0 [(0, vR x0), (1, vR x1), (2, vI x2)] [] := by
  unfold wp_A_fastRemove at h
  refine aw_aload_n X 0 rfl d_A_fastRemove_0 rfl ?_
  refine aw_dup X rfl d_A_fastRemove_1 ?_
  refine aw_gI X hc_8 in_8 2 (by decide) LK_113 (fun _ _ h x hx => u_same (h _ LK_114) x hx) d_A_fastRemove_2 (h.mono (fun a2 h => ?_))
  refine aw_iconst X (1) (by decide) d_A_fastRemove_5 ?_
  refine aw_iadd X d_A_fastRemove_6 ?_
  refine aw_pF (ty := .int) X hc_8 in_8 2 (by decide) ty_8 tyok_8 nm_8 LK_113 (fun _ _ h x hx => u_same (h _ LK_114) x hx) rfl (by decide +kernel) (fun _ => ⟨rfl, rfl⟩) d_A_fastRemove_7 (h.mono (fun M7 h => ?_))
  refine aw_aload_n X 0 rfl d_A_fastRemove_10 rfl ?_
  refine aw_gI X hc_8 in_8 1 (by decide) LK_115 (fun _ _ _ _ h => h) d_A_fastRemove_11 (h.mono (fun a11 h => ?_))
  refine aw_iconst X (1) (by decide) d_A_fastRemove_14 ?_
  refine aw_isub X d_A_fastRemove_15 ?_
  refine aw_dup X rfl d_A_fastRemove_16 ?_
  refine aw_istore_n (lvn := [(3, _), (0, _), (1, _), (2, _)]) X d_A_fastRemove_17 rfl (by decide) rfl ?_
  refine aw_iload_n X 3 rfl d_A_fastRemove_18 rfl ?_
  refine aw_icmp_le (tgt := 34) X d_A_fastRemove_19 (by decide) (fun c => ?_) (fun c => ?_)
  · have h := h.1 c
    refine aw_lv [1, 2, 3, 0] rfl ?_
    exact sd_A_fastRemove_34 X hr hin h
  · have h := h.2 c
    refine aw_aload_n X 2 rfl d_A_fastRemove_22 rfl ?_
    refine aw_iload_n X 3 rfl d_A_fastRemove_23 rfl ?_
    refine aw_iconst X (1) (by decide) d_A_fastRemove_24 ?_
    refine aw_iadd X d_A_fastRemove_25 ?_
    refine aw_aload_n X 2 rfl d_A_fastRemove_26 rfl ?_
    refine aw_iload_n X 3 rfl d_A_fastRemove_27 rfl ?_
    refine aw_iload_n X 0 rfl d_A_fastRemove_28 rfl ?_
    refine aw_iload_n X 3 rfl d_A_fastRemove_29 rfl ?_
    refine aw_isub X d_A_fastRemove_30 ?_
    refine aw_cpR X LK_251 LK_138 LK_139 LK_140 (Nat.le_of_ble_eq_true rfl) (Nat.le_of_ble_eq_true rfl) d_A_fastRemove_31 (h.mono (fun M31 h => ?_))
    refine aw_lv [1, 2, 3, 0] rfl ?_
    exact sd_A_fastRemove_34 X hr hin h
end
theorem t_A_fastRemove (l : Launch) {D : va_G} {dA : Nat → ClassId} {B : Nat} {zE : ZT} {M : wM} {ad : Ro → Nat} {post : wM → Prop} {x0 : Option Ro} {x1 : Option Ro} {x2 : Int32} (hlv : lvS M [vR x0, vR x1, vI x2]) (h : wp_A_fastRemove post x0 x1 x2 M) : Met l y_A_fastRemove w_A_fastRemove rm_A_fastRemove (PA D dA B zE M ad [vR x0, vR x1, vI x2]) (QV D dA B zE M ad post) 0 0 (wA B) :=
  AW_start [vR x0, vR x1, vI x2] [(0, vR x0), (1, vR x1), (2, vI x2)] hlv (by decide +kernel) rfl (fun _ hw => List.mem_cons_of_mem _ hw) rfl (Nat.le_of_ble_eq_true rfl) (fun p e s m args below meth c X hr hin => sd_A_fastRemove_0 X hr hin h)
abbrev rm_A_remove : Room := { frames := 2, cells := 0, slots := 0, locals := 83 }
section
variable {p : Program} {l : Launch} {e : Env} {s : State} {m : MethodId} {args : Array Value} {below : List Frame} {meth : Method} {c : Code} {D : va_G} {dA : Nat → ClassId} {B : Nat} {zE : ZT} {ad0 : Ro → Nat} {M0 : wM}
def wp_A_remove (post : Option Ro → wM → Prop) (x0 : Option Ro) (x1 : Int32) (M : wM) : Prop := gI M x0 8 1 (fun a2 => wp_Oj_checkIndex (fun a5 M5 => gR M5 x0 8 0 (fun a10 => lR M5 a10 x1 (fun a16 => cV M5 x0 8 (wp_A_fastRemove (fun M21 => post a16 M21) x0 a10 x1 M5)))) x1 a2 M)
set_option maxRecDepth 100000 in
set_option maxHeartbeats 4000000 in
theorem sd_A_remove_0 (X : Cx p s m args meth c b_A_remove 4 R_A TBL D dA B zE) (hr : meth.sig.returnType = (some (.object "java/lang/Object"))) (hin : meth.name = y_A_remove.name) {post : Option Ro → wM → Prop} {x0 : Option Ro} {x1 : Int32} {M : wM} (h : wp_A_remove post x0 x1 M) : AW p l e (headSpec w_A_remove rm_A_remove).room s m args below meth c (MQ below (QR D dA B zE M0 ad0 post) args s 0 0 (wA B)) D dA B zE 4 ad0 M0 M 0 0 0 [(0, vR x0), (1, vI x1)] [] := by
  unfold wp_A_remove at h
  refine aw_iload_n X 1 rfl d_A_remove_0 rfl ?_
  refine aw_aload_n X 0 rfl d_A_remove_1 rfl ?_
  refine aw_gI X hc_8 in_8 1 (by decide) LK_115 (fun _ _ _ _ h => h) d_A_remove_2 (h.mono (fun a2 h => ?_))
  refine aw_cSi X [_, _] (fun ad hlv => t_Oj_checkIndex l hlv h) (va_cwS 2 X.hts (gd_S2 LK_193 LK_194 LK_195 LK_code_Oj_checkIndex) rfl rfl rfl (by decide +kernel) ⟨(Nat.le_of_ble_eq_true rfl), (Nat.le_of_ble_eq_true rfl)⟩) rfl rfl (Nat.le_of_ble_eq_true rfl) d_A_remove_5 ⟨(Nat.le_of_ble_eq_true rfl), (Nat.le_of_ble_eq_true rfl)⟩ (fun a5 M5 h => ?_)
  refine aw_pop X rfl d_A_remove_8 ?_
  refine aw_aload_n X 0 rfl d_A_remove_9 rfl ?_
  refine aw_gR X hc_8 in_8 0 (by decide) LK_13 (fun _ _ _ _ h => h) d_A_remove_10 (h.mono (fun a10 h => ?_))
  refine aw_astore_n (lvn := [(2, _), (0, _), (1, _)]) X d_A_remove_13 rfl (by decide) rfl ?_
  refine aw_aload_n X 0 rfl d_A_remove_14 rfl ?_
  refine aw_iload_n X 2 rfl d_A_remove_15 rfl ?_
  refine aw_lR X d_A_remove_16 (h.mono (fun a16 h => ?_))
  refine aw_astore_n (lvn := [(3, _), (2, _), (0, _), (1, _)]) X d_A_remove_17 rfl (by decide) rfl ?_
  refine aw_aload_n X 2 rfl d_A_remove_18 rfl ?_
  refine aw_aload_n X 1 rfl d_A_remove_19 rfl ?_
  refine aw_iload_n X 3 rfl d_A_remove_20 rfl ?_
  obtain ⟨⟨r21, f21, e21, g21⟩, h⟩ := h
  cases e21
  refine aw_cVv X [_, _] (fun ad hlv => t_A_fastRemove l hlv h) (cwV 2 X.hts (gd_V LK_252 LK_253 LK_254 LK_42 LK_code_A_fastRemove) rfl rfl rfl (by decide +kernel) ⟨(Nat.le_of_ble_eq_true rfl), (Nat.le_of_ble_eq_true rfl)⟩) ⟨8, f21, _, g21, hc_8, rfl⟩ rfl rfl (Nat.le_of_ble_eq_true rfl) d_A_remove_21 ⟨(Nat.le_of_ble_eq_true rfl), (Nat.le_of_ble_eq_true rfl)⟩ (fun M21 h => ?_)
  refine aw_aload_n X 0 rfl d_A_remove_24 rfl ?_
  exact aw_aret X hr (Or.inl ⟨_, rfl⟩) (Nat.le_of_ble_eq_true rfl) (Nat.le_of_ble_eq_true rfl) d_A_remove_25 h
end
theorem t_A_remove (l : Launch) {D : va_G} {dA : Nat → ClassId} {B : Nat} {zE : ZT} {M : wM} {ad : Ro → Nat} {post : Option Ro → wM → Prop} {x0 : Option Ro} {x1 : Int32} (hlv : lvS M [vR x0, vI x1]) (h : wp_A_remove post x0 x1 M) : Met l y_A_remove w_A_remove rm_A_remove (PA D dA B zE M ad [vR x0, vI x1]) (QR D dA B zE M ad post) 0 0 (wA B) :=
  AW_start [vR x0, vI x1] [(0, vR x0), (1, vI x1)] hlv (by decide +kernel) rfl (fun _ hw => List.mem_cons_of_mem _ hw) rfl (Nat.le_of_ble_eq_true rfl) (fun p e s m args below meth c X hr hin => sd_A_remove_0 X hr hin h)
abbrev rm_Q_passOn : Room := { frames := 3, cells := 0, slots := 0, locals := 106 }
section
variable {p : Program} {l : Launch} {e : Env} {s : State} {m : MethodId} {args : Array Value} {below : List Frame} {meth : Method} {c : Code} {D : va_G} {dA : Nat → ClassId} {B : Nat} {zE : ZT} {ad0 : Ro → Nat} {M0 : wM}
def wp_Q_passOn_24 (post : wM → Prop) (x0 : Option Ro) (M : wM) : Prop := post M
set_option maxRecDepth 100000 in
set_option maxHeartbeats 4000000 in
theorem sd_Q_passOn_24 (X : Cx p s m args meth c b_Q_passOn 1 R_Q TBL D dA B zE) (hr : meth.sig.returnType = none) (hin : meth.name = y_Q_passOn.name) {post : wM → Prop} {x0 : Option Ro} {M : wM} (h : wp_Q_passOn_24 post x0 M) : AW p l e (headSpec w_Q_passOn rm_Q_passOn).room s m args below meth c (MQ below (QV D dA B zE M0 ad0 post) args s 0 0 (wA B)) D dA B zE 1 ad0 M0 M 0 0 24 [(0, vR x0)] [] := by
  unfold wp_Q_passOn_24 at h
  exact aw_vret X hr (Nat.le_of_ble_eq_true rfl) (Nat.le_of_ble_eq_true rfl) d_Q_passOn_24 h
def wp_Q_passOn (post : wM → Prop) (x0 : Option Ro) (M : wM) : Prop := pF M x0 4 1 (vI 0) (fun M2 => gR M2 x0 4 0 (fun a6 => cV M2 a6 8 (wp_A_isEmpty (fun a9 M9 => (¬ a9 = 0 → wp_Q_passOn_24 post x0 M9) ∧ (a9 = 0 → gR M9 x0 4 0 (fun a16 => cV M9 a16 8 (wp_A_remove (fun a20 M20 => wp_Q_passOn_24 post x0 M20) a16 0 M9)))) a6 M2)))
set_option maxRecDepth 100000 in
set_option maxHeartbeats 4000000 in
theorem sd_Q_passOn_0 (X : Cx p s m args meth c b_Q_passOn 1 R_Q TBL D dA B zE) (hr : meth.sig.returnType = none) (hin : meth.name = y_Q_passOn.name) {post : wM → Prop} {x0 : Option Ro} {M : wM} (h : wp_Q_passOn post x0 M) : AW p l e (headSpec w_Q_passOn rm_Q_passOn).room s m args below meth c (MQ below (QV D dA B zE M0 ad0 post) args s 0 0 (wA B)) D dA B zE 1 ad0 M0 M 0 0 0 [(0, vR x0)] [] := by
  unfold wp_Q_passOn at h
  refine aw_aload_n X 0 rfl d_Q_passOn_0 rfl ?_
  refine aw_iconst X (0) (by decide) d_Q_passOn_1 ?_
  refine aw_pF (ty := .boolean) X hc_4 in_4 1 (by decide) ty_4 tyok_4 nm_4 LK_61 (fun _ _ _ _ h => h) rfl (by decide +kernel) (fun _ => ⟨rfl, rfl⟩) d_Q_passOn_2 (h.mono (fun M2 h => ?_))
  refine aw_aload_n X 0 rfl d_Q_passOn_5 rfl ?_
  refine aw_gR X hc_4 in_4 0 (by decide) LK_60 (fun _ _ _ _ h => h) d_Q_passOn_6 (h.mono (fun a6 h => ?_))
  obtain ⟨⟨r9, f9, e9, g9⟩, h⟩ := h
  cases e9
  refine aw_cVi X [] (fun ad hlv => t_A_isEmpty l hlv h) (cwV 0 X.hts (gd_V LK_245 LK_246 LK_247 LK_42 LK_code_A_isEmpty) rfl rfl rfl (by decide +kernel) ⟨(Nat.le_of_ble_eq_true rfl), (Nat.le_of_ble_eq_true rfl)⟩) ⟨8, f9, _, g9, hc_8, rfl⟩ rfl rfl (Nat.le_of_ble_eq_true rfl) d_Q_passOn_9 ⟨(Nat.le_of_ble_eq_true rfl), (Nat.le_of_ble_eq_true rfl)⟩ (fun a9 M9 h => ?_)
  refine aw_if_ne (tgt := 24) X d_Q_passOn_12 (by decide) (fun c => ?_) (fun c => ?_)
  · have h := h.1 c
    exact sd_Q_passOn_24 X hr hin h
  · have h := h.2 c
    refine aw_aload_n X 0 rfl d_Q_passOn_15 rfl ?_
    refine aw_gR X hc_4 in_4 0 (by decide) LK_60 (fun _ _ _ _ h => h) d_Q_passOn_16 (h.mono (fun a16 h => ?_))
    refine aw_iconst X (0) (by decide) d_Q_passOn_19 ?_
    obtain ⟨⟨r20, f20, e20, g20⟩, h⟩ := h
    cases e20
    refine aw_cVr X [_] (fun ad hlv => t_A_remove l hlv h) (cwV 1 X.hts (gd_V LK_256 LK_257 LK_258 LK_42 LK_code_A_remove) rfl rfl rfl (by decide +kernel) ⟨(Nat.le_of_ble_eq_true rfl), (Nat.le_of_ble_eq_true rfl)⟩) ⟨8, f20, _, g20, hc_8, rfl⟩ rfl rfl (Nat.le_of_ble_eq_true rfl) d_Q_passOn_20 ⟨(Nat.le_of_ble_eq_true rfl), (Nat.le_of_ble_eq_true rfl)⟩ (fun a20 M20 h => ?_)
    refine aw_pop X rfl d_Q_passOn_23 ?_
    exact sd_Q_passOn_24 X hr hin h
end
theorem t_Q_passOn (l : Launch) {D : va_G} {dA : Nat → ClassId} {B : Nat} {zE : ZT} {M : wM} {ad : Ro → Nat} {post : wM → Prop} {x0 : Option Ro} (hlv : lvS M [vR x0]) (h : wp_Q_passOn post x0 M) : Met l y_Q_passOn w_Q_passOn rm_Q_passOn (PA D dA B zE M ad [vR x0]) (QV D dA B zE M ad post) 0 0 (wA B) :=
  AW_start [vR x0] [(0, vR x0)] hlv (by decide +kernel) rfl (fun _ hw => List.mem_cons_of_mem _ hw) rfl (Nat.le_of_ble_eq_true rfl) (fun p e s m args below meth c X hr hin => sd_Q_passOn_0 X hr hin h)
abbrev rm_B_copyPart : Room := { frames := 0, cells := 0, slots := 0, locals := 0 }
section
variable {p : Program} {l : Launch} {e : Env} {s : State} {m : MethodId} {args : Array Value} {below : List Frame} {meth : Method} {c : Code} {D : va_G} {dA : Nat → ClassId} {B : Nat} {zE : ZT} {ad0 : Ro → Nat} {M0 : wM}
def wp_B_copyPart_32 (post : wM → Prop) (k3 : Option Ro → Option Ro → Int32 → Int32 → Int32 → wM → Prop) (x0 : Option Ro) (x1 : Option Ro) (x2 : Int32) (x3 : Int32) (x4 : Int32) (M : wM) : Prop := k3 x0 x1 x2 x3 (x4 + 1) M
set_option maxRecDepth 100000 in
set_option maxHeartbeats 4000000 in
theorem sd_B_copyPart_32 (X : Cx p s m args meth c b_B_copyPart 5 R_B TBL D dA B zE) (hr : meth.sig.returnType = none) (hin : meth.name = y_B_copyPart.name) {post : wM → Prop} {k3 : Option Ro → Option Ro → Int32 → Int32 → Int32 → wM → Prop} (hk3 : ∀ (x0 : Option Ro) (x1 : Option Ro) (x2 : Int32) (x3 : Int32) (x4 : Int32) (M : wM), k3 x0 x1 x2 x3 x4 M → AW p l e (headSpec w_B_copyPart rm_B_copyPart).room s m args below meth c (MQ below (QV D dA B zE M0 ad0 post) args s 0 0 (wA B)) D dA B zE 5 ad0 M0 M 0 0 3 [(0, vR x0), (1, vR x1), (2, vI x2), (3, vI x3), (4, vI x4)] []) {x0 : Option Ro} {x1 : Option Ro} {x2 : Int32} {x3 : Int32} {x4 : Int32} {M : wM} (h : wp_B_copyPart_32 post k3 x0 x1 x2 x3 x4 M) : AW p l e (headSpec w_B_copyPart rm_B_copyPart).room s m args below meth c (MQ below (QV D dA B zE M0 ad0 post) args s 0 0 (wA B)) D dA B zE 5 ad0 M0 M 0 0 32 [(0, vR x0), (1, vR x1), (2, vI x2), (3, vI x3), (4, vI x4)] [] := by
  unfold wp_B_copyPart_32 at h
  refine aw_iinc (y := x4 + 1) (lvn := [(4, _), (0, _), (1, _), (2, _), (3, _)]) X 4 rfl d_B_copyPart_32 rfl (by decide) rfl ?_
  refine aw_goto (tgt := 3) X d_B_copyPart_35 (by decide) ?_
  refine aw_lv [1, 2, 3, 4, 0] rfl ?_
  exact hk3 _ _ _ _ _ _ h
def wp_B_copyPart_3 (post : wM → Prop) : Nat → Option Ro → Option Ro → Int32 → Int32 → Int32 → wM → Prop
  | 0, _, _, _, _, _, _ => False
  | n + 1, x0, x1, x2, x3, x4, M => ((32 : Int32) ≤ x4 → post M) ∧ (¬ (32 : Int32) ≤ x4 → (¬ x3 = 0) ∧ ((¬ (x4 - x4 / x3 * x3) = x2 → wp_B_copyPart_32 post (fun x0 x1 x2 x3 x4 M => wp_B_copyPart_3 post n x0 x1 x2 x3 x4 M) x0 x1 x2 x3 x4 M) ∧ ((x4 - x4 / x3 * x3) = x2 → gR M x0 6 0 (fun a19 => gR M x1 6 0 (fun a25 => lL M a25 x4 (fun a30 => sL M a19 x4 a30 (fun M31 => wp_B_copyPart_32 post (fun x0 x1 x2 x3 x4 M => wp_B_copyPart_3 post n x0 x1 x2 x3 x4 M) x0 x1 x2 x3 x4 M31)))))))
set_option maxRecDepth 100000 in
set_option maxHeartbeats 4000000 in
theorem sd_B_copyPart_3 (X : Cx p s m args meth c b_B_copyPart 5 R_B TBL D dA B zE) (hr : meth.sig.returnType = none) (hin : meth.name = y_B_copyPart.name) {post : wM → Prop} : ∀ (n : Nat) (x0 : Option Ro) (x1 : Option Ro) (x2 : Int32) (x3 : Int32) (x4 : Int32) (M : wM), wp_B_copyPart_3 post n x0 x1 x2 x3 x4 M → AW p l e (headSpec w_B_copyPart rm_B_copyPart).room s m args below meth c (MQ below (QV D dA B zE M0 ad0 post) args s 0 0 (wA B)) D dA B zE 5 ad0 M0 M 0 0 3 [(0, vR x0), (1, vR x1), (2, vI x2), (3, vI x3), (4, vI x4)] [] := by
  intro n
  induction n with
  | zero => intro x0 x1 x2 x3 x4 M h; exact h.elim
  | succ n ih =>
    intro x0 x1 x2 x3 x4 M h
    unfold wp_B_copyPart_3 at h
    refine aw_iload X 4 rfl d_B_copyPart_3 ?_
    refine aw_bipush X (32) (by decide) d_B_copyPart_5 ?_
    refine aw_icmp_ge (tgt := 38) X d_B_copyPart_7 (by decide) (fun c => ?_) (fun c => ?_)
    · have h := h.1 c
      exact aw_vret X hr (Nat.le_of_ble_eq_true rfl) (Nat.le_of_ble_eq_true rfl) d_B_copyPart_38 h
    · have h := h.2 c
      refine aw_iload X 4 rfl d_B_copyPart_10 ?_
      refine aw_iload_n X 3 rfl d_B_copyPart_12 rfl ?_
      refine aw_irem X h.1 d_B_copyPart_13 ?_
      have h := h.2
      refine aw_iload_n X 2 rfl d_B_copyPart_14 rfl ?_
      refine aw_icmp_ne (tgt := 32) X d_B_copyPart_15 (by decide) (fun c => ?_) (fun c => ?_)
      · have h := h.1 c
        exact sd_B_copyPart_32 X hr hin ih h
      · have h := h.2 c
        refine aw_aload_n X 0 rfl d_B_copyPart_18 rfl ?_
        refine aw_gR X hc_6 in_6 0 (by decide) LK_16 (fun _ _ _ _ h => h) d_B_copyPart_19 (h.mono (fun a19 h => ?_))
        refine aw_iload X 4 rfl d_B_copyPart_22 ?_
        refine aw_aload_n X 1 rfl d_B_copyPart_24 rfl ?_
        refine aw_gR X hc_6 in_6 0 (by decide) LK_16 (fun _ _ _ _ h => h) d_B_copyPart_25 (h.mono (fun a25 h => ?_))
        refine aw_iload X 4 rfl d_B_copyPart_28 ?_
        refine aw_lL X d_B_copyPart_30 (h.mono (fun a30 h => ?_))
        refine aw_sL X d_B_copyPart_31 (h.mono (fun M31 h => ?_))
        exact sd_B_copyPart_32 X hr hin ih h
def wp_B_copyPart (post : wM → Prop) (x0 : Option Ro) (x1 : Option Ro) (x2 : Int32) (x3 : Int32) (M : wM) : Prop := (∃ n, wp_B_copyPart_3 post n x0 x1 x2 x3 0 M)
set_option maxRecDepth 100000 in
set_option maxHeartbeats 4000000 in
theorem sd_B_copyPart_0 (X : Cx p s m args meth c b_B_copyPart 5 R_B TBL D dA B zE) (hr : meth.sig.returnType = none) (hin : meth.name = y_B_copyPart.name) {post : wM → Prop} {x0 : Option Ro} {x1 : Option Ro} {x2 : Int32} {x3 : Int32} {M : wM} (h : wp_B_copyPart post x0 x1 x2 x3 M) : AW p l e (headSpec w_B_copyPart rm_B_copyPart).room s m args below meth c (MQ below (QV D dA B zE M0 ad0 post) args s 0 0 (wA B)) D dA B zE 5 ad0 M0 M 0 0 0 [(0, vR x0), (1, vR x1), (2, vI x2), (3, vI x3)] [] := by
  unfold wp_B_copyPart at h
  refine aw_iconst X (0) (by decide) d_B_copyPart_0 ?_
  refine aw_istore (lvn := [(4, _), (0, _), (1, _), (2, _), (3, _)]) X d_B_copyPart_1 (by decide) rfl ?_
  refine aw_lv [1, 2, 3, 4, 0] rfl ?_
  obtain ⟨n, h⟩ := h
  exact sd_B_copyPart_3 X hr hin n _ _ _ _ _ _ h
end
theorem t_B_copyPart (l : Launch) {D : va_G} {dA : Nat → ClassId} {B : Nat} {zE : ZT} {M : wM} {ad : Ro → Nat} {post : wM → Prop} {x0 : Option Ro} {x1 : Option Ro} {x2 : Int32} {x3 : Int32} (hlv : lvS M [vR x0, vR x1, vI x2, vI x3]) (h : wp_B_copyPart post x0 x1 x2 x3 M) : Met l y_B_copyPart w_B_copyPart rm_B_copyPart (PA D dA B zE M ad [vR x0, vR x1, vI x2, vI x3]) (QV D dA B zE M ad post) 0 0 (wA B) :=
  AW_start [vR x0, vR x1, vI x2, vI x3] [(0, vR x0), (1, vR x1), (2, vI x2), (3, vI x3)] hlv (by decide +kernel) rfl (fun _ hw => List.mem_cons_of_mem _ hw) rfl (Nat.le_of_ble_eq_true rfl) (fun p e s m args below meth c X hr hin => sd_B_copyPart_0 X hr hin h)
abbrev rm_B_copyCells : Room := { frames := 1, cells := 0, slots := 0, locals := 60 }
section
variable {p : Program} {l : Launch} {e : Env} {s : State} {m : MethodId} {args : Array Value} {below : List Frame} {meth : Method} {c : Code} {D : va_G} {dA : Nat → ClassId} {B : Nat} {zE : ZT} {ad0 : Ro → Nat} {M0 : wM}
def wp_B_copyCells (post : wM → Prop) (x0 : Option Ro) (x1 : Option Ro) (M : wM) : Prop := gR M x1 6 1 (fun a1 => gR M x0 6 1 (fun a6 => cpI M a1 0 a6 0 8 (fun M12 => post M12)))
set_option maxRecDepth 100000 in
set_option maxHeartbeats 4000000 in
theorem sd_B_copyCells_0 (X : Cx p s m args meth c b_B_copyCells 2 R_B TBL D dA B zE) (hr : meth.sig.returnType = none) (hin : meth.name = y_B_copyCells.name) {post : wM → Prop} {x0 : Option Ro} {x1 : Option Ro} {M : wM} (h : wp_B_copyCells post x0 x1 M) : AW p l e (headSpec w_B_copyCells rm_B_copyCells).room s m args below meth c (MQ below (QV D dA B zE M0 ad0 post) args s 0 0 (wA B)) D dA B zE 2 ad0 M0 M 0 0 0 [(0, vR x0), (1, vR x1)] [] := by
  unfold wp_B_copyCells at h
  refine aw_aload_n X 1 rfl d_B_copyCells_0 rfl ?_
  refine aw_gR X hc_6 in_6 1 (by decide) LK_18 (fun _ _ _ _ h => h) d_B_copyCells_1 (h.mono (fun a1 h => ?_))
  refine aw_iconst X (0) (by decide) d_B_copyCells_4 ?_
  refine aw_aload_n X 0 rfl d_B_copyCells_5 rfl ?_
  refine aw_gR X hc_6 in_6 1 (by decide) LK_18 (fun _ _ _ _ h => h) d_B_copyCells_6 (h.mono (fun a6 h => ?_))
  refine aw_iconst X (0) (by decide) d_B_copyCells_9 ?_
  refine aw_bipush X (8) (by decide) d_B_copyCells_10 ?_
  refine aw_cpI X LK_260 LK_138 LK_139 LK_140 (Nat.le_of_ble_eq_true rfl) (Nat.le_of_ble_eq_true rfl) d_B_copyCells_12 (h.mono (fun M12 h => ?_))
  exact aw_vret X hr (Nat.le_of_ble_eq_true rfl) (Nat.le_of_ble_eq_true rfl) d_B_copyCells_15 h
end
theorem t_B_copyCells (l : Launch) {D : va_G} {dA : Nat → ClassId} {B : Nat} {zE : ZT} {M : wM} {ad : Ro → Nat} {post : wM → Prop} {x0 : Option Ro} {x1 : Option Ro} (hlv : lvS M [vR x0, vR x1]) (h : wp_B_copyCells post x0 x1 M) : Met l y_B_copyCells w_B_copyCells rm_B_copyCells (PA D dA B zE M ad [vR x0, vR x1]) (QV D dA B zE M ad post) 0 0 (wA B) :=
  AW_start [vR x0, vR x1] [(0, vR x0), (1, vR x1)] hlv (by decide +kernel) rfl (fun _ hw => List.mem_cons_of_mem _ hw) rfl (Nat.le_of_ble_eq_true rfl) (fun p e s m args below meth c X hr hin => sd_B_copyCells_0 X hr hin h)
abbrev rm_B_countPart : Room := { frames := 0, cells := 0, slots := 0, locals := 0 }
section
variable {p : Program} {l : Launch} {e : Env} {s : State} {m : MethodId} {args : Array Value} {below : List Frame} {meth : Method} {c : Code} {D : va_G} {dA : Nat → ClassId} {B : Nat} {zE : ZT} {ad0 : Ro → Nat} {M0 : wM}
def wp_B_countPart_37 (post : Int32 → wM → Prop) (k5 : Option Ro → Int32 → Int32 → Int32 → Int32 → wM → Prop) (x0 : Option Ro) (x1 : Int32) (x2 : Int32) (x3 : Int32) (x4 : Int32) (M : wM) : Prop := k5 x0 x1 x2 x3 (x4 + 1) M
set_option maxRecDepth 100000 in
set_option maxHeartbeats 4000000 in
theorem sd_B_countPart_37 (X : Cx p s m args meth c b_B_countPart 5 R_B TBL D dA B zE) (hr : meth.sig.returnType = (some .int)) (hin : meth.name = y_B_countPart.name) {post : Int32 → wM → Prop} {k5 : Option Ro → Int32 → Int32 → Int32 → Int32 → wM → Prop} (hk5 : ∀ (x0 : Option Ro) (x1 : Int32) (x2 : Int32) (x3 : Int32) (x4 : Int32) (M : wM), k5 x0 x1 x2 x3 x4 M → AW p l e (headSpec w_B_countPart rm_B_countPart).room s m args below meth c (MQ below (QI D dA B zE M0 ad0 post) args s 0 0 (wA B)) D dA B zE 5 ad0 M0 M 0 0 5 [(0, vR x0), (1, vI x1), (2, vI x2), (3, vI x3), (4, vI x4)] []) {x0 : Option Ro} {x1 : Int32} {x2 : Int32} {x3 : Int32} {x4 : Int32} {M : wM} (h : wp_B_countPart_37 post k5 x0 x1 x2 x3 x4 M) : AW p l e (headSpec w_B_countPart rm_B_countPart).room s m args below meth c (MQ below (QI D dA B zE M0 ad0 post) args s 0 0 (wA B)) D dA B zE 5 ad0 M0 M 0 0 37 [(0, vR x0), (1, vI x1), (2, vI x2), (3, vI x3), (4, vI x4)] [] := by
  unfold wp_B_countPart_37 at h
  refine aw_iinc (y := x4 + 1) (lvn := [(4, _), (0, _), (1, _), (2, _), (3, _)]) X 4 rfl d_B_countPart_37 rfl (by decide) rfl ?_
  refine aw_goto (tgt := 5) X d_B_countPart_40 (by decide) ?_
  refine aw_lv [1, 2, 3, 4, 0] rfl ?_
  exact hk5 _ _ _ _ _ _ h
def wp_B_countPart_5 (post : Int32 → wM → Prop) : Nat → Option Ro → Int32 → Int32 → Int32 → Int32 → wM → Prop
  | 0, _, _, _, _, _, _ => False
  | n + 1, x0, x1, x2, x3, x4, M => ((32 : Int32) ≤ x4 → post x3 M) ∧ (¬ (32 : Int32) ≤ x4 → (¬ x2 = 0) ∧ ((¬ (x4 - x4 / x2 * x2) = x1 → wp_B_countPart_37 post (fun x0 x1 x2 x3 x4 M => wp_B_countPart_5 post n x0 x1 x2 x3 x4 M) x0 x1 x2 x3 x4 M) ∧ ((x4 - x4 / x2 * x2) = x1 → gR M x0 6 0 (fun a21 => lL M a21 x4 (fun a26 => ((lg_cmp a26 (1000000000000)) = 0 → wp_B_countPart_37 post (fun x0 x1 x2 x3 x4 M => wp_B_countPart_5 post n x0 x1 x2 x3 x4 M) x0 x1 x2 x3 x4 M) ∧ (¬ (lg_cmp a26 (1000000000000)) = 0 → wp_B_countPart_37 post (fun x0 x1 x2 x3 x4 M => wp_B_countPart_5 post n x0 x1 x2 x3 x4 M) x0 x1 x2 (x3 + 1) x4 M))))))
set_option maxRecDepth 100000 in
set_option maxHeartbeats 4000000 in
theorem sd_B_countPart_5 (X : Cx p s m args meth c b_B_countPart 5 R_B TBL D dA B zE) (hr : meth.sig.returnType = (some .int)) (hin : meth.name = y_B_countPart.name) {post : Int32 → wM → Prop} : ∀ (n : Nat) (x0 : Option Ro) (x1 : Int32) (x2 : Int32) (x3 : Int32) (x4 : Int32) (M : wM), wp_B_countPart_5 post n x0 x1 x2 x3 x4 M → AW p l e (headSpec w_B_countPart rm_B_countPart).room s m args below meth c (MQ below (QI D dA B zE M0 ad0 post) args s 0 0 (wA B)) D dA B zE 5 ad0 M0 M 0 0 5 [(0, vR x0), (1, vI x1), (2, vI x2), (3, vI x3), (4, vI x4)] [] := by
  intro n
  induction n with
  | zero => intro x0 x1 x2 x3 x4 M h; exact h.elim
  | succ n ih =>
    intro x0 x1 x2 x3 x4 M h
    unfold wp_B_countPart_5 at h
    refine aw_iload X 4 rfl d_B_countPart_5 ?_
    refine aw_bipush X (32) (by decide) d_B_countPart_7 ?_
    refine aw_icmp_ge (tgt := 43) X d_B_countPart_9 (by decide) (fun c => ?_) (fun c => ?_)
    · have h := h.1 c
      refine aw_iload_n X 3 rfl d_B_countPart_43 rfl ?_
      exact aw_iret X hr (Nat.le_of_ble_eq_true rfl) (Nat.le_of_ble_eq_true rfl) d_B_countPart_44 h
    · have h := h.2 c
      refine aw_iload X 4 rfl d_B_countPart_12 ?_
      refine aw_iload_n X 2 rfl d_B_countPart_14 rfl ?_
      refine aw_irem X h.1 d_B_countPart_15 ?_
      have h := h.2
      refine aw_iload_n X 1 rfl d_B_countPart_16 rfl ?_
      refine aw_icmp_ne (tgt := 37) X d_B_countPart_17 (by decide) (fun c => ?_) (fun c => ?_)
      · have h := h.1 c
        exact sd_B_countPart_37 X hr hin ih h
      · have h := h.2 c
        refine aw_aload_n X 0 rfl d_B_countPart_20 rfl ?_
        refine aw_gR X hc_6 in_6 0 (by decide) LK_16 (fun _ _ _ _ h => h) d_B_countPart_21 (h.mono (fun a21 h => ?_))
        refine aw_iload X 4 rfl d_B_countPart_24 ?_
        refine aw_lL X d_B_countPart_26 (h.mono (fun a26 h => ?_))
        refine aw_ldc2 X LK_19 d_B_countPart_27 ?_
        refine aw_lcmp X d_B_countPart_30 ?_
        refine aw_if_eq (tgt := 37) X d_B_countPart_31 (by decide) (fun c => ?_) (fun c => ?_)
        · have h := h.1 c
          exact sd_B_countPart_37 X hr hin ih h
        · have h := h.2 c
          refine aw_iinc (y := x3 + 1) (lvn := [(3, _), (0, _), (1, _), (2, _), (4, _)]) X 3 rfl d_B_countPart_34 rfl (by decide) rfl ?_
          refine aw_lv [1, 2, 3, 0, 4] rfl ?_
          exact sd_B_countPart_37 X hr hin ih h
def wp_B_countPart (post : Int32 → wM → Prop) (x0 : Option Ro) (x1 : Int32) (x2 : Int32) (M : wM) : Prop := (∃ n, wp_B_countPart_5 post n x0 x1 x2 0 0 M)
set_option maxRecDepth 100000 in
set_option maxHeartbeats 4000000 in
theorem sd_B_countPart_0 (X : Cx p s m args meth c b_B_countPart 5 R_B TBL D dA B zE) (hr : meth.sig.returnType = (some .int)) (hin : meth.name = y_B_countPart.name) {post : Int32 → wM → Prop} {x0 : Option Ro} {x1 : Int32} {x2 : Int32} {M : wM} (h : wp_B_countPart post x0 x1 x2 M) : AW p l e (headSpec w_B_countPart rm_B_countPart).room s m args below meth c (MQ below (QI D dA B zE M0 ad0 post) args s 0 0 (wA B)) D dA B zE 5 ad0 M0 M 0 0 0 [(0, vR x0), (1, vI x1), (2, vI x2)] [] := by
  unfold wp_B_countPart at h
  refine aw_iconst X (0) (by decide) d_B_countPart_0 ?_
  refine aw_istore_n (lvn := [(3, _), (0, _), (1, _), (2, _)]) X d_B_countPart_1 rfl (by decide) rfl ?_
  refine aw_iconst X (0) (by decide) d_B_countPart_2 ?_
  refine aw_istore (lvn := [(4, _), (3, _), (0, _), (1, _), (2, _)]) X d_B_countPart_3 (by decide) rfl ?_
  refine aw_lv [2, 3, 4, 1, 0] rfl ?_
  obtain ⟨n, h⟩ := h
  exact sd_B_countPart_5 X hr hin n _ _ _ _ _ _ h
end
theorem t_B_countPart (l : Launch) {D : va_G} {dA : Nat → ClassId} {B : Nat} {zE : ZT} {M : wM} {ad : Ro → Nat} {post : Int32 → wM → Prop} {x0 : Option Ro} {x1 : Int32} {x2 : Int32} (hlv : lvS M [vR x0, vI x1, vI x2]) (h : wp_B_countPart post x0 x1 x2 M) : Met l y_B_countPart w_B_countPart rm_B_countPart (PA D dA B zE M ad [vR x0, vI x1, vI x2]) (QI D dA B zE M ad post) 0 0 (wA B) :=
  AW_start [vR x0, vI x1, vI x2] [(0, vR x0), (1, vI x1), (2, vI x2)] hlv (by decide +kernel) rfl (fun _ hw => List.mem_cons_of_mem _ hw) rfl (Nat.le_of_ble_eq_true rfl) (fun p e s m args below meth c X hr hin => sd_B_countPart_0 X hr hin h)
abbrev rm_Q_beginPart : Room := { frames := 0, cells := 0, slots := 0, locals := 0 }
section
variable {p : Program} {l : Launch} {e : Env} {s : State} {m : MethodId} {args : Array Value} {below : List Frame} {meth : Method} {c : Code} {D : va_G} {dA : Nat → ClassId} {B : Nat} {zE : ZT} {ad0 : Ro → Nat} {M0 : wM}
def wp_Q_beginPart (post : wM → Prop) (x0 : Option Ro) (x1 : Int32) (M : wM) : Prop := pF M x0 4 2 (vI 1) (fun M2 => pF M2 x0 4 3 (vI x1) (fun M7 => post M7))
set_option maxRecDepth 100000 in
set_option maxHeartbeats 4000000 in
theorem sd_Q_beginPart_0 (X : Cx p s m args meth c b_Q_beginPart 2 R_Q TBL D dA B zE) (hr : meth.sig.returnType = none) (hin : meth.name = y_Q_beginPart.name) {post : wM → Prop} {x0 : Option Ro} {x1 : Int32} {M : wM} (h : wp_Q_beginPart post x0 x1 M) : AW p l e (headSpec w_Q_beginPart rm_Q_beginPart).room s m args below meth c (MQ below (QV D dA B zE M0 ad0 post) args s 0 0 (wA B)) D dA B zE 2 ad0 M0 M 0 0 0 [(0, vR x0), (1, vI x1)] [] := by
  unfold wp_Q_beginPart at h
  refine aw_aload_n X 0 rfl d_Q_beginPart_0 rfl ?_
  refine aw_iconst X (1) (by decide) d_Q_beginPart_1 ?_
  refine aw_pF (ty := .boolean) X hc_4 in_4 2 (by decide) ty_4 tyok_4 nm_4 LK_62 (fun _ _ _ _ h => h) rfl (by decide +kernel) (fun _ => ⟨rfl, rfl⟩) d_Q_beginPart_2 (h.mono (fun M2 h => ?_))
  refine aw_aload_n X 0 rfl d_Q_beginPart_5 rfl ?_
  refine aw_iload_n X 1 rfl d_Q_beginPart_6 rfl ?_
  refine aw_pF (ty := .int) X hc_4 in_4 3 (by decide) ty_4 tyok_4 nm_4 LK_63 (fun _ _ _ _ h => h) rfl (by decide +kernel) (fun _ => ⟨rfl, rfl⟩) d_Q_beginPart_7 (h.mono (fun M7 h => ?_))
  exact aw_vret X hr (Nat.le_of_ble_eq_true rfl) (Nat.le_of_ble_eq_true rfl) d_Q_beginPart_10 h
end
theorem t_Q_beginPart (l : Launch) {D : va_G} {dA : Nat → ClassId} {B : Nat} {zE : ZT} {M : wM} {ad : Ro → Nat} {post : wM → Prop} {x0 : Option Ro} {x1 : Int32} (hlv : lvS M [vR x0, vI x1]) (h : wp_Q_beginPart post x0 x1 M) : Met l y_Q_beginPart w_Q_beginPart rm_Q_beginPart (PA D dA B zE M ad [vR x0, vI x1]) (QV D dA B zE M ad post) 0 0 (wA B) :=
  AW_start [vR x0, vI x1] [(0, vR x0), (1, vI x1)] hlv (by decide +kernel) rfl (fun _ hw => List.mem_cons_of_mem _ hw) rfl (Nat.le_of_ble_eq_true rfl) (fun p e s m args below meth c X hr hin => sd_Q_beginPart_0 X hr hin h)
