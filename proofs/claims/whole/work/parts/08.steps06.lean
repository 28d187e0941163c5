abbrev rm_C_finish : Room := { frames := 1, cells := 0, slots := 0, locals := 60 }
section
variable {p : Program} {l : Launch} {e : Env} {s : State} {m : MethodId} {args : Array Value} {below : List Frame} {meth : Method} {c : Code} {D : va_G} {dA : Nat → ClassId} {B : Nat} {zE : ZT} {ad0 : Ro → Nat} {M0 : wM}
def wp_C_finish (post : wM → Prop) (x0 : Option Ro) (x1 : Int32) (x2 : Option Ro) (M : wM) : Prop := pF M x0 1 2 (vI 1) (fun M2 => pZ M2 x0 1 3 x1 (fun M7 => gI M7 x2 3 7 (fun a12 => pF M7 x0 1 4 (vI a12) (fun M15 => gI M15 x2 3 6 (fun a20 => pF M15 x0 1 5 (vI a20) (fun M23 => gR M23 x2 3 5 (fun a27 => gR M23 x0 1 6 (fun a32 => cpI M23 a27 0 a32 0 4 (fun M37 => post M37)))))))))
set_option maxRecDepth 100000 in
set_option maxHeartbeats 4000000 in
theorem sd_C_finish_0 (X : Cx p s m args meth c b_C_finish 3 R_C TBL D dA B zE) (hr : meth.sig.returnType = none) (hin : meth.name = y_C_finish.name) {post : wM → Prop} {x0 : Option Ro} {x1 : Int32} {x2 : Option Ro} {M : wM} (h : wp_C_finish post x0 x1 x2 M) : AW p l e (headSpec w_C_finish rm_C_finish).room s m args below meth c (MQ below (QV D dA B zE M0 ad0 post) args s 0 0 (wA B)) D dA B zE 3 ad0 M0 M 0 0 0 [(0, vR x0), (1, vI x1), (2, vR x2)] [] := by
  unfold wp_C_finish at h
  refine aw_aload_n X 0 rfl d_C_finish_0 rfl ?_
  refine aw_iconst X (1) (by decide) d_C_finish_1 ?_
  refine aw_pF (ty := .boolean) X hc_1 in_1 2 (by decide) ty_1 tyok_1 nm_1 LK_52 (fun _ _ _ _ h => h) rfl (by decide +kernel) (fun _ => ⟨rfl, rfl⟩) d_C_finish_2 (h.mono (fun M2 h => ?_))
  refine aw_aload_n X 0 rfl d_C_finish_5 rfl ?_
  refine aw_iload_n X 1 rfl d_C_finish_6 rfl ?_
  obtain ⟨hz, h⟩ := h
  refine aw_pF (ty := .boolean) X hc_1 in_1 3 (by decide) ty_1 tyok_1 nm_1 LK_53 (fun _ _ _ _ h => h) rfl (by decide +kernel) (nfZ hz) d_C_finish_7 (h.mono (fun M7 h => ?_))
  refine aw_aload_n X 0 rfl d_C_finish_10 rfl ?_
  refine aw_aload_n X 2 rfl d_C_finish_11 rfl ?_
  refine aw_gI X hc_3 in_3 7 (by decide) LK_371 (fun _ _ _ _ h => h) d_C_finish_12 (h.mono (fun a12 h => ?_))
  refine aw_pF (ty := .int) X hc_1 in_1 4 (by decide) ty_1 tyok_1 nm_1 LK_54 (fun _ _ _ _ h => h) rfl (by decide +kernel) (fun _ => ⟨rfl, rfl⟩) d_C_finish_15 (h.mono (fun M15 h => ?_))
  refine aw_aload_n X 0 rfl d_C_finish_18 rfl ?_
  refine aw_aload_n X 2 rfl d_C_finish_19 rfl ?_
  refine aw_gI X hc_3 in_3 6 (by decide) LK_372 (fun _ _ _ _ h => h) d_C_finish_20 (h.mono (fun a20 h => ?_))
  refine aw_pF (ty := .int) X hc_1 in_1 5 (by decide) ty_1 tyok_1 nm_1 LK_55 (fun _ _ _ _ h => h) rfl (by decide +kernel) (fun _ => ⟨rfl, rfl⟩) d_C_finish_23 (h.mono (fun M23 h => ?_))
  refine aw_aload_n X 2 rfl d_C_finish_26 rfl ?_
  refine aw_gR X hc_3 in_3 5 (by decide) LK_373 (fun _ _ _ _ h => h) d_C_finish_27 (h.mono (fun a27 h => ?_))
  refine aw_iconst X (0) (by decide) d_C_finish_30 ?_
  refine aw_aload_n X 0 rfl d_C_finish_31 rfl ?_
  refine aw_gR X hc_1 in_1 6 (by decide) LK_56 (fun _ _ _ _ h => h) d_C_finish_32 (h.mono (fun a32 h => ?_))
  refine aw_iconst X (0) (by decide) d_C_finish_35 ?_
  refine aw_iconst X (4) (by decide) d_C_finish_36 ?_
  refine aw_cpI X LK_374 LK_138 LK_139 LK_140 (Nat.le_of_ble_eq_true rfl) (Nat.le_of_ble_eq_true rfl) d_C_finish_37 (h.mono (fun M37 h => ?_))
  exact aw_vret X hr (Nat.le_of_ble_eq_true rfl) (Nat.le_of_ble_eq_true rfl) d_C_finish_40 h
end
theorem t_C_finish (l : Launch) {D : va_G} {dA : Nat → ClassId} {B : Nat} {zE : ZT} {M : wM} {ad : Ro → Nat} {post : wM → Prop} {x0 : Option Ro} {x1 : Int32} {x2 : Option Ro} (hlv : lvS M [vR x0, vI x1, vR x2]) (h : wp_C_finish post x0 x1 x2 M) : Met l y_C_finish w_C_finish rm_C_finish (PA D dA B zE M ad [vR x0, vI x1, vR x2]) (QV D dA B zE M ad post) 0 0 (wA B) :=
  AW_start [vR x0, vI x1, vR x2] [(0, vR x0), (1, vI x1), (2, vR x2)] hlv (by decide +kernel) rfl (fun _ hw => List.mem_cons_of_mem _ hw) rfl (Nat.le_of_ble_eq_true rfl) (fun p e s m args below meth c X hr hin => sd_C_finish_0 X hr hin h)
abbrev rm_S_finish : Room := { frames := 5, cells := 0, slots := 0, locals := 148 }
section
variable {p : Program} {l : Launch} {e : Env} {s : State} {m : MethodId} {args : Array Value} {below : List Frame} {meth : Method} {c : Code} {D : va_G} {dA : Nat → ClassId} {B : Nat} {zE : ZT} {ad0 : Ro → Nat} {M0 : wM}
def wp_S_finish (post : wM → Prop) (x0 : Option Ro) (x1 : Option Ro) (M : wM) : Prop := gR M x0 0 4 (fun a1 => gI M x1 7 1 (fun a5 => lR M a1 a5 (fun a8 => gR M x0 0 6 (fun a12 => cV M a12 3 (wp_R_run (fun a16 M16 => gR M16 x0 0 6 (fun a20 => cV M16 a8 1 (wp_C_finish (fun M23 => gI M23 x0 0 12 (fun a28 => cV M23 a8 1 (wp_C_settle (fun M31 => post M31) a8 a28 M23))) a8 a16 a20 M16))) a12 x1 M)))))
set_option maxRecDepth 100000 in
set_option maxHeartbeats 4000000 in
theorem sd_S_finish_0 (X : Cx p s m args meth c b_S_finish 3 R_S TBL D dA B zE) (hr : meth.sig.returnType = none) (hin : meth.name = y_S_finish.name) {post : wM → Prop} {x0 : Option Ro} {x1 : Option Ro} {M : wM} (h : wp_S_finish post x0 x1 M) : AW p l e (headSpec w_S_finish rm_S_finish).room s m args below meth c (MQ below (QV D dA B zE M0 ad0 post) args s 0 0 (wA B)) D dA B zE 3 ad0 M0 M 0 0 0 [(0, vR x0), (1, vR x1)] [] := by
  unfold wp_S_finish at h
  refine aw_aload_n X 0 rfl d_S_finish_0 rfl ?_
  refine aw_gR X hc_0 in_0 4 (by decide) LK_72 (fun _ _ _ _ h => h) d_S_finish_1 (h.mono (fun a1 h => ?_))
  refine aw_aload_n X 1 rfl d_S_finish_4 rfl ?_
  refine aw_gI X hc_7 in_7 1 (by decide) LK_375 (fun _ _ _ _ h => h) d_S_finish_5 (h.mono (fun a5 h => ?_))
  refine aw_lR X d_S_finish_8 (h.mono (fun a8 h => ?_))
  refine aw_astore_n (lvn := [(2, _), (0, _), (1, _)]) X d_S_finish_9 rfl (by decide) rfl ?_
  refine aw_aload_n X 0 rfl d_S_finish_10 rfl ?_
  refine aw_aload_n X 1 rfl d_S_finish_11 rfl ?_
  refine aw_gR X hc_0 in_0 6 (by decide) LK_107 (fun _ _ _ _ h => h) d_S_finish_12 (h.mono (fun a12 h => ?_))
  refine aw_aload_n X 2 rfl d_S_finish_15 rfl ?_
  obtain ⟨⟨r16, f16, e16, g16⟩, h⟩ := h
  cases e16
  refine aw_cVi X [_] (fun ad hlv => t_R_run l hlv h) (cwV 1 X.hts (gd_V LK_376 LK_377 LK_378 LK_103 LK_code_R_run) rfl rfl rfl (by decide +kernel) ⟨(Nat.le_of_ble_eq_true rfl), (Nat.le_of_ble_eq_true rfl)⟩) ⟨3, f16, _, g16, hc_3, rfl⟩ rfl rfl (Nat.le_of_ble_eq_true rfl) d_S_finish_16 ⟨(Nat.le_of_ble_eq_true rfl), (Nat.le_of_ble_eq_true rfl)⟩ (fun a16 M16 h => ?_)
  refine aw_aload_n X 1 rfl d_S_finish_19 rfl ?_
  refine aw_gR X hc_0 in_0 6 (by decide) LK_107 (fun _ _ _ _ h => h) d_S_finish_20 (h.mono (fun a20 h => ?_))
  obtain ⟨⟨r23, f23, e23, g23⟩, h⟩ := h
  cases e23
  refine aw_cVv X [_, _] (fun ad hlv => t_C_finish l hlv h) (cwV 2 X.hts (gd_V LK_380 LK_381 LK_382 LK_75 LK_code_C_finish) rfl rfl rfl (by decide +kernel) ⟨(Nat.le_of_ble_eq_true rfl), (Nat.le_of_ble_eq_true rfl)⟩) ⟨1, f23, _, g23, hc_1, rfl⟩ rfl rfl (Nat.le_of_ble_eq_true rfl) d_S_finish_23 ⟨(Nat.le_of_ble_eq_true rfl), (Nat.le_of_ble_eq_true rfl)⟩ (fun M23 h => ?_)
  refine aw_aload_n X 0 rfl d_S_finish_26 rfl ?_
  refine aw_aload_n X 1 rfl d_S_finish_27 rfl ?_
  refine aw_gI X hc_0 in_0 12 (by decide) LK_93 (fun _ _ _ _ h => h) d_S_finish_28 (h.mono (fun a28 h => ?_))
  obtain ⟨⟨r31, f31, e31, g31⟩, h⟩ := h
  cases e31
  refine aw_cVv X [_] (fun ad hlv => t_C_settle l hlv h) (cwV 1 X.hts (gd_V LK_268 LK_269 LK_270 LK_75 LK_code_C_settle) rfl rfl rfl (by decide +kernel) ⟨(Nat.le_of_ble_eq_true rfl), (Nat.le_of_ble_eq_true rfl)⟩) ⟨1, f31, _, g31, hc_1, rfl⟩ rfl rfl (Nat.le_of_ble_eq_true rfl) d_S_finish_31 ⟨(Nat.le_of_ble_eq_true rfl), (Nat.le_of_ble_eq_true rfl)⟩ (fun M31 h => ?_)
  exact aw_vret X hr (Nat.le_of_ble_eq_true rfl) (Nat.le_of_ble_eq_true rfl) d_S_finish_34 h
end
theorem t_S_finish (l : Launch) {D : va_G} {dA : Nat → ClassId} {B : Nat} {zE : ZT} {M : wM} {ad : Ro → Nat} {post : wM → Prop} {x0 : Option Ro} {x1 : Option Ro} (hlv : lvS M [vR x0, vR x1]) (h : wp_S_finish post x0 x1 M) : Met l y_S_finish w_S_finish rm_S_finish (PA D dA B zE M ad [vR x0, vR x1]) (QV D dA B zE M ad post) 0 0 (wA B) :=
  AW_start [vR x0, vR x1] [(0, vR x0), (1, vR x1)] hlv (by decide +kernel) rfl (fun _ hw => List.mem_cons_of_mem _ hw) rfl (Nat.le_of_ble_eq_true rfl) (fun p e s m args below meth c X hr hin => sd_S_finish_0 X hr hin h)
abbrev rm_S_step : Room := { frames := 6, cells := 0, slots := 0, locals := 173 }
section
variable {p : Program} {l : Launch} {e : Env} {s : State} {m : MethodId} {args : Array Value} {below : List Frame} {meth : Method} {c : Code} {D : va_G} {dA : Nat → ClassId} {B : Nat} {zE : ZT} {ad0 : Ro → Nat} {M0 : wM}
def wp_S_step_88 (post : Int32 → wM → Prop) (x0 : Option Ro) (x1 : Int32) (x2 : Option Ro) (M : wM) : Prop := cV M x0 0 (wp_S_finish (fun M90 => post 1 M90) x0 x2 M)
set_option maxRecDepth 100000 in
set_option maxHeartbeats 4000000 in
theorem sd_S_step_88 (X : Cx p s m args meth c b_S_step 3 R_S TBL D dA B zE) (hr : meth.sig.returnType = (some .int)) (hin : meth.name = y_S_step.name) {post : Int32 → wM → Prop} {x0 : Option Ro} {x1 : Int32} {x2 : Option Ro} {M : wM} (h : wp_S_step_88 post x0 x1 x2 M) : AW p l e (headSpec w_S_step rm_S_step).room s m args below meth c (MQ below (QI D dA B zE M0 ad0 post) args s 0 0 (wA B)) D dA B zE 3 ad0 M0 M 0 0 88 [(0, vR x0), (1, vI x1), (2, vR x2)] [] := by
  unfold wp_S_step_88 at h
  refine aw_aload_n X 0 rfl d_S_step_88 rfl ?_
  refine aw_aload_n X 2 rfl d_S_step_89 rfl ?_
  obtain ⟨⟨r90, f90, e90, g90⟩, h⟩ := h
  cases e90
  refine aw_cVv X [_] (fun ad hlv => t_S_finish l hlv h) (cwV 1 X.hts (gd_V LK_384 LK_385 LK_386 LK_122 LK_code_S_finish) rfl rfl rfl (by decide +kernel) ⟨(Nat.le_of_ble_eq_true rfl), (Nat.le_of_ble_eq_true rfl)⟩) ⟨0, f90, _, g90, hc_0, rfl⟩ rfl rfl (Nat.le_of_ble_eq_true rfl) d_S_step_90 ⟨(Nat.le_of_ble_eq_true rfl), (Nat.le_of_ble_eq_true rfl)⟩ (fun M90 h => ?_)
  refine aw_iconst X (1) (by decide) d_S_step_93 ?_
  exact aw_iret X hr (Nat.le_of_ble_eq_true rfl) (Nat.le_of_ble_eq_true rfl) d_S_step_94 h
def wp_S_step (post : Int32 → wM → Prop) (x0 : Option Ro) (x1 : Int32) (M : wM) : Prop := gI M x0 0 0 (fun a2 => wp_S_isWithin (fun a5 M5 => (¬ a5 = 0 → gR M5 x0 0 3 (fun a14 => lR M5 a14 x1 (fun a18 => cV M5 a18 4 (wp_Q_first (fun a19 M19 => (¬ a19 = none → gR M19 a19 7 2 (fun a30 => (¬ a30 = none → gR M19 a19 7 2 (fun a44 => gI M19 a44 2 1 (fun a47 => (a47 = 0 → gR M19 x0 0 3 (fun a80 => lR M19 a80 x1 (fun a84 => cV M19 a84 4 (wp_Q_passOn (fun M85 => wp_S_step_88 post x0 x1 a19 M85) a84 M19)))) ∧ (¬ a47 = 0 → gR M19 x0 0 3 (fun a54 => lR M19 a54 x1 (fun a58 => pF M19 a58 4 1 (vI 1) (fun M60 => cV M60 x0 0 (wp_S_areAllStalled (fun a64 M64 => (¬ a64 = 0 → cV M64 x0 0 (wp_S_passOnAtAllSites (fun M73 => wp_S_step_88 post x0 x1 a19 M73) x0 M64)) ∧ (a64 = 0 → post 2 M64)) x0 M60)))))))) ∧ (a30 = none → cV M19 x0 0 (wp_S_comeToMarker (fun M38 => post 3 M38) x0 x1 M19)))) ∧ (a19 = none → post 0 M19)) a18 M5)))) ∧ (a5 = 0 → post (-1) M5)) x1 a2 M)
set_option maxRecDepth 100000 in
set_option maxHeartbeats 4000000 in
theorem sd_S_step_0 (X : Cx p s m args meth c b_S_step 3 R_S TBL D dA B zE) (hr : meth.sig.returnType = (some .int)) (hin : meth.name = y_S_step.name) {post : Int32 → wM → Prop} {x0 : Option Ro} {x1 : Int32} {M : wM} (h : wp_S_step post x0 x1 M) : AW p l e (headSpec w_S_step rm_S_step).room s m args below meth c (MQ below (QI D dA B zE M0 ad0 post) args s 0 0 (wA B)) D dA B zE 3 ad0 M0 M 0 0 0 [(0, vR x0), (1, vI x1)] [] := by
  unfold wp_S_step at h
  refine aw_iload_n X 1 rfl d_S_step_0 rfl ?_
  refine aw_aload_n X 0 rfl d_S_step_1 rfl ?_
  refine aw_gI X hc_0 in_0 0 (by decide) LK_64 (fun _ _ _ _ h => h) d_S_step_2 (h.mono (fun a2 h => ?_))
  refine aw_cSi X [_, _] (fun ad hlv => t_S_isWithin l hlv h) (cwS 2 X.hts (gd_S LK_120 LK_121 LK_122 LK_code_S_isWithin) rfl rfl rfl (by decide +kernel) ⟨(Nat.le_of_ble_eq_true rfl), (Nat.le_of_ble_eq_true rfl)⟩) rfl rfl (Nat.le_of_ble_eq_true rfl) d_S_step_5 ⟨(Nat.le_of_ble_eq_true rfl), (Nat.le_of_ble_eq_true rfl)⟩ (fun a5 M5 h => ?_)
  refine aw_if_ne (tgt := 13) X d_S_step_8 (by decide) (fun c => ?_) (fun c => ?_)
  · have h := h.1 c
    refine aw_aload_n X 0 rfl d_S_step_13 rfl ?_
    refine aw_gR X hc_0 in_0 3 (by decide) LK_66 (fun _ _ _ _ h => h) d_S_step_14 (h.mono (fun a14 h => ?_))
    refine aw_iload_n X 1 rfl d_S_step_17 rfl ?_
    refine aw_lR X d_S_step_18 (h.mono (fun a18 h => ?_))
    obtain ⟨⟨r19, f19, e19, g19⟩, h⟩ := h
    cases e19
    refine aw_cVr X [] (fun ad hlv => t_Q_first l hlv h) (cwV 0 X.hts (gd_V LK_388 LK_389 LK_390 LK_68 LK_code_Q_first) rfl rfl rfl (by decide +kernel) ⟨(Nat.le_of_ble_eq_true rfl), (Nat.le_of_ble_eq_true rfl)⟩) ⟨4, f19, _, g19, hc_4, rfl⟩ rfl rfl (Nat.le_of_ble_eq_true rfl) d_S_step_19 ⟨(Nat.le_of_ble_eq_true rfl), (Nat.le_of_ble_eq_true rfl)⟩ (fun a19 M19 h => ?_)
    refine aw_astore_n (lvn := [(2, _), (0, _), (1, _)]) X d_S_step_22 rfl (by decide) rfl ?_
    refine aw_aload_n X 0 rfl d_S_step_23 rfl ?_
    refine aw_ifnonnull (tgt := 29) X d_S_step_24 (by decide) (fun c => ?_) (fun c => ?_)
    · have h := h.1 c
      refine aw_aload_n X 0 rfl d_S_step_29 rfl ?_
      refine aw_gR X hc_7 in_7 2 (by decide) LK_235 (fun _ _ _ _ h => h) d_S_step_30 (h.mono (fun a30 h => ?_))
      refine aw_ifnonnull (tgt := 43) X d_S_step_33 (by decide) (fun c => ?_) (fun c => ?_)
      · have h := h.1 c
        refine aw_aload_n X 0 rfl d_S_step_43 rfl ?_
        refine aw_gR X hc_7 in_7 2 (by decide) LK_235 (fun _ _ _ _ h => h) d_S_step_44 (h.mono (fun a44 h => ?_))
        refine aw_gI X hc_2 in_2 1 (by decide) LK_236 (fun _ _ _ _ h => h) d_S_step_47 (h.mono (fun a47 h => ?_))
        refine aw_if_eq (tgt := 79) X d_S_step_50 (by decide) (fun c => ?_) (fun c => ?_)
        · have h := h.1 c
          refine aw_aload_n X 1 rfl d_S_step_79 rfl ?_
          refine aw_gR X hc_0 in_0 3 (by decide) LK_66 (fun _ _ _ _ h => h) d_S_step_80 (h.mono (fun a80 h => ?_))
          refine aw_iload_n X 2 rfl d_S_step_83 rfl ?_
          refine aw_lR X d_S_step_84 (h.mono (fun a84 h => ?_))
          obtain ⟨⟨r85, f85, e85, g85⟩, h⟩ := h
          cases e85
          refine aw_cVv X [] (fun ad hlv => t_Q_passOn l hlv h) (cwV 0 X.hts (gd_V LK_286 LK_287 LK_288 LK_68 LK_code_Q_passOn) rfl rfl rfl (by decide +kernel) ⟨(Nat.le_of_ble_eq_true rfl), (Nat.le_of_ble_eq_true rfl)⟩) ⟨4, f85, _, g85, hc_4, rfl⟩ rfl rfl (Nat.le_of_ble_eq_true rfl) d_S_step_85 ⟨(Nat.le_of_ble_eq_true rfl), (Nat.le_of_ble_eq_true rfl)⟩ (fun M85 h => ?_)
          refine aw_lv [1, 2, 0] rfl ?_
          exact sd_S_step_88 X hr hin h
        · have h := h.2 c
          refine aw_aload_n X 1 rfl d_S_step_53 rfl ?_
          refine aw_gR X hc_0 in_0 3 (by decide) LK_66 (fun _ _ _ _ h => h) d_S_step_54 (h.mono (fun a54 h => ?_))
          refine aw_iload_n X 2 rfl d_S_step_57 rfl ?_
          refine aw_lR X d_S_step_58 (h.mono (fun a58 h => ?_))
          refine aw_iconst X (1) (by decide) d_S_step_59 ?_
          refine aw_pF (ty := .boolean) X hc_4 in_4 1 (by decide) ty_4 tyok_4 nm_4 LK_308 (fun _ _ _ _ h => h) rfl (by decide +kernel) (fun _ => ⟨rfl, rfl⟩) d_S_step_60 (h.mono (fun M60 h => ?_))
          refine aw_aload_n X 1 rfl d_S_step_63 rfl ?_
          obtain ⟨⟨r64, f64, e64, g64⟩, h⟩ := h
          cases e64
          refine aw_cVi X [] (fun ad hlv => t_S_areAllStalled l hlv h) (cwV 0 X.hts (gd_V LK_392 LK_393 LK_394 LK_122 LK_code_S_areAllStalled) rfl rfl rfl (by decide +kernel) ⟨(Nat.le_of_ble_eq_true rfl), (Nat.le_of_ble_eq_true rfl)⟩) ⟨0, f64, _, g64, hc_0, rfl⟩ rfl rfl (Nat.le_of_ble_eq_true rfl) d_S_step_64 ⟨(Nat.le_of_ble_eq_true rfl), (Nat.le_of_ble_eq_true rfl)⟩ (fun a64 M64 h => ?_)
          refine aw_if_ne (tgt := 72) X d_S_step_67 (by decide) (fun c => ?_) (fun c => ?_)
          · have h := h.1 c
            refine aw_aload_n X 1 rfl d_S_step_72 rfl ?_
            obtain ⟨⟨r73, f73, e73, g73⟩, h⟩ := h
            cases e73
            refine aw_cVv X [] (fun ad hlv => t_S_passOnAtAllSites l hlv h) (cwV 0 X.hts (gd_V LK_396 LK_397 LK_398 LK_122 LK_code_S_passOnAtAllSites) rfl rfl rfl (by decide +kernel) ⟨(Nat.le_of_ble_eq_true rfl), (Nat.le_of_ble_eq_true rfl)⟩) ⟨0, f73, _, g73, hc_0, rfl⟩ rfl rfl (Nat.le_of_ble_eq_true rfl) d_S_step_73 ⟨(Nat.le_of_ble_eq_true rfl), (Nat.le_of_ble_eq_true rfl)⟩ (fun M73 h => ?_)
            refine aw_goto (tgt := 88) X d_S_step_76 (by decide) ?_
            refine aw_lv [1, 2, 0] rfl ?_
            exact sd_S_step_88 X hr hin h
          · have h := h.2 c
            refine aw_iconst X (2) (by decide) d_S_step_70 ?_
            exact aw_iret X hr (Nat.le_of_ble_eq_true rfl) (Nat.le_of_ble_eq_true rfl) d_S_step_71 h
      · have h := h.2 c
        refine aw_aload_n X 1 rfl d_S_step_36 rfl ?_
        refine aw_iload_n X 2 rfl d_S_step_37 rfl ?_
        obtain ⟨⟨r38, f38, e38, g38⟩, h⟩ := h
        cases e38
        refine aw_cVv X [_] (fun ad hlv => t_S_comeToMarker l hlv h) (cwV 1 X.hts (gd_V LK_400 LK_401 LK_402 LK_122 LK_code_S_comeToMarker) rfl rfl rfl (by decide +kernel) ⟨(Nat.le_of_ble_eq_true rfl), (Nat.le_of_ble_eq_true rfl)⟩) ⟨0, f38, _, g38, hc_0, rfl⟩ rfl rfl (Nat.le_of_ble_eq_true rfl) d_S_step_38 ⟨(Nat.le_of_ble_eq_true rfl), (Nat.le_of_ble_eq_true rfl)⟩ (fun M38 h => ?_)
        refine aw_iconst X (3) (by decide) d_S_step_41 ?_
        exact aw_iret X hr (Nat.le_of_ble_eq_true rfl) (Nat.le_of_ble_eq_true rfl) d_S_step_42 h
    · have h := h.2 c
      refine aw_iconst X (0) (by decide) d_S_step_27 ?_
      exact aw_iret X hr (Nat.le_of_ble_eq_true rfl) (Nat.le_of_ble_eq_true rfl) d_S_step_28 h
  · have h := h.2 c
    refine aw_iconst X (-1) (by decide) d_S_step_11 ?_
    exact aw_iret X hr (Nat.le_of_ble_eq_true rfl) (Nat.le_of_ble_eq_true rfl) d_S_step_12 h
end
theorem t_S_step (l : Launch) {D : va_G} {dA : Nat → ClassId} {B : Nat} {zE : ZT} {M : wM} {ad : Ro → Nat} {post : Int32 → wM → Prop} {x0 : Option Ro} {x1 : Int32} (hlv : lvS M [vR x0, vI x1]) (h : wp_S_step post x0 x1 M) : Met l y_S_step w_S_step rm_S_step (PA D dA B zE M ad [vR x0, vI x1]) (QI D dA B zE M ad post) 0 0 (wA B) :=
  AW_start [vR x0, vI x1] [(0, vR x0), (1, vI x1)] hlv (by decide +kernel) rfl (fun _ hw => List.mem_cons_of_mem _ hw) rfl (Nat.le_of_ble_eq_true rfl) (fun p e s m args below meth c X hr hin => sd_S_step_0 X hr hin h)
abbrev rm_S_flush : Room := { frames := 2, cells := 0, slots := 0, locals := 46 }
section
variable {p : Program} {l : Launch} {e : Env} {s : State} {m : MethodId} {args : Array Value} {below : List Frame} {meth : Method} {c : Code} {D : va_G} {dA : Nat → ClassId} {B : Nat} {zE : ZT} {ad0 : Ro → Nat} {M0 : wM}
def wp_S_flush (post : Int32 → wM → Prop) (x0 : Option Ro) (M : wM) : Prop := gI M x0 0 11 (fun a2 => cV M x0 0 (wp_S_raiseDurable (fun M5 => gI M5 x0 0 12 (fun a9 => post a9 M5)) x0 a2 M))
set_option maxRecDepth 100000 in
set_option maxHeartbeats 4000000 in
theorem sd_S_flush_0 (X : Cx p s m args meth c b_S_flush 1 R_S TBL D dA B zE) (hr : meth.sig.returnType = (some .int)) (hin : meth.name = y_S_flush.name) {post : Int32 → wM → Prop} {x0 : Option Ro} {M : wM} (h : wp_S_flush post x0 M) : AW p l e (headSpec w_S_flush rm_S_flush).room s m args below meth c (MQ below (QI D dA B zE M0 ad0 post) args s 0 0 (wA B)) D dA B zE 1 ad0 M0 M 0 0 0 [(0, vR x0)] [] := by
  unfold wp_S_flush at h
  refine aw_aload_n X 0 rfl d_S_flush_0 rfl ?_
  refine aw_aload_n X 0 rfl d_S_flush_1 rfl ?_
  refine aw_gI X hc_0 in_0 11 (by decide) LK_92 (fun _ _ _ _ h => h) d_S_flush_2 (h.mono (fun a2 h => ?_))
  obtain ⟨⟨r5, f5, e5, g5⟩, h⟩ := h
  cases e5
  refine aw_cVv X [_] (fun ad hlv => t_S_raiseDurable l hlv h) (cwV 1 X.hts (gd_V LK_280 LK_281 LK_282 LK_122 LK_code_S_raiseDurable) rfl rfl rfl (by decide +kernel) ⟨(Nat.le_of_ble_eq_true rfl), (Nat.le_of_ble_eq_true rfl)⟩) ⟨0, f5, _, g5, hc_0, rfl⟩ rfl rfl (Nat.le_of_ble_eq_true rfl) d_S_flush_5 ⟨(Nat.le_of_ble_eq_true rfl), (Nat.le_of_ble_eq_true rfl)⟩ (fun M5 h => ?_)
  refine aw_aload_n X 0 rfl d_S_flush_8 rfl ?_
  refine aw_gI X hc_0 in_0 12 (by decide) LK_93 (fun _ _ _ _ h => h) d_S_flush_9 (h.mono (fun a9 h => ?_))
  exact aw_iret X hr (Nat.le_of_ble_eq_true rfl) (Nat.le_of_ble_eq_true rfl) d_S_flush_12 h
end
theorem t_S_flush (l : Launch) {D : va_G} {dA : Nat → ClassId} {B : Nat} {zE : ZT} {M : wM} {ad : Ro → Nat} {post : Int32 → wM → Prop} {x0 : Option Ro} (hlv : lvS M [vR x0]) (h : wp_S_flush post x0 M) : Met l y_S_flush w_S_flush rm_S_flush (PA D dA B zE M ad [vR x0]) (QI D dA B zE M ad post) 0 0 (wA B) :=
  AW_start [vR x0] [(0, vR x0)] hlv (by decide +kernel) rfl (fun _ hw => List.mem_cons_of_mem _ hw) rfl (Nat.le_of_ble_eq_true rfl) (fun p e s m args below meth c X hr hin => sd_S_flush_0 X hr hin h)
abbrev rm_S_snapshot : Room := { frames := 8, cells := 6, slots := 4006, locals := 216 }
section
variable {p : Program} {l : Launch} {e : Env} {s : State} {m : MethodId} {args : Array Value} {below : List Frame} {meth : Method} {c : Code} {D : va_G} {dA : Nat → ClassId} {B : Nat} {zE : ZT} {ad0 : Ro → Nat} {M0 : wM}
def wp_S_snapshot_37 (post : Int32 → wM → Prop) : Nat → Option Ro → Option Ro → Int32 → Int32 → wM → Prop
  | 0, _, _, _, _, _ => False
  | n + 1, x0, x1, x2, x3, M => (x2 ≤ x3 → nO M 7 fd_7 (fun a60 M60 => gI M60 x0 0 11 (fun a65 => cV M60 a60 7 (wp_K_init (fun M73 => cV M73 x0 0 (wp_S_waitAtAllSites (fun M76 => gI M76 x0 0 11 (fun a80 => post a80 M76)) x0 a60 M73)) a60 a65 (-1) none 0 0 0 M60)))) ∧ (¬ x2 ≤ x3 → lR M x1 x3 (fun a44 => pF M a44 4 2 (vI 0) (fun M50 => wp_S_snapshot_37 post n x0 x1 x2 (x3 + 1) M50)))
set_option maxRecDepth 100000 in
set_option maxHeartbeats 4000000 in
theorem sd_S_snapshot_37 (X : Cx p s m args meth c b_S_snapshot 5 R_S TBL D dA B zE) (hr : meth.sig.returnType = (some .int)) (hin : meth.name = y_S_snapshot.name) {post : Int32 → wM → Prop} : ∀ (n : Nat) (x0 : Option Ro) (x1 : Option Ro) (x2 : Int32) (x3 : Int32) (M : wM), wp_S_snapshot_37 post n x0 x1 x2 x3 M → AW p l e (headSpec w_S_snapshot rm_S_snapshot).room s m args below meth c (MQ below (QI D dA B zE M0 ad0 post) args s 6 4006 (wA B)) D dA B zE 5 ad0 M0 M 0 0 37 [(0, vR x0), (1, vR x1), (2, vI x2), (3, vI x3)] [] := by
  intro n
  induction n with
  | zero => intro x0 x1 x2 x3 M h; exact h.elim
  | succ n ih =>
    intro x0 x1 x2 x3 M h
    unfold wp_S_snapshot_37 at h
    refine aw_iload_n X 3 rfl d_S_snapshot_37 rfl ?_
    refine aw_iload_n X 2 rfl d_S_snapshot_38 rfl ?_
    refine aw_icmp_ge (tgt := 59) X d_S_snapshot_39 (by decide) (fun c => ?_) (fun c => ?_)
    · have h := h.1 c
      refine aw_aload_n X 0 rfl d_S_snapshot_59 rfl ?_
      refine aw_nO X hc_7 in_7 ty_7 tyok_7 LK_225 LK_226 LK_227 fs_7 fl_7 (Nat.le_of_ble_eq_true rfl) (Nat.le_of_ble_eq_true rfl) d_S_snapshot_60 (h.mono (fun a60 M60 h => ?_))
      refine aw_dup X rfl d_S_snapshot_63 ?_
      refine aw_aload_n X 0 rfl d_S_snapshot_64 rfl ?_
      refine aw_gI X hc_0 in_0 11 (by decide) LK_92 (fun _ _ _ _ h => h) d_S_snapshot_65 (h.mono (fun a65 h => ?_))
      refine aw_iconst X (-1) (by decide) d_S_snapshot_68 ?_
      refine aw_null X d_S_snapshot_69 ?_
      refine aw_iconst X (0) (by decide) d_S_snapshot_70 ?_
      refine aw_iconst X (0) (by decide) d_S_snapshot_71 ?_
      refine aw_iconst X (0) (by decide) d_S_snapshot_72 ?_
      obtain ⟨⟨r73, f73, e73, g73⟩, h⟩ := h
      cases e73
      refine aw_cIv X [_, _, _, _, _, _] (fun ad hlv => t_K_init l hlv h) (cwI 6 X.hts (gd_in LK_code_K_init) rfl rfl rfl (X.hts _ LK_227) (X.hts _ LK_229) (X.hts _ LK_230) rfl (by decide +kernel) ⟨(Nat.le_of_ble_eq_true rfl), (Nat.le_of_ble_eq_true rfl)⟩) rfl rfl (Nat.le_of_ble_eq_true rfl) d_S_snapshot_73 ⟨(Nat.le_of_ble_eq_true rfl), (Nat.le_of_ble_eq_true rfl)⟩ (fun M73 h => ?_)
      obtain ⟨⟨r76, f76, e76, g76⟩, h⟩ := h
      cases e76
      refine aw_cVv X [_] (fun ad hlv => t_S_waitAtAllSites l hlv h) (cwV 1 X.hts (gd_V LK_241 LK_242 LK_243 LK_122 LK_code_S_waitAtAllSites) rfl rfl rfl (by decide +kernel) ⟨(Nat.le_of_ble_eq_true rfl), (Nat.le_of_ble_eq_true rfl)⟩) ⟨0, f76, _, g76, hc_0, rfl⟩ rfl rfl (Nat.le_of_ble_eq_true rfl) d_S_snapshot_76 ⟨(Nat.le_of_ble_eq_true rfl), (Nat.le_of_ble_eq_true rfl)⟩ (fun M76 h => ?_)
      refine aw_aload_n X 0 rfl d_S_snapshot_79 rfl ?_
      refine aw_gI X hc_0 in_0 11 (by decide) LK_92 (fun _ _ _ _ h => h) d_S_snapshot_80 (h.mono (fun a80 h => ?_))
      exact aw_iret X hr (Nat.le_of_ble_eq_true rfl) (Nat.le_of_ble_eq_true rfl) d_S_snapshot_83 h
    · have h := h.2 c
      refine aw_aload_n X 1 rfl d_S_snapshot_42 rfl ?_
      refine aw_iload_n X 3 rfl d_S_snapshot_43 rfl ?_
      refine aw_lR X d_S_snapshot_44 (h.mono (fun a44 h => ?_))
      refine aw_astore (lvn := [(4, _), (0, _), (1, _), (2, _), (3, _)]) X d_S_snapshot_45 (by decide) rfl ?_
      refine aw_aload X 0 rfl d_S_snapshot_47 ?_
      refine aw_iconst X (0) (by decide) d_S_snapshot_49 ?_
      refine aw_pF (ty := .boolean) X hc_4 in_4 2 (by decide) ty_4 tyok_4 nm_4 LK_284 (fun _ _ _ _ h => h) rfl (by decide +kernel) (fun _ => ⟨rfl, rfl⟩) d_S_snapshot_50 (h.mono (fun M50 h => ?_))
      refine aw_iinc (y := x3 + 1) (lvn := [(3, _), (4, _), (0, _), (1, _), (2, _)]) X 4 rfl d_S_snapshot_53 rfl (by decide) rfl ?_
      refine aw_goto (tgt := 37) X d_S_snapshot_56 (by decide) ?_
      refine aw_lv [2, 3, 4, 0] rfl ?_
      exact ih _ _ _ _ _ h
def wp_S_snapshot (post : Int32 → wM → Prop) (x0 : Option Ro) (M : wM) : Prop := gI M x0 0 10 (fun a1 => (a1 = 0 → gI M x0 0 11 (fun a11 => pF M x0 0 11 (vI (a11 + 1)) (fun M16 => gI M16 x0 0 11 (fun a21 => pF M16 x0 0 10 (vI a21) (fun M24 => gR M24 x0 0 3 (fun a28 => aN M24 a28 (fun a33 => (∃ n, wp_S_snapshot_37 post n x0 a28 a33 0 M24)))))))) ∧ (¬ a1 = 0 → post (-1) M))
set_option maxRecDepth 100000 in
set_option maxHeartbeats 4000000 in
theorem sd_S_snapshot_0 (X : Cx p s m args meth c b_S_snapshot 5 R_S TBL D dA B zE) (hr : meth.sig.returnType = (some .int)) (hin : meth.name = y_S_snapshot.name) {post : Int32 → wM → Prop} {x0 : Option Ro} {M : wM} (h : wp_S_snapshot post x0 M) : AW p l e (headSpec w_S_snapshot rm_S_snapshot).room s m args below meth c (MQ below (QI D dA B zE M0 ad0 post) args s 6 4006 (wA B)) D dA B zE 5 ad0 M0 M 0 0 0 [(0, vR x0)] [] := by
  unfold wp_S_snapshot at h
  refine aw_aload_n X 0 rfl d_S_snapshot_0 rfl ?_
  refine aw_gI X hc_0 in_0 10 (by decide) LK_91 (fun _ _ _ _ h => h) d_S_snapshot_1 (h.mono (fun a1 h => ?_))
  refine aw_if_eq (tgt := 9) X d_S_snapshot_4 (by decide) (fun c => ?_) (fun c => ?_)
  · have h := h.1 c
    refine aw_aload_n X 0 rfl d_S_snapshot_9 rfl ?_
    refine aw_dup X rfl d_S_snapshot_10 ?_
    refine aw_gI X hc_0 in_0 11 (by decide) LK_92 (fun _ _ _ _ h => h) d_S_snapshot_11 (h.mono (fun a11 h => ?_))
    refine aw_iconst X (1) (by decide) d_S_snapshot_14 ?_
    refine aw_iadd X d_S_snapshot_15 ?_
    refine aw_pF (ty := .int) X hc_0 in_0 11 (by decide) ty_0 tyok_0 nm_0 LK_92 (fun _ _ _ _ h => h) rfl (by decide +kernel) (fun _ => ⟨rfl, rfl⟩) d_S_snapshot_16 (h.mono (fun M16 h => ?_))
    refine aw_aload_n X 0 rfl d_S_snapshot_19 rfl ?_
    refine aw_aload_n X 0 rfl d_S_snapshot_20 rfl ?_
    refine aw_gI X hc_0 in_0 11 (by decide) LK_92 (fun _ _ _ _ h => h) d_S_snapshot_21 (h.mono (fun a21 h => ?_))
    refine aw_pF (ty := .int) X hc_0 in_0 10 (by decide) ty_0 tyok_0 nm_0 LK_91 (fun _ _ _ _ h => h) rfl (by decide +kernel) (fun _ => ⟨rfl, rfl⟩) d_S_snapshot_24 (h.mono (fun M24 h => ?_))
    refine aw_aload_n X 0 rfl d_S_snapshot_27 rfl ?_
    refine aw_gR X hc_0 in_0 3 (by decide) LK_66 (fun _ _ _ _ h => h) d_S_snapshot_28 (h.mono (fun a28 h => ?_))
    refine aw_astore_n (lvn := [(1, _), (0, _)]) X d_S_snapshot_31 rfl (by decide) rfl ?_
    refine aw_aload_n X 0 rfl d_S_snapshot_32 rfl ?_
    refine aw_aN X d_S_snapshot_33 (h.mono (fun a33 h => ?_))
    refine aw_istore_n (lvn := [(2, _), (1, _), (0, _)]) X d_S_snapshot_34 rfl (by decide) rfl ?_
    refine aw_iconst X (0) (by decide) d_S_snapshot_35 ?_
    refine aw_istore_n (lvn := [(3, _), (2, _), (1, _), (0, _)]) X d_S_snapshot_36 rfl (by decide) rfl ?_
    refine aw_lv [3, 2, 1, 0] rfl ?_
    obtain ⟨n, h⟩ := h
    exact sd_S_snapshot_37 X hr hin n _ _ _ _ _ h
  · have h := h.2 c
    refine aw_iconst X (-1) (by decide) d_S_snapshot_7 ?_
    exact aw_iret X hr (Nat.le_of_ble_eq_true rfl) (Nat.le_of_ble_eq_true rfl) d_S_snapshot_8 h
end
theorem t_S_snapshot (l : Launch) {D : va_G} {dA : Nat → ClassId} {B : Nat} {zE : ZT} {M : wM} {ad : Ro → Nat} {post : Int32 → wM → Prop} {x0 : Option Ro} (hlv : lvS M [vR x0]) (h : wp_S_snapshot post x0 M) : Met l y_S_snapshot w_S_snapshot rm_S_snapshot (PA D dA B zE M ad [vR x0]) (QI D dA B zE M ad post) 6 4006 (wA B) :=
  AW_start [vR x0] [(0, vR x0)] hlv (by decide +kernel) rfl (fun _ hw => List.mem_cons_of_mem _ hw) rfl (Nat.le_of_ble_eq_true rfl) (fun p e s m args below meth c X hr hin => sd_S_snapshot_0 X hr hin h)
abbrev rm_S_scan : Room := { frames := 5, cells := 0, slots := 0, locals := 152 }
section
variable {p : Program} {l : Launch} {e : Env} {s : State} {m : MethodId} {args : Array Value} {below : List Frame} {meth : Method} {c : Code} {D : va_G} {dA : Nat → ClassId} {B : Nat} {zE : ZT} {ad0 : Ro → Nat} {M0 : wM}
def wp_S_scan_30 (post : Int32 → wM → Prop) (x0 : Option Ro) (x1 : Int32) (x2 : Int32) (M : wM) : Prop := post (-1) M
set_option maxRecDepth 100000 in
set_option maxHeartbeats 4000000 in
theorem sd_S_scan_30 (X : Cx p s m args meth c b_S_scan 4 R_S TBL D dA B zE) (hr : meth.sig.returnType = (some .int)) (hin : meth.name = y_S_scan.name) {post : Int32 → wM → Prop} {x0 : Option Ro} {x1 : Int32} {x2 : Int32} {M : wM} (h : wp_S_scan_30 post x0 x1 x2 M) : AW p l e (headSpec w_S_scan rm_S_scan).room s m args below meth c (MQ below (QI D dA B zE M0 ad0 post) args s 0 0 (wA B)) D dA B zE 4 ad0 M0 M 0 0 30 [(0, vR x0), (1, vI x1), (2, vI x2)] [] := by
  unfold wp_S_scan_30 at h
  refine aw_iconst X (-1) (by decide) d_S_scan_30 ?_
  exact aw_iret X hr (Nat.le_of_ble_eq_true rfl) (Nat.le_of_ble_eq_true rfl) d_S_scan_31 h
def wp_S_scan (post : Int32 → wM → Prop) (x0 : Option Ro) (x1 : Int32) (x2 : Int32) (M : wM) : Prop := gI M x0 0 0 (fun a2 => wp_S_isWithin (fun a5 M5 => (a5 = 0 → wp_S_scan_30 post x0 x1 x2 M5) ∧ (¬ a5 = 0 → gI M5 x0 0 10 (fun a12 => (a12 = 0 → wp_S_scan_30 post x0 x1 x2 M5) ∧ (¬ a12 = 0 → gR M5 x0 0 3 (fun a19 => lR M5 a19 x1 (fun a23 => gI M5 a23 4 2 (fun a24 => (¬ a24 = 0 → gR M5 x0 0 3 (fun a33 => lR M5 a33 x1 (fun a37 => gI M5 a37 4 3 (fun a41 => wp_Ma_max (fun a46 M46 => gI M46 a37 4 3 (fun a50 => wp_Ma_min (fun a53 M53 => pF M53 a37 4 3 (vI (a41 - a53)) (fun M57 => cV M57 x0 0 (wp_S_completeSnapshotIfCopied (fun M61 => gI M61 a37 4 3 (fun a65 => post a65 M61)) x0 M57))) a46 a50 M46)) x2 0 M5)))) ∧ (a24 = 0 → wp_S_scan_30 post x0 x1 x2 M5)))))))) x1 a2 M)
set_option maxRecDepth 100000 in
set_option maxHeartbeats 4000000 in
theorem sd_S_scan_0 (X : Cx p s m args meth c b_S_scan 4 R_S TBL D dA B zE) (hr : meth.sig.returnType = (some .int)) (hin : meth.name = y_S_scan.name) {post : Int32 → wM → Prop} {x0 : Option Ro} {x1 : Int32} {x2 : Int32} {M : wM} (h : wp_S_scan post x0 x1 x2 M) : AW p l e (headSpec w_S_scan rm_S_scan).room s m args below meth c (MQ below (QI D dA B zE M0 ad0 post) args s 0 0 (wA B)) D dA B zE 4 ad0 M0 M 0 0 0 [(0, vR x0), (1, vI x1), (2, vI x2)] [] := by
  unfold wp_S_scan at h
  refine aw_iload_n X 1 rfl d_S_scan_0 rfl ?_
  refine aw_aload_n X 0 rfl d_S_scan_1 rfl ?_
  refine aw_gI X hc_0 in_0 0 (by decide) LK_64 (fun _ _ _ _ h => h) d_S_scan_2 (h.mono (fun a2 h => ?_))
  refine aw_cSi X [_, _] (fun ad hlv => t_S_isWithin l hlv h) (cwS 2 X.hts (gd_S LK_120 LK_121 LK_122 LK_code_S_isWithin) rfl rfl rfl (by decide +kernel) ⟨(Nat.le_of_ble_eq_true rfl), (Nat.le_of_ble_eq_true rfl)⟩) rfl rfl (Nat.le_of_ble_eq_true rfl) d_S_scan_5 ⟨(Nat.le_of_ble_eq_true rfl), (Nat.le_of_ble_eq_true rfl)⟩ (fun a5 M5 h => ?_)
  refine aw_if_eq (tgt := 30) X d_S_scan_8 (by decide) (fun c => ?_) (fun c => ?_)
  · have h := h.1 c
    exact sd_S_scan_30 X hr hin h
  · have h := h.2 c
    refine aw_aload_n X 0 rfl d_S_scan_11 rfl ?_
    refine aw_gI X hc_0 in_0 10 (by decide) LK_91 (fun _ _ _ _ h => h) d_S_scan_12 (h.mono (fun a12 h => ?_))
    refine aw_if_eq (tgt := 30) X d_S_scan_15 (by decide) (fun c => ?_) (fun c => ?_)
    · have h := h.1 c
      exact sd_S_scan_30 X hr hin h
    · have h := h.2 c
      refine aw_aload_n X 0 rfl d_S_scan_18 rfl ?_
      refine aw_gR X hc_0 in_0 3 (by decide) LK_66 (fun _ _ _ _ h => h) d_S_scan_19 (h.mono (fun a19 h => ?_))
      refine aw_iload_n X 1 rfl d_S_scan_22 rfl ?_
      refine aw_lR X d_S_scan_23 (h.mono (fun a23 h => ?_))
      refine aw_gI X hc_4 in_4 2 (by decide) LK_284 (fun _ _ _ _ h => h) d_S_scan_24 (h.mono (fun a24 h => ?_))
      refine aw_if_ne (tgt := 32) X d_S_scan_27 (by decide) (fun c => ?_) (fun c => ?_)
      · have h := h.1 c
        refine aw_aload_n X 0 rfl d_S_scan_32 rfl ?_
        refine aw_gR X hc_0 in_0 3 (by decide) LK_66 (fun _ _ _ _ h => h) d_S_scan_33 (h.mono (fun a33 h => ?_))
        refine aw_iload_n X 1 rfl d_S_scan_36 rfl ?_
        refine aw_lR X d_S_scan_37 (h.mono (fun a37 h => ?_))
        refine aw_astore_n (lvn := [(3, _), (0, _), (1, _), (2, _)]) X d_S_scan_38 rfl (by decide) rfl ?_
        refine aw_aload_n X 0 rfl d_S_scan_39 rfl ?_
        refine aw_dup X rfl d_S_scan_40 ?_
        refine aw_gI X hc_4 in_4 3 (by decide) LK_285 (fun _ _ _ _ h => h) d_S_scan_41 (h.mono (fun a41 h => ?_))
        refine aw_iload_n X 3 rfl d_S_scan_44 rfl ?_
        refine aw_iconst X (0) (by decide) d_S_scan_45 ?_
        refine aw_cSi X [_, _] (fun ad hlv => t_Ma_max l hlv h) (va_cwS 2 X.hts (gd_S2 LK_98 LK_99 LK_96 LK_code_Ma_max) rfl rfl rfl (by decide +kernel) ⟨(Nat.le_of_ble_eq_true rfl), (Nat.le_of_ble_eq_true rfl)⟩) rfl rfl (Nat.le_of_ble_eq_true rfl) d_S_scan_46 ⟨(Nat.le_of_ble_eq_true rfl), (Nat.le_of_ble_eq_true rfl)⟩ (fun a46 M46 h => ?_)
        refine aw_aload_n X 0 rfl d_S_scan_49 rfl ?_
        refine aw_gI X hc_4 in_4 3 (by decide) LK_285 (fun _ _ _ _ h => h) d_S_scan_50 (h.mono (fun a50 h => ?_))
        refine aw_cSi X [_, _] (fun ad hlv => t_Ma_min l hlv h) (va_cwS 2 X.hts (gd_S2 LK_94 LK_95 LK_96 LK_code_Ma_min) rfl rfl rfl (by decide +kernel) ⟨(Nat.le_of_ble_eq_true rfl), (Nat.le_of_ble_eq_true rfl)⟩) rfl rfl (Nat.le_of_ble_eq_true rfl) d_S_scan_53 ⟨(Nat.le_of_ble_eq_true rfl), (Nat.le_of_ble_eq_true rfl)⟩ (fun a53 M53 h => ?_)
        refine aw_isub X d_S_scan_56 ?_
        refine aw_pF (ty := .int) X hc_4 in_4 3 (by decide) ty_4 tyok_4 nm_4 LK_285 (fun _ _ _ _ h => h) rfl (by decide +kernel) (fun _ => ⟨rfl, rfl⟩) d_S_scan_57 (h.mono (fun M57 h => ?_))
        refine aw_aload_n X 1 rfl d_S_scan_60 rfl ?_
        obtain ⟨⟨r61, f61, e61, g61⟩, h⟩ := h
        cases e61
        refine aw_cVv X [] (fun ad hlv => t_S_completeSnapshotIfCopied l hlv h) (cwV 0 X.hts (gd_V LK_304 LK_305 LK_306 LK_122 LK_code_S_completeSnapshotIfCopied) rfl rfl rfl (by decide +kernel) ⟨(Nat.le_of_ble_eq_true rfl), (Nat.le_of_ble_eq_true rfl)⟩) ⟨0, f61, _, g61, hc_0, rfl⟩ rfl rfl (Nat.le_of_ble_eq_true rfl) d_S_scan_61 ⟨(Nat.le_of_ble_eq_true rfl), (Nat.le_of_ble_eq_true rfl)⟩ (fun M61 h => ?_)
        refine aw_aload_n X 0 rfl d_S_scan_64 rfl ?_
        refine aw_gI X hc_4 in_4 3 (by decide) LK_285 (fun _ _ _ _ h => h) d_S_scan_65 (h.mono (fun a65 h => ?_))
        exact aw_iret X hr (Nat.le_of_ble_eq_true rfl) (Nat.le_of_ble_eq_true rfl) d_S_scan_68 h
      · have h := h.2 c
        exact sd_S_scan_30 X hr hin h
end
theorem t_S_scan (l : Launch) {D : va_G} {dA : Nat → ClassId} {B : Nat} {zE : ZT} {M : wM} {ad : Ro → Nat} {post : Int32 → wM → Prop} {x0 : Option Ro} {x1 : Int32} {x2 : Int32} (hlv : lvS M [vR x0, vI x1, vI x2]) (h : wp_S_scan post x0 x1 x2 M) : Met l y_S_scan w_S_scan rm_S_scan (PA D dA B zE M ad [vR x0, vI x1, vI x2]) (QI D dA B zE M ad post) 0 0 (wA B) :=
  AW_start [vR x0, vI x1, vI x2] [(0, vR x0), (1, vI x1), (2, vI x2)] hlv (by decide +kernel) rfl (fun _ hw => List.mem_cons_of_mem _ hw) rfl (Nat.le_of_ble_eq_true rfl) (fun p e s m args below meth c X hr hin => sd_S_scan_0 X hr hin h)
abbrev rm_Q_restart : Room := { frames := 1, cells := 0, slots := 0, locals := 23 }
section
variable {p : Program} {l : Launch} {e : Env} {s : State} {m : MethodId} {args : Array Value} {below : List Frame} {meth : Method} {c : Code} {D : va_G} {dA : Nat → ClassId} {B : Nat} {zE : ZT} {ad0 : Ro → Nat} {M0 : wM}
def wp_Q_restart (post : wM → Prop) (x0 : Option Ro) (M : wM) : Prop := gR M x0 4 0 (fun a1 => cV M a1 8 (wp_A_clear (fun M4 => pF M4 x0 4 1 (vI 0) (fun M9 => post M9)) a1 M))
set_option maxRecDepth 100000 in
set_option maxHeartbeats 4000000 in
theorem sd_Q_restart_0 (X : Cx p s m args meth c b_Q_restart 1 R_Q TBL D dA B zE) (hr : meth.sig.returnType = none) (hin : meth.name = y_Q_restart.name) {post : wM → Prop} {x0 : Option Ro} {M : wM} (h : wp_Q_restart post x0 M) : AW p l e (headSpec w_Q_restart rm_Q_restart).room s m args below meth c (MQ below (QV D dA B zE M0 ad0 post) args s 0 0 (wA B)) D dA B zE 1 ad0 M0 M 0 0 0 [(0, vR x0)] [] := by
  unfold wp_Q_restart at h
  refine aw_aload_n X 0 rfl d_Q_restart_0 rfl ?_
  refine aw_gR X hc_4 in_4 0 (by decide) LK_60 (fun _ _ _ _ h => h) d_Q_restart_1 (h.mono (fun a1 h => ?_))
  obtain ⟨⟨r4, f4, e4, g4⟩, h⟩ := h
  cases e4
  refine aw_cVv X [] (fun ad hlv => t_A_clear l hlv h) (cwV 0 X.hts (gd_V LK_404 LK_117 LK_118 LK_42 LK_code_A_clear) rfl rfl rfl (by decide +kernel) ⟨(Nat.le_of_ble_eq_true rfl), (Nat.le_of_ble_eq_true rfl)⟩) ⟨8, f4, _, g4, hc_8, rfl⟩ rfl rfl (Nat.le_of_ble_eq_true rfl) d_Q_restart_4 ⟨(Nat.le_of_ble_eq_true rfl), (Nat.le_of_ble_eq_true rfl)⟩ (fun M4 h => ?_)
  refine aw_aload_n X 0 rfl d_Q_restart_7 rfl ?_
  refine aw_iconst X (0) (by decide) d_Q_restart_8 ?_
  refine aw_pF (ty := .boolean) X hc_4 in_4 1 (by decide) ty_4 tyok_4 nm_4 LK_61 (fun _ _ _ _ h => h) rfl (by decide +kernel) (fun _ => ⟨rfl, rfl⟩) d_Q_restart_9 (h.mono (fun M9 h => ?_))
  exact aw_vret X hr (Nat.le_of_ble_eq_true rfl) (Nat.le_of_ble_eq_true rfl) d_Q_restart_12 h
end
theorem t_Q_restart (l : Launch) {D : va_G} {dA : Nat → ClassId} {B : Nat} {zE : ZT} {M : wM} {ad : Ro → Nat} {post : wM → Prop} {x0 : Option Ro} (hlv : lvS M [vR x0]) (h : wp_Q_restart post x0 M) : Met l y_Q_restart w_Q_restart rm_Q_restart (PA D dA B zE M ad [vR x0]) (QV D dA B zE M ad post) 0 0 (wA B) :=
  AW_start [vR x0] [(0, vR x0)] hlv (by decide +kernel) rfl (fun _ hw => List.mem_cons_of_mem _ hw) rfl (Nat.le_of_ble_eq_true rfl) (fun p e s m args below meth c X hr hin => sd_Q_restart_0 X hr hin h)
abbrev rm_C_lose : Room := { frames := 0, cells := 0, slots := 0, locals := 0 }
section
variable {p : Program} {l : Launch} {e : Env} {s : State} {m : MethodId} {args : Array Value} {below : List Frame} {meth : Method} {c : Code} {D : va_G} {dA : Nat → ClassId} {B : Nat} {zE : ZT} {ad0 : Ro → Nat} {M0 : wM}
def wp_C_lose_13 (post : wM → Prop) (x0 : Option Ro) (M : wM) : Prop := post M
set_option maxRecDepth 100000 in
set_option maxHeartbeats 4000000 in
theorem sd_C_lose_13 (X : Cx p s m args meth c b_C_lose 1 R_C TBL D dA B zE) (hr : meth.sig.returnType = none) (hin : meth.name = y_C_lose.name) {post : wM → Prop} {x0 : Option Ro} {M : wM} (h : wp_C_lose_13 post x0 M) : AW p l e (headSpec w_C_lose rm_C_lose).room s m args below meth c (MQ below (QV D dA B zE M0 ad0 post) args s 0 0 (wA B)) D dA B zE 1 ad0 M0 M 0 0 13 [(0, vR x0)] [] := by
  unfold wp_C_lose_13 at h
  exact aw_vret X hr (Nat.le_of_ble_eq_true rfl) (Nat.le_of_ble_eq_true rfl) d_C_lose_13 h
def wp_C_lose (post : wM → Prop) (x0 : Option Ro) (M : wM) : Prop := gI M x0 1 0 (fun a1 => (¬ a1 = (1 : Int32) → wp_C_lose_13 post x0 M) ∧ (a1 = (1 : Int32) → pF M x0 1 0 (vI 4) (fun M10 => wp_C_lose_13 post x0 M10)))
set_option maxRecDepth 100000 in
set_option maxHeartbeats 4000000 in
theorem sd_C_lose_0 (X : Cx p s m args meth c b_C_lose 1 R_C TBL D dA B zE) (hr : meth.sig.returnType = none) (hin : meth.name = y_C_lose.name) {post : wM → Prop} {x0 : Option Ro} {M : wM} (h : wp_C_lose post x0 M) : AW p l e (headSpec w_C_lose rm_C_lose).room s m args below meth c (MQ below (QV D dA B zE M0 ad0 post) args s 0 0 (wA B)) D dA B zE 1 ad0 M0 M 0 0 0 [(0, vR x0)] [] := by
  unfold wp_C_lose at h
  refine aw_aload_n X 0 rfl d_C_lose_0 rfl ?_
  refine aw_gI X hc_1 in_1 0 (by decide) LK_50 (fun _ _ _ _ h => h) d_C_lose_1 (h.mono (fun a1 h => ?_))
  refine aw_iconst X (1) (by decide) d_C_lose_4 ?_
  refine aw_icmp_ne (tgt := 13) X d_C_lose_5 (by decide) (fun c => ?_) (fun c => ?_)
  · have h := h.1 c
    exact sd_C_lose_13 X hr hin h
  · have h := h.2 c
    refine aw_aload_n X 0 rfl d_C_lose_8 rfl ?_
    refine aw_iconst X (4) (by decide) d_C_lose_9 ?_
    refine aw_pF (ty := .int) X hc_1 in_1 0 (by decide) ty_1 tyok_1 nm_1 LK_50 (fun _ _ _ _ h => h) rfl (by decide +kernel) (fun _ => ⟨rfl, rfl⟩) d_C_lose_10 (h.mono (fun M10 h => ?_))
    exact sd_C_lose_13 X hr hin h
end
theorem t_C_lose (l : Launch) {D : va_G} {dA : Nat → ClassId} {B : Nat} {zE : ZT} {M : wM} {ad : Ro → Nat} {post : wM → Prop} {x0 : Option Ro} (hlv : lvS M [vR x0]) (h : wp_C_lose post x0 M) : Met l y_C_lose w_C_lose rm_C_lose (PA D dA B zE M ad [vR x0]) (QV D dA B zE M ad post) 0 0 (wA B) :=
  AW_start [vR x0] [(0, vR x0)] hlv (by decide +kernel) rfl (fun _ hw => List.mem_cons_of_mem _ hw) rfl (Nat.le_of_ble_eq_true rfl) (fun p e s m args below meth c X hr hin => sd_C_lose_0 X hr hin h)
abbrev rm_S_dropLogAbove : Room := { frames := 3, cells := 0, slots := 0, locals := 106 }
section
variable {p : Program} {l : Launch} {e : Env} {s : State} {m : MethodId} {args : Array Value} {below : List Frame} {meth : Method} {c : Code} {D : va_G} {dA : Nat → ClassId} {B : Nat} {zE : ZT} {ad0 : Ro → Nat} {M0 : wM}
def wp_S_dropLogAbove_47 (post : wM → Prop) (x0 : Option Ro) (x1 : Int32) (x2 : Int32) (M : wM) : Prop := post M
set_option maxRecDepth 100000 in
set_option maxHeartbeats 4000000 in
theorem sd_S_dropLogAbove_47 (X : Cx p s m args meth c b_S_dropLogAbove 3 R_S TBL D dA B zE) (hr : meth.sig.returnType = none) (hin : meth.name = y_S_dropLogAbove.name) {post : wM → Prop} {x0 : Option Ro} {x1 : Int32} {x2 : Int32} {M : wM} (h : wp_S_dropLogAbove_47 post x0 x1 x2 M) : AW p l e (headSpec w_S_dropLogAbove rm_S_dropLogAbove).room s m args below meth c (MQ below (QV D dA B zE M0 ad0 post) args s 0 0 (wA B)) D dA B zE 3 ad0 M0 M 0 0 47 [(0, vR x0), (1, vI x1), (2, vI x2)] [] := by
  unfold wp_S_dropLogAbove_47 at h
  exact aw_vret X hr (Nat.le_of_ble_eq_true rfl) (Nat.le_of_ble_eq_true rfl) d_S_dropLogAbove_47 h
def wp_S_dropLogAbove_10 (post : wM → Prop) : Nat → Option Ro → Int32 → Int32 → wM → Prop
  | 0, _, _, _, _ => False
  | n + 1, x0, x1, x2, M => (x2 < 0 → wp_S_dropLogAbove_47 post x0 x1 x2 M) ∧ (¬ x2 < 0 → gR M x0 0 5 (fun a15 => cV M a15 8 (wp_A_get (fun a19 M19 => ck M19 a19 7 (gI M19 a19 7 0 (fun a25 => (a25 ≤ x1 → wp_S_dropLogAbove_47 post x0 x1 x2 M19) ∧ (¬ a25 ≤ x1 → gR M19 x0 0 5 (fun a33 => cV M19 a33 8 (wp_A_remove (fun a37 M37 => wp_S_dropLogAbove_10 post n x0 x1 (x2 + (-1)) M37) a33 x2 M19)))))) a15 x2 M)))
set_option maxRecDepth 100000 in
set_option maxHeartbeats 4000000 in
theorem sd_S_dropLogAbove_10 (X : Cx p s m args meth c b_S_dropLogAbove 3 R_S TBL D dA B zE) (hr : meth.sig.returnType = none) (hin : meth.name = y_S_dropLogAbove.name) {post : wM → Prop} : ∀ (n : Nat) (x0 : Option Ro) (x1 : Int32) (x2 : Int32) (M : wM), wp_S_dropLogAbove_10 post n x0 x1 x2 M → AW p l e (headSpec w_S_dropLogAbove rm_S_dropLogAbove).room s m args below meth c (MQ below (QV D dA B zE M0 ad0 post) args s 0 0 (wA B)) D dA B zE 3 ad0 M0 M 0 0 10 [(0, vR x0), (1, vI x1), (2, vI x2)] [] := by
  intro n
  induction n with
  | zero => intro x0 x1 x2 M h; exact h.elim
  | succ n ih =>
    intro x0 x1 x2 M h
    unfold wp_S_dropLogAbove_10 at h
    refine aw_iload_n X 2 rfl d_S_dropLogAbove_10 rfl ?_
    refine aw_if_lt (tgt := 47) X d_S_dropLogAbove_11 (by decide) (fun c => ?_) (fun c => ?_)
    · have h := h.1 c
      exact sd_S_dropLogAbove_47 X hr hin h
    · have h := h.2 c
      refine aw_aload_n X 0 rfl d_S_dropLogAbove_14 rfl ?_
      refine aw_gR X hc_0 in_0 5 (by decide) LK_85 (fun _ _ _ _ h => h) d_S_dropLogAbove_15 (h.mono (fun a15 h => ?_))
      refine aw_iload_n X 2 rfl d_S_dropLogAbove_18 rfl ?_
      obtain ⟨⟨r19, f19, e19, g19⟩, h⟩ := h
      cases e19
      refine aw_cVr X [_] (fun ad hlv => t_A_get l hlv h) (cwV 1 X.hts (gd_V LK_265 LK_203 LK_204 LK_42 LK_code_A_get) rfl rfl rfl (by decide +kernel) ⟨(Nat.le_of_ble_eq_true rfl), (Nat.le_of_ble_eq_true rfl)⟩) ⟨8, f19, _, g19, hc_8, rfl⟩ rfl rfl (Nat.le_of_ble_eq_true rfl) d_S_dropLogAbove_19 ⟨(Nat.le_of_ble_eq_true rfl), (Nat.le_of_ble_eq_true rfl)⟩ (fun a19 M19 h => ?_)
      refine aw_ck X hc_7 LK_225 d_S_dropLogAbove_22 ⟨h.1, ?_⟩
      have h := h.2
      refine aw_gI X hc_7 in_7 0 (by decide) LK_266 (fun _ _ _ _ h => h) d_S_dropLogAbove_25 (h.mono (fun a25 h => ?_))
      refine aw_iload_n X 1 rfl d_S_dropLogAbove_28 rfl ?_
      refine aw_icmp_le (tgt := 47) X d_S_dropLogAbove_29 (by decide) (fun c => ?_) (fun c => ?_)
      · have h := h.1 c
        exact sd_S_dropLogAbove_47 X hr hin h
      · have h := h.2 c
        refine aw_aload_n X 0 rfl d_S_dropLogAbove_32 rfl ?_
        refine aw_gR X hc_0 in_0 5 (by decide) LK_85 (fun _ _ _ _ h => h) d_S_dropLogAbove_33 (h.mono (fun a33 h => ?_))
        refine aw_iload_n X 2 rfl d_S_dropLogAbove_36 rfl ?_
        obtain ⟨⟨r37, f37, e37, g37⟩, h⟩ := h
        cases e37
        refine aw_cVr X [_] (fun ad hlv => t_A_remove l hlv h) (cwV 1 X.hts (gd_V LK_267 LK_257 LK_258 LK_42 LK_code_A_remove) rfl rfl rfl (by decide +kernel) ⟨(Nat.le_of_ble_eq_true rfl), (Nat.le_of_ble_eq_true rfl)⟩) ⟨8, f37, _, g37, hc_8, rfl⟩ rfl rfl (Nat.le_of_ble_eq_true rfl) d_S_dropLogAbove_37 ⟨(Nat.le_of_ble_eq_true rfl), (Nat.le_of_ble_eq_true rfl)⟩ (fun a37 M37 h => ?_)
        refine aw_pop X rfl d_S_dropLogAbove_40 ?_
        refine aw_iinc (y := x2 + (-1)) (lvn := [(2, _), (0, _), (1, _)]) X 2 rfl d_S_dropLogAbove_41 rfl (by decide) rfl ?_
        refine aw_goto (tgt := 10) X d_S_dropLogAbove_44 (by decide) ?_
        refine aw_lv [1, 2, 0] rfl ?_
        exact ih _ _ _ _ h
def wp_S_dropLogAbove (post : wM → Prop) (x0 : Option Ro) (x1 : Int32) (M : wM) : Prop := gR M x0 0 5 (fun a1 => cV M a1 8 (wp_A_size (fun a4 M4 => (∃ n, wp_S_dropLogAbove_10 post n x0 x1 (a4 - 1) M4)) a1 M))
set_option maxRecDepth 100000 in
set_option maxHeartbeats 4000000 in
theorem sd_S_dropLogAbove_0 (X : Cx p s m args meth c b_S_dropLogAbove 3 R_S TBL D dA B zE) (hr : meth.sig.returnType = none) (hin : meth.name = y_S_dropLogAbove.name) {post : wM → Prop} {x0 : Option Ro} {x1 : Int32} {M : wM} (h : wp_S_dropLogAbove post x0 x1 M) : AW p l e (headSpec w_S_dropLogAbove rm_S_dropLogAbove).room s m args below meth c (MQ below (QV D dA B zE M0 ad0 post) args s 0 0 (wA B)) D dA B zE 3 ad0 M0 M 0 0 0 [(0, vR x0), (1, vI x1)] [] := by
  unfold wp_S_dropLogAbove at h
  refine aw_aload_n X 0 rfl d_S_dropLogAbove_0 rfl ?_
  refine aw_gR X hc_0 in_0 5 (by decide) LK_85 (fun _ _ _ _ h => h) d_S_dropLogAbove_1 (h.mono (fun a1 h => ?_))
  obtain ⟨⟨r4, f4, e4, g4⟩, h⟩ := h
  cases e4
  refine aw_cVi X [] (fun ad hlv => t_A_size l hlv h) (cwV 0 X.hts (gd_V LK_175 LK_176 LK_177 LK_42 LK_code_A_size) rfl rfl rfl (by decide +kernel) ⟨(Nat.le_of_ble_eq_true rfl), (Nat.le_of_ble_eq_true rfl)⟩) ⟨8, f4, _, g4, hc_8, rfl⟩ rfl rfl (Nat.le_of_ble_eq_true rfl) d_S_dropLogAbove_4 ⟨(Nat.le_of_ble_eq_true rfl), (Nat.le_of_ble_eq_true rfl)⟩ (fun a4 M4 h => ?_)
  refine aw_iconst X (1) (by decide) d_S_dropLogAbove_7 ?_
  refine aw_isub X d_S_dropLogAbove_8 ?_
  refine aw_istore_n (lvn := [(2, _), (0, _), (1, _)]) X d_S_dropLogAbove_9 rfl (by decide) rfl ?_
  refine aw_lv [1, 2, 0] rfl ?_
  obtain ⟨n, h⟩ := h
  exact sd_S_dropLogAbove_10 X hr hin n _ _ _ _ h
end
theorem t_S_dropLogAbove (l : Launch) {D : va_G} {dA : Nat → ClassId} {B : Nat} {zE : ZT} {M : wM} {ad : Ro → Nat} {post : wM → Prop} {x0 : Option Ro} {x1 : Int32} (hlv : lvS M [vR x0, vI x1]) (h : wp_S_dropLogAbove post x0 x1 M) : Met l y_S_dropLogAbove w_S_dropLogAbove rm_S_dropLogAbove (PA D dA B zE M ad [vR x0, vI x1]) (QV D dA B zE M ad post) 0 0 (wA B) :=
  AW_start [vR x0, vI x1] [(0, vR x0), (1, vI x1)] hlv (by decide +kernel) rfl (fun _ hw => List.mem_cons_of_mem _ hw) rfl (Nat.le_of_ble_eq_true rfl) (fun p e s m args below meth c X hr hin => sd_S_dropLogAbove_0 X hr hin h)
abbrev rm_S_crash : Room := { frames := 5, cells := 0, slots := 0, locals := 148 }
section
variable {p : Program} {l : Launch} {e : Env} {s : State} {m : MethodId} {args : Array Value} {below : List Frame} {meth : Method} {c : Code} {D : va_G} {dA : Nat → ClassId} {B : Nat} {zE : ZT} {ad0 : Ro → Nat} {M0 : wM}
def wp_S_crash_99 (post : Int32 → wM → Prop) : Nat → Option Ro → Int32 → Int32 → Int32 → wM → Prop
  | 0, _, _, _, _, _ => False
  | n + 1, x0, x1, x2, x3, M => gR M x0 0 5 (fun a101 => cV M a101 8 (wp_A_size (fun a104 M104 => (a104 ≤ x1 → gI M104 x0 0 12 (fun a136 => post a136 M104)) ∧ (¬ a104 ≤ x1 → gR M104 x0 0 6 (fun a111 => gR M104 x0 0 5 (fun a115 => cV M104 a115 8 (wp_A_get (fun a119 M119 => ck M119 a119 7 (cV M119 a111 3 (wp_R_run (fun a125 M125 => wp_S_crash_99 post n x0 (x1 + 1) x2 x3 M125) a111 a119 M119))) a115 x1 M104))))) a101 M))
set_option maxRecDepth 100000 in
set_option maxHeartbeats 4000000 in
theorem sd_S_crash_99 (X : Cx p s m args meth c b_S_crash 5 R_S TBL D dA B zE) (hr : meth.sig.returnType = (some .int)) (hin : meth.name = y_S_crash.name) {post : Int32 → wM → Prop} : ∀ (n : Nat) (x0 : Option Ro) (x1 : Int32) (x2 : Int32) (x3 : Int32) (M : wM), wp_S_crash_99 post n x0 x1 x2 x3 M → AW p l e (headSpec w_S_crash rm_S_crash).room s m args below meth c (MQ below (QI D dA B zE M0 ad0 post) args s 0 0 (wA B)) D dA B zE 5 ad0 M0 M 0 0 99 [(0, vR x0), (1, vI x1), (2, vI x2), (3, vI x3)] [] := by
  intro n
  induction n with
  | zero => intro x0 x1 x2 x3 M h; exact h.elim
  | succ n ih =>
    intro x0 x1 x2 x3 M h
    unfold wp_S_crash_99 at h
    refine aw_iload_n X 1 rfl d_S_crash_99 rfl ?_
    refine aw_aload_n X 0 rfl d_S_crash_100 rfl ?_
    refine aw_gR X hc_0 in_0 5 (by decide) LK_85 (fun _ _ _ _ h => h) d_S_crash_101 (h.mono (fun a101 h => ?_))
    obtain ⟨⟨r104, f104, e104, g104⟩, h⟩ := h
    cases e104
    refine aw_cVi X [] (fun ad hlv => t_A_size l hlv h) (cwV 0 X.hts (gd_V LK_175 LK_176 LK_177 LK_42 LK_code_A_size) rfl rfl rfl (by decide +kernel) ⟨(Nat.le_of_ble_eq_true rfl), (Nat.le_of_ble_eq_true rfl)⟩) ⟨8, f104, _, g104, hc_8, rfl⟩ rfl rfl (Nat.le_of_ble_eq_true rfl) d_S_crash_104 ⟨(Nat.le_of_ble_eq_true rfl), (Nat.le_of_ble_eq_true rfl)⟩ (fun a104 M104 h => ?_)
    refine aw_icmp_ge (tgt := 135) X d_S_crash_107 (by decide) (fun c => ?_) (fun c => ?_)
    · have h := h.1 c
      refine aw_aload_n X 0 rfl d_S_crash_135 rfl ?_
      refine aw_gI X hc_0 in_0 12 (by decide) LK_93 (fun _ _ _ _ h => h) d_S_crash_136 (h.mono (fun a136 h => ?_))
      exact aw_iret X hr (Nat.le_of_ble_eq_true rfl) (Nat.le_of_ble_eq_true rfl) d_S_crash_139 h
    · have h := h.2 c
      refine aw_aload_n X 0 rfl d_S_crash_110 rfl ?_
      refine aw_gR X hc_0 in_0 6 (by decide) LK_107 (fun _ _ _ _ h => h) d_S_crash_111 (h.mono (fun a111 h => ?_))
      refine aw_aload_n X 0 rfl d_S_crash_114 rfl ?_
      refine aw_gR X hc_0 in_0 5 (by decide) LK_85 (fun _ _ _ _ h => h) d_S_crash_115 (h.mono (fun a115 h => ?_))
      refine aw_iload_n X 1 rfl d_S_crash_118 rfl ?_
      obtain ⟨⟨r119, f119, e119, g119⟩, h⟩ := h
      cases e119
      refine aw_cVr X [_] (fun ad hlv => t_A_get l hlv h) (cwV 1 X.hts (gd_V LK_265 LK_203 LK_204 LK_42 LK_code_A_get) rfl rfl rfl (by decide +kernel) ⟨(Nat.le_of_ble_eq_true rfl), (Nat.le_of_ble_eq_true rfl)⟩) ⟨8, f119, _, g119, hc_8, rfl⟩ rfl rfl (Nat.le_of_ble_eq_true rfl) d_S_crash_119 ⟨(Nat.le_of_ble_eq_true rfl), (Nat.le_of_ble_eq_true rfl)⟩ (fun a119 M119 h => ?_)
      refine aw_ck X hc_7 LK_225 d_S_crash_122 ⟨h.1, ?_⟩
      have h := h.2
      obtain ⟨⟨r125, f125, e125, g125⟩, h⟩ := h
      cases e125
      refine aw_cVi X [_] (fun ad hlv => t_R_run l hlv h) (cwV 1 X.hts (gd_V LK_376 LK_377 LK_378 LK_103 LK_code_R_run) rfl rfl rfl (by decide +kernel) ⟨(Nat.le_of_ble_eq_true rfl), (Nat.le_of_ble_eq_true rfl)⟩) ⟨3, f125, _, g125, hc_3, rfl⟩ rfl rfl (Nat.le_of_ble_eq_true rfl) d_S_crash_125 ⟨(Nat.le_of_ble_eq_true rfl), (Nat.le_of_ble_eq_true rfl)⟩ (fun a125 M125 h => ?_)
      refine aw_pop X rfl d_S_crash_128 ?_
      refine aw_iinc (y := x1 + 1) (lvn := [(1, _), (0, _), (2, _), (3, _)]) X 1 rfl d_S_crash_129 rfl (by decide) rfl ?_
      refine aw_goto (tgt := 99) X d_S_crash_132 (by decide) ?_
      refine aw_lv [1, 0, 2, 3] rfl ?_
      exact ih _ _ _ _ _ h
def wp_S_crash_46 (post : Int32 → wM → Prop) : Nat → Option Ro → Option Ro → Int32 → Int32 → wM → Prop
  | 0, _, _, _, _, _ => False
  | n + 1, x0, x1, x2, x3, M => (x2 ≤ x3 → gI M x0 0 12 (fun a69 => cV M x0 0 (wp_S_dropLogAbove (fun M72 => gI M72 x0 0 12 (fun a77 => pF M72 x0 0 11 (vI a77) (fun M80 => gR M80 x0 0 6 (fun a84 => gR M80 a84 3 0 (fun a87 => gR M80 x0 0 7 (fun a91 => cV M80 a87 6 (wp_B_copyFrom (fun M94 => (∃ n, wp_S_crash_99 post n x0 0 x2 x3 M94)) a87 a91 M80))))))) x0 a69 M))) ∧ (¬ x2 ≤ x3 → lR M x1 x3 (fun a53 => cV M a53 1 (wp_C_lose (fun M58 => wp_S_crash_46 post n x0 x1 x2 (x3 + 1) M58) a53 M)))
set_option maxRecDepth 100000 in
set_option maxHeartbeats 4000000 in
theorem sd_S_crash_46 (X : Cx p s m args meth c b_S_crash 5 R_S TBL D dA B zE) (hr : meth.sig.returnType = (some .int)) (hin : meth.name = y_S_crash.name) {post : Int32 → wM → Prop} : ∀ (n : Nat) (x0 : Option Ro) (x1 : Option Ro) (x2 : Int32) (x3 : Int32) (M : wM), wp_S_crash_46 post n x0 x1 x2 x3 M → AW p l e (headSpec w_S_crash rm_S_crash).room s m args below meth c (MQ below (QI D dA B zE M0 ad0 post) args s 0 0 (wA B)) D dA B zE 5 ad0 M0 M 0 0 46 [(0, vR x0), (1, vR x1), (2, vI x2), (3, vI x3)] [] := by
  intro n
  induction n with
  | zero => intro x0 x1 x2 x3 M h; exact h.elim
  | succ n ih =>
    intro x0 x1 x2 x3 M h
    unfold wp_S_crash_46 at h
    refine aw_iload_n X 3 rfl d_S_crash_46 rfl ?_
    refine aw_iload_n X 2 rfl d_S_crash_47 rfl ?_
    refine aw_icmp_ge (tgt := 67) X d_S_crash_48 (by decide) (fun c => ?_) (fun c => ?_)
    · have h := h.1 c
      refine aw_aload_n X 0 rfl d_S_crash_67 rfl ?_
      refine aw_aload_n X 0 rfl d_S_crash_68 rfl ?_
      refine aw_gI X hc_0 in_0 12 (by decide) LK_93 (fun _ _ _ _ h => h) d_S_crash_69 (h.mono (fun a69 h => ?_))
      obtain ⟨⟨r72, f72, e72, g72⟩, h⟩ := h
      cases e72
      refine aw_cVv X [_] (fun ad hlv => t_S_dropLogAbove l hlv h) (cwV 1 X.hts (gd_V LK_405 LK_406 LK_407 LK_122 LK_code_S_dropLogAbove) rfl rfl rfl (by decide +kernel) ⟨(Nat.le_of_ble_eq_true rfl), (Nat.le_of_ble_eq_true rfl)⟩) ⟨0, f72, _, g72, hc_0, rfl⟩ rfl rfl (Nat.le_of_ble_eq_true rfl) d_S_crash_72 ⟨(Nat.le_of_ble_eq_true rfl), (Nat.le_of_ble_eq_true rfl)⟩ (fun M72 h => ?_)
      refine aw_aload_n X 0 rfl d_S_crash_75 rfl ?_
      refine aw_aload_n X 0 rfl d_S_crash_76 rfl ?_
      refine aw_gI X hc_0 in_0 12 (by decide) LK_93 (fun _ _ _ _ h => h) d_S_crash_77 (h.mono (fun a77 h => ?_))
      refine aw_pF (ty := .int) X hc_0 in_0 11 (by decide) ty_0 tyok_0 nm_0 LK_92 (fun _ _ _ _ h => h) rfl (by decide +kernel) (fun _ => ⟨rfl, rfl⟩) d_S_crash_80 (h.mono (fun M80 h => ?_))
      refine aw_aload_n X 0 rfl d_S_crash_83 rfl ?_
      refine aw_gR X hc_0 in_0 6 (by decide) LK_107 (fun _ _ _ _ h => h) d_S_crash_84 (h.mono (fun a84 h => ?_))
      refine aw_gR X hc_3 in_3 0 (by decide) LK_290 (fun _ _ _ _ h => h) d_S_crash_87 (h.mono (fun a87 h => ?_))
      refine aw_aload_n X 0 rfl d_S_crash_90 rfl ?_
      refine aw_gR X hc_0 in_0 7 (by decide) LK_88 (fun _ _ _ _ h => h) d_S_crash_91 (h.mono (fun a91 h => ?_))
      obtain ⟨⟨r94, f94, e94, g94⟩, h⟩ := h
      cases e94
      refine aw_cVv X [_] (fun ad hlv => t_B_copyFrom l hlv h) (cwV 1 X.hts (gd_V LK_272 LK_273 LK_274 LK_27 LK_code_B_copyFrom) rfl rfl rfl (by decide +kernel) ⟨(Nat.le_of_ble_eq_true rfl), (Nat.le_of_ble_eq_true rfl)⟩) ⟨6, f94, _, g94, hc_6, rfl⟩ rfl rfl (Nat.le_of_ble_eq_true rfl) d_S_crash_94 ⟨(Nat.le_of_ble_eq_true rfl), (Nat.le_of_ble_eq_true rfl)⟩ (fun M94 h => ?_)
      refine aw_iconst X (0) (by decide) d_S_crash_97 ?_
      refine aw_istore_n (lvn := [(1, _), (0, _), (2, _), (3, _)]) X d_S_crash_98 rfl (by decide) rfl ?_
      refine aw_lv [1, 0, 2, 3] rfl ?_
      obtain ⟨n, h⟩ := h
      exact sd_S_crash_99 X hr hin n _ _ _ _ _ h
    · have h := h.2 c
      refine aw_aload_n X 1 rfl d_S_crash_51 rfl ?_
      refine aw_iload_n X 3 rfl d_S_crash_52 rfl ?_
      refine aw_lR X d_S_crash_53 (h.mono (fun a53 h => ?_))
      refine aw_astore (lvn := [(4, _), (0, _), (1, _), (2, _), (3, _)]) X d_S_crash_54 (by decide) rfl ?_
      refine aw_aload X 0 rfl d_S_crash_56 ?_
      obtain ⟨⟨r58, f58, e58, g58⟩, h⟩ := h
      cases e58
      refine aw_cVv X [] (fun ad hlv => t_C_lose l hlv h) (cwV 0 X.hts (gd_V LK_409 LK_410 LK_411 LK_75 LK_code_C_lose) rfl rfl rfl (by decide +kernel) ⟨(Nat.le_of_ble_eq_true rfl), (Nat.le_of_ble_eq_true rfl)⟩) ⟨1, f58, _, g58, hc_1, rfl⟩ rfl rfl (Nat.le_of_ble_eq_true rfl) d_S_crash_58 ⟨(Nat.le_of_ble_eq_true rfl), (Nat.le_of_ble_eq_true rfl)⟩ (fun M58 h => ?_)
      refine aw_iinc (y := x3 + 1) (lvn := [(3, _), (4, _), (0, _), (1, _), (2, _)]) X 4 rfl d_S_crash_61 rfl (by decide) rfl ?_
      refine aw_goto (tgt := 46) X d_S_crash_64 (by decide) ?_
      refine aw_lv [2, 3, 4, 0] rfl ?_
      exact ih _ _ _ _ _ h
def wp_S_crash_10 (post : Int32 → wM → Prop) : Nat → Option Ro → Option Ro → Int32 → Int32 → wM → Prop
  | 0, _, _, _, _, _ => False
  | n + 1, x0, x1, x2, x3, M => (x2 ≤ x3 → pF M x0 0 10 (vI 0) (fun M33 => gR M33 x0 0 4 (fun a37 => aN M33 a37 (fun a42 => (∃ n, wp_S_crash_46 post n x0 a37 a42 0 M33))))) ∧ (¬ x2 ≤ x3 → lR M x1 x3 (fun a17 => cV M a17 4 (wp_Q_restart (fun M22 => wp_S_crash_10 post n x0 x1 x2 (x3 + 1) M22) a17 M)))
set_option maxRecDepth 100000 in
set_option maxHeartbeats 4000000 in
theorem sd_S_crash_10 (X : Cx p s m args meth c b_S_crash 5 R_S TBL D dA B zE) (hr : meth.sig.returnType = (some .int)) (hin : meth.name = y_S_crash.name) {post : Int32 → wM → Prop} : ∀ (n : Nat) (x0 : Option Ro) (x1 : Option Ro) (x2 : Int32) (x3 : Int32) (M : wM), wp_S_crash_10 post n x0 x1 x2 x3 M → AW p l e (headSpec w_S_crash rm_S_crash).room s m args below meth c (MQ below (QI D dA B zE M0 ad0 post) args s 0 0 (wA B)) D dA B zE 5 ad0 M0 M 0 0 10 [(0, vR x0), (1, vR x1), (2, vI x2), (3, vI x3)] [] := by
  intro n
  induction n with
  | zero => intro x0 x1 x2 x3 M h; exact h.elim
  | succ n ih =>
    intro x0 x1 x2 x3 M h
    unfold wp_S_crash_10 at h
    refine aw_iload_n X 3 rfl d_S_crash_10 rfl ?_
    refine aw_iload_n X 2 rfl d_S_crash_11 rfl ?_
    refine aw_icmp_ge (tgt := 31) X d_S_crash_12 (by decide) (fun c => ?_) (fun c => ?_)
    · have h := h.1 c
      refine aw_aload_n X 0 rfl d_S_crash_31 rfl ?_
      refine aw_iconst X (0) (by decide) d_S_crash_32 ?_
      refine aw_pF (ty := .int) X hc_0 in_0 10 (by decide) ty_0 tyok_0 nm_0 LK_91 (fun _ _ _ _ h => h) rfl (by decide +kernel) (fun _ => ⟨rfl, rfl⟩) d_S_crash_33 (h.mono (fun M33 h => ?_))
      refine aw_aload_n X 0 rfl d_S_crash_36 rfl ?_
      refine aw_gR X hc_0 in_0 4 (by decide) LK_72 (fun _ _ _ _ h => h) d_S_crash_37 (h.mono (fun a37 h => ?_))
      refine aw_astore_n (lvn := [(1, _), (0, _), (2, _), (3, _)]) X d_S_crash_40 rfl (by decide) rfl ?_
      refine aw_aload_n X 0 rfl d_S_crash_41 rfl ?_
      refine aw_aN X d_S_crash_42 (h.mono (fun a42 h => ?_))
      refine aw_istore_n (lvn := [(2, _), (1, _), (0, _), (3, _)]) X d_S_crash_43 rfl (by decide) rfl ?_
      refine aw_iconst X (0) (by decide) d_S_crash_44 ?_
      refine aw_istore_n (lvn := [(3, _), (2, _), (1, _), (0, _)]) X d_S_crash_45 rfl (by decide) rfl ?_
      refine aw_lv [3, 2, 1, 0] rfl ?_
      obtain ⟨n, h⟩ := h
      exact sd_S_crash_46 X hr hin n _ _ _ _ _ h
    · have h := h.2 c
      refine aw_aload_n X 1 rfl d_S_crash_15 rfl ?_
      refine aw_iload_n X 3 rfl d_S_crash_16 rfl ?_
      refine aw_lR X d_S_crash_17 (h.mono (fun a17 h => ?_))
      refine aw_astore (lvn := [(4, _), (0, _), (1, _), (2, _), (3, _)]) X d_S_crash_18 (by decide) rfl ?_
      refine aw_aload X 0 rfl d_S_crash_20 ?_
      obtain ⟨⟨r22, f22, e22, g22⟩, h⟩ := h
      cases e22
      refine aw_cVv X [] (fun ad hlv => t_Q_restart l hlv h) (cwV 0 X.hts (gd_V LK_413 LK_414 LK_415 LK_68 LK_code_Q_restart) rfl rfl rfl (by decide +kernel) ⟨(Nat.le_of_ble_eq_true rfl), (Nat.le_of_ble_eq_true rfl)⟩) ⟨4, f22, _, g22, hc_4, rfl⟩ rfl rfl (Nat.le_of_ble_eq_true rfl) d_S_crash_22 ⟨(Nat.le_of_ble_eq_true rfl), (Nat.le_of_ble_eq_true rfl)⟩ (fun M22 h => ?_)
      refine aw_iinc (y := x3 + 1) (lvn := [(3, _), (4, _), (0, _), (1, _), (2, _)]) X 4 rfl d_S_crash_25 rfl (by decide) rfl ?_
      refine aw_goto (tgt := 10) X d_S_crash_28 (by decide) ?_
      refine aw_lv [2, 3, 4, 0] rfl ?_
      exact ih _ _ _ _ _ h
def wp_S_crash (post : Int32 → wM → Prop) (x0 : Option Ro) (M : wM) : Prop := gR M x0 0 3 (fun a1 => aN M a1 (fun a6 => (∃ n, wp_S_crash_10 post n x0 a1 a6 0 M)))
set_option maxRecDepth 100000 in
set_option maxHeartbeats 4000000 in
theorem sd_S_crash_0 (X : Cx p s m args meth c b_S_crash 5 R_S TBL D dA B zE) (hr : meth.sig.returnType = (some .int)) (hin : meth.name = y_S_crash.name) {post : Int32 → wM → Prop} {x0 : Option Ro} {M : wM} (h : wp_S_crash post x0 M) : AW p l e (headSpec w_S_crash rm_S_crash).room s m args below meth c (MQ below (QI D dA B zE M0 ad0 post) args s 0 0 (wA B)) D dA B zE 5 ad0 M0 M 0 0 0 [(0, vR x0)] [] := by
  unfold wp_S_crash at h
  refine aw_aload_n X 0 rfl d_S_crash_0 rfl ?_
  refine aw_gR X hc_0 in_0 3 (by decide) LK_66 (fun _ _ _ _ h => h) d_S_crash_1 (h.mono (fun a1 h => ?_))
  refine aw_astore_n (lvn := [(1, _), (0, _)]) X d_S_crash_4 rfl (by decide) rfl ?_
  refine aw_aload_n X 0 rfl d_S_crash_5 rfl ?_
  refine aw_aN X d_S_crash_6 (h.mono (fun a6 h => ?_))
  refine aw_istore_n (lvn := [(2, _), (1, _), (0, _)]) X d_S_crash_7 rfl (by decide) rfl ?_
  refine aw_iconst X (0) (by decide) d_S_crash_8 ?_
  refine aw_istore_n (lvn := [(3, _), (2, _), (1, _), (0, _)]) X d_S_crash_9 rfl (by decide) rfl ?_
  refine aw_lv [3, 2, 1, 0] rfl ?_
  obtain ⟨n, h⟩ := h
  exact sd_S_crash_10 X hr hin n _ _ _ _ _ h
end
theorem t_S_crash (l : Launch) {D : va_G} {dA : Nat → ClassId} {B : Nat} {zE : ZT} {M : wM} {ad : Ro → Nat} {post : Int32 → wM → Prop} {x0 : Option Ro} (hlv : lvS M [vR x0]) (h : wp_S_crash post x0 M) : Met l y_S_crash w_S_crash rm_S_crash (PA D dA B zE M ad [vR x0]) (QI D dA B zE M ad post) 0 0 (wA B) :=
  AW_start [vR x0] [(0, vR x0)] hlv (by decide +kernel) rfl (fun _ hw => List.mem_cons_of_mem _ hw) rfl (Nat.le_of_ble_eq_true rfl) (fun p e s m args below meth c X hr hin => sd_S_crash_0 X hr hin h)
