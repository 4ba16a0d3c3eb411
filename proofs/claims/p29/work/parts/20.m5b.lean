def F_X5_refuse (pp1 : Int32) (σ : xS) : Option xR :=
  if pp1 = 1 then (some (1, 0, σ))
 else (if pp1 = 2 then (some (2, 0, σ))
 else (if pp1 = 3 then (some (3, 0, σ))
 else (some (0, 0, σ))))
abbrev rm_X5_refuse : Room := { frames := 6, cells := 1, slots := 6, locals := 81 }
set_option maxHeartbeats 4000000 in
set_option maxRecDepth 100000 in
theorem c_X5_refuse (l : Launch) {D : va_G} {ad : Nat → Nat} {N : Nat} {Sh : xSh} (hI : ∀ i j, i < N → j < N → ad i = ad j → i = j) (hst : l.stackTraces = false) (pp1 : Int32) (σ : xS) : xKT l yX5_refuse (Cond.code yX5_refuse cX5_refuse 1 none :: wG) rm_X5_refuse 1 6 D ad N Sh (xQcV D ad N Sh) [.int pp1] σ (F_X5_refuse pp1 σ) := by
  refine x_startT (own := RX5) (maxL := 1) (by decide) rfl rfl (Nat.le_of_ble_eq_true rfl) rfl hI (fun Γ hl hnL hX X => ?_)
  subst hl
  unfold F_X5_refuse
  refine xr_iload_n (pc := 0) X (i := 0) 0 rfl rfl dX5_refuse_0 ?_
  refine x_if (fun hcc1 => ?_) (fun hcc1 => ?_)
  · refine xr_tin (off := 27) (pc := 1) X 28 dX5_refuse_1 (by rw [hcc1]; decide) (by rw [hcc1]; decide) (by rw [hcc1]; rfl) (by decide) ?_
    exact xr_throw (pc := 28) 0 X hX hst rfl (by decide +kernel) wm_6_20 wm_6_21 wGi_wV0 (by decide +kernel) (List.mem_of_getElem? (i := 29) rfl) (by decide +kernel) dX5_refuse_28 dX5_refuse_31 dX5_refuse_32 dX5_refuse_35 (Nat.le_of_ble_eq_true rfl) (Nat.le_of_ble_eq_true rfl) (Nat.le_of_ble_eq_true rfl) (Nat.le_of_ble_eq_true rfl) (Nat.le_of_ble_eq_true rfl) (Nat.le_of_ble_eq_true rfl)
  refine x_if (fun hcc2 => ?_) (fun hcc2 => ?_)
  · refine xr_tin (off := 35) (pc := 1) X 36 dX5_refuse_1 (by rw [hcc2]; decide) (by rw [hcc2]; decide) (by rw [hcc2]; rfl) (by decide) ?_
    exact xr_throw (pc := 36) 1 X hX hst rfl (by decide +kernel) wm_6_22 wm_6_23 wGi_wV1 (by decide +kernel) (List.mem_of_getElem? (i := 30) rfl) (by decide +kernel) dX5_refuse_36 dX5_refuse_39 dX5_refuse_40 dX5_refuse_43 (Nat.le_of_ble_eq_true rfl) (Nat.le_of_ble_eq_true rfl) (Nat.le_of_ble_eq_true rfl) (Nat.le_of_ble_eq_true rfl) (Nat.le_of_ble_eq_true rfl) (Nat.le_of_ble_eq_true rfl)
  refine x_if (fun hcc3 => ?_) (fun hcc3 => ?_)
  · refine xr_tin (off := 43) (pc := 1) X 44 dX5_refuse_1 (by rw [hcc3]; decide) (by rw [hcc3]; decide) (by rw [hcc3]; rfl) (by decide) ?_
    exact xr_throw (pc := 44) 2 X hX hst rfl (by decide +kernel) wm_7_0 wm_7_1 wGi_wV2 (by decide +kernel) (List.mem_of_getElem? (i := 31) rfl) (by decide +kernel) dX5_refuse_44 dX5_refuse_47 dX5_refuse_48 dX5_refuse_51 (Nat.le_of_ble_eq_true rfl) (Nat.le_of_ble_eq_true rfl) (Nat.le_of_ble_eq_true rfl) (Nat.le_of_ble_eq_true rfl) (Nat.le_of_ble_eq_true rfl) (Nat.le_of_ble_eq_true rfl)
  refine xr_tout (pc := 1) X 52 dX5_refuse_1 (by have g0 := xne hcc1 (j := 1) (by decide); have g1 := xne hcc2 (j := 2) (by decide); have g2 := xne hcc3 (j := 3) (by decide); omega) (by decide) ?_
  exact xr_tvret (pc := 52) X (Nat.le_of_ble_eq_true rfl) (Nat.le_of_ble_eq_true rfl) dX5_refuse_52
def F_X5_demand (pp1 : Int32) (pp2 : Int32) (σ : xS) : Option xR :=
  if ¬ pp1 = 0 then (some (0, 0, σ))
 else (xbT (F_X5_refuse pp2 σ) (fun (zz2 : Int32) (σ1 : xS) => some (0, 0, σ1)))
abbrev rm_X5_demand : Room := { frames := 7, cells := 1, slots := 6, locals := 101 }
set_option maxHeartbeats 4000000 in
set_option maxRecDepth 100000 in
theorem c_X5_demand (l : Launch) {D : va_G} {ad : Nat → Nat} {N : Nat} {Sh : xSh} (hI : ∀ i j, i < N → j < N → ad i = ad j → i = j) (hst : l.stackTraces = false) (pp1 : Int32) (pp2 : Int32) (σ : xS) : xKT l yX5_demand (Cond.code yX5_demand cX5_demand 2 none :: wG) rm_X5_demand 1 6 D ad N Sh (xQcV D ad N Sh) [.int pp1, .int pp2] σ (F_X5_demand pp1 pp2 σ) := by
  refine x_startT (own := RX5) (maxL := 2) (by decide) rfl rfl (Nat.le_of_ble_eq_true rfl) rfl hI (fun Γ hl hnL hX X => ?_)
  subst hl
  unfold F_X5_demand
  refine xr_iload_n (pc := 0) X (i := 0) 0 rfl rfl dX5_demand_0 ?_
  refine xr_if_ne (pc := 1) X 8 (by decide) dX5_demand_1 (fun _ => ?_) (fun _ => ?_)
  · exact xr_tvret (pc := 8) X (Nat.le_of_ble_eq_true rfl) (Nat.le_of_ble_eq_true rfl) dX5_demand_8
  refine xr_iload_n (pc := 4) X (i := 1) 1 rfl rfl dX5_demand_4 ?_
  refine xr_callTSV (na := 1) (pc := 5) X hX [.int pp2] (c_X5_refuse Γ.2.1 hI hst pp2 σ) (wG_S wm_6_19 wm_6_17 wm_6_18 wm_1_2) rfl rfl rfl (by decide +kernel) ⟨Nat.le_of_ble_eq_true rfl, Nat.le_of_ble_eq_true rfl⟩ rfl rfl (Nat.le_of_ble_eq_true rfl) ⟨Nat.le_of_ble_eq_true rfl, Nat.le_of_ble_eq_true rfl⟩ ⟨Nat.le_of_ble_eq_true rfl, Nat.le_of_ble_eq_true rfl⟩ dX5_demand_5 (fun zz2 σ1 => ?_)
  exact xr_tvret (pc := 8) X (Nat.le_of_ble_eq_true rfl) (Nat.le_of_ble_eq_true rfl) dX5_demand_8
def F_X5_append (oo0 : Nat) (pp1 : Int32) (σ : xS) : Option xR :=
  xbI (F_X5_isWithin pp1 0 255 σ) (fun (zz2 : Int32) (σ1 : xS) => xbT (F_X5_demand zz2 2 σ1) (fun (zz4 : Int32) (σ3 : xS) => xjn (fun (zz5 : Int32) (σ6 : xS) => xbT (F_X5_demand zz5 3 σ6) (fun (zz10 : Int32) (σ9 : xS) => xbV (F_X4_addCharacter (oo0 + 1) ((pp1.toUInt32 % 65536).toInt32) σ9) (fun (σ11 : xS) => some (0, (σ11 (oo0 + 1) 1), σ11))))
 (fun (KK7 : Int32 → xS → Option xR) => if 120 ≤ (σ3 (oo0 + 1) 1) then (KK7 0 σ3)
 else (KK7 1 σ3))))
abbrev rm_X5_append : Room := { frames := 8, cells := 2, slots := 12, locals := 122 }
set_option maxHeartbeats 4000000 in
set_option maxRecDepth 100000 in
theorem c_X5_append (l : Launch) {D : va_G} {ad : Nat → Nat} {N : Nat} {Sh : xSh} (hI : ∀ i j, i < N → j < N → ad i = ad j → i = j) (hst : l.stackTraces = false) (oo0 : Nat) (hh0 : xIs5 D ad N Sh oo0) (pp1 : Int32) (σ : xS) : xKT l yX5_append (Cond.code yX5_append cX5_append 2 (some .int) :: wG) rm_X5_append 2 12 D ad N Sh (xQcI D ad N Sh) [.ref (ad oo0), .int pp1] σ (F_X5_append oo0 pp1 σ) := by
  refine x_startT (own := RX5) (maxL := 2) (by decide) rfl rfl (Nat.le_of_ble_eq_true rfl) rfl hI (fun Γ hl hnL hX X => ?_)
  subst hl
  unfold F_X5_append
  refine xr_iload_n (pc := 0) X (i := 1) 1 rfl rfl dX5_append_0 ?_
  refine xr_iconst (pc := 1) X dX5_append_1 (v := 0) (by decide) ?_
  refine xr_sipush (pc := 2) X dX5_append_2 (v := 255) (by decide) ?_
  refine xr_callSI (na := 3) (pc := 5) X [.int pp1, .int 0, .int 255] (c_X5_isWithin Γ.2.1 hI pp1 0 255 σ) (wG_S wm_6_13 wm_6_11 wm_6_12 wm_1_2) rfl rfl rfl (by decide +kernel) ⟨Nat.le_of_ble_eq_true rfl, Nat.le_of_ble_eq_true rfl⟩ rfl rfl (Nat.le_of_ble_eq_true rfl) ⟨Nat.le_of_ble_eq_true rfl, Nat.le_of_ble_eq_true rfl⟩ dX5_append_5 (fun zz2 σ1 => ?_)
  refine xr_iconst (pc := 8) X dX5_append_8 (v := 2) (by decide) ?_
  refine xr_callTSV (na := 2) (pc := 9) X hX [.int zz2, .int 2] (c_X5_demand Γ.2.1 hI hst zz2 2 σ1) (wG_S wm_6_16 wm_6_14 wm_6_15 wm_1_2) rfl rfl rfl (by decide +kernel) ⟨Nat.le_of_ble_eq_true rfl, Nat.le_of_ble_eq_true rfl⟩ rfl rfl (Nat.le_of_ble_eq_true rfl) ⟨Nat.le_of_ble_eq_true rfl, Nat.le_of_ble_eq_true rfl⟩ ⟨Nat.le_of_ble_eq_true rfl, Nat.le_of_ble_eq_true rfl⟩ dX5_append_9 (fun zz4 σ3 => ?_)
  refine xr_aload_n (pc := 12) X (i := 0) 0 rfl rfl dX5_append_12 ?_
  refine xgX5 (pc := 13) X (oo0) hh0.1 0 wm_1_13 rfl rfl (by decide) rfl dX5_append_13 ?_
  refine xgNX4 (pc := 16) X (oo0 + 1) hh0.2.1.1 1 10 rfl rfl rfl (by decide) rfl dX5_append_16 ?_
  refine xr_bipush (pc := 19) X dX5_append_19 (v := 120) (by decide) ?_
  refine x_jn (fun (KK7 : Int32 → xS → Option xR) => ∀ zz5 σ6, xM Γ D ad N Sh (xQT Γ D ad N Sh (xQcI D ad N Sh) 2 12) 1 6 (KK7 zz5 σ6) σ6 29 [(0, .ref (ad oo0)), (1, .int pp1)] [.int zz5]) (fun zz5 σ6 => ?_) (fun KK7 hKK8 => ?_)
  · refine xr_iconst (pc := 29) X dX5_append_29 (v := 3) (by decide) ?_
    refine xr_callTSV (na := 2) (pc := 30) X hX [.int zz5, .int 3] (c_X5_demand Γ.2.1 hI hst zz5 3 σ6) (wG_S wm_6_16 wm_6_14 wm_6_15 wm_1_2) rfl rfl rfl (by decide +kernel) ⟨Nat.le_of_ble_eq_true rfl, Nat.le_of_ble_eq_true rfl⟩ rfl rfl (Nat.le_of_ble_eq_true rfl) ⟨Nat.le_of_ble_eq_true rfl, Nat.le_of_ble_eq_true rfl⟩ ⟨Nat.le_of_ble_eq_true rfl, Nat.le_of_ble_eq_true rfl⟩ dX5_append_30 (fun zz10 σ9 => ?_)
    refine xr_aload_n (pc := 33) X (i := 0) 0 rfl rfl dX5_append_33 ?_
    refine xgX5 (pc := 34) X (oo0) hh0.1 0 wm_1_13 rfl rfl (by decide) rfl dX5_append_34 ?_
    refine xr_iload_n (pc := 37) X (i := 1) 1 rfl rfl dX5_append_37 ?_
    refine xr_i2c (pc := 38) X dX5_append_38 ?_
    refine xr_callVV (na := 1) (pc := 39) X (oo0 + 1) [.int ((pp1.toUInt32 % 65536).toInt32)] _ (c_X4_addCharacter Γ.2.1 hI (oo0 + 1) hh0.2.1 ((pp1.toUInt32 % 65536).toInt32) σ9) (wG_V wm_7_5 wm_7_2 wm_7_3 wm_7_4 wm_1_12) rfl rfl rfl (by decide +kernel) ⟨Nat.le_of_ble_eq_true rfl, Nat.le_of_ble_eq_true rfl⟩ hh0.2.1.1.1 hh0.2.1.1.2 rfl (T := TX4) (C := RX4) rfl rfl rfl (Nat.le_of_ble_eq_true rfl) ⟨Nat.le_of_ble_eq_true rfl, Nat.le_of_ble_eq_true rfl⟩ dX5_append_39 (fun σ11 => ?_)
    refine xr_aload_n (pc := 42) X (i := 0) 0 rfl rfl dX5_append_42 ?_
    refine xgX5 (pc := 43) X (oo0) hh0.1 0 wm_1_13 rfl rfl (by decide) rfl dX5_append_43 ?_
    refine xgNX4 (pc := 46) X (oo0 + 1) hh0.2.1.1 1 10 rfl rfl rfl (by decide) rfl dX5_append_46 ?_
    exact xr_tiret (pc := 49) X (Nat.le_of_ble_eq_true rfl) (Nat.le_of_ble_eq_true rfl) dX5_append_49
  refine xr_icmp_ge (pc := 21) X 28 (by decide) dX5_append_21 (fun _ => ?_) (fun _ => ?_)
  · refine xr_iconst (pc := 28) X dX5_append_28 (v := 0) (by decide) ?_
    exact hKK8 _ _
  refine xr_iconst (pc := 24) X dX5_append_24 (v := 1) (by decide) ?_
  refine xr_goto (pc := 25) X 29 (by decide) dX5_append_25 ?_
  exact hKK8 _ _
def L_X5_load_118 (oo0 : Nat) (KK17 : xS → Option xR) : Nat → Int32 → xS → Option xR
  | 0, _, _ => none
  | nn_21 + 1, zz19, σ20 => if 2 ≤ zz19 then (KK17 σ20)
 else (if xin zz19 2 = true then (xlet (xu σ20 (oo0 + 651) zz19.toNatClampNeg (vp_nar .boolean (0 : Int32))) (fun (σ23 : xS) => xlet (zz19 + 1) (fun (zz24 : Int32) => L_X5_load_118 oo0 KK17 nn_21 zz24 σ23))) else none)
def L_X5_load_45 (oo0 : Nat) (KK26 : Int32 → xS → Option xR) : Nat → Int32 → Int32 → xS → Option xR
  | 0, _, _, _ => none
  | nn_31 + 1, zz28, zz29, σ30 => if 120 ≤ zz29 then (KK26 zz28 σ30)
 else (xbI (F_X4_readCommand (oo0 + 1) σ30) (fun (zz34 : Int32) (σ33 : xS) => if zz34 = 0 then (KK26 zz28 σ33)
 else (xbI (F_X3_attempt (oo0 + 3) (σ33 (oo0 + 1) 4) (σ33 (oo0 + 1) 5) (σ33 (oo0 + 1) 6) (σ33 (oo0 + 1) 7) σ33) (fun (zz36 : Int32) (σ35 : xS) => if ¬ zz36 = ((-1)) then (xlet (zz29 + 1) (fun (zz37 : Int32) => L_X5_load_45 oo0 KK26 nn_31 zz28 zz37 σ35))
 else (xlet (zz28 + 1) (fun (zz38 : Int32) => xlet (zz29 + 1) (fun (zz39 : Int32) => L_X5_load_45 oo0 KK26 nn_31 zz38 zz39 σ35)))))))
def F_X5_load (oo0 : Nat) (σ : xS) : Option xR :=
  xbI (F_X4_firstError (oo0 + 1) σ) (fun (zz2 : Int32) (σ1 : xS) => xjn (fun (zz3 : Int32) (σ4 : xS) => xbT (F_X5_demand zz3 3 σ4) (fun (zz8 : Int32) (σ7 : xS) => xbV (F_X3_takeFirstSettings (oo0 + 3) σ7) (fun (σ9 : xS) => xbI (F_X4_readHead (oo0 + 1) σ9) (fun (zz11 : Int32) (σ10 : xS) => xbV (F_X3_begin (oo0 + 3) zz11 σ10) (fun (σ12 : xS) => L_X5_load_45 oo0 (fun (zz13 : Int32) (σ14 : xS) => xbV (F_X1_forgetAll (oo0 + 46) σ14) (fun (σ15 : xS) => L_X5_load_118 oo0 (fun (σ16 : xS) => some (0, zz13, σ16)) 1000 0 σ15)) 1000 0 0 σ12)))))
 (fun (KK5 : Int32 → xS → Option xR) => if ¬ zz2 = ((-1)) then (KK5 0 σ1)
 else (KK5 1 σ1)))
abbrev rm_X5_load : Room := { frames := 8, cells := 1, slots := 6, locals := 125 }
set_option maxHeartbeats 4000000 in
set_option maxRecDepth 100000 in
theorem c_X5_load (l : Launch) {D : va_G} {ad : Nat → Nat} {N : Nat} {Sh : xSh} (hI : ∀ i j, i < N → j < N → ad i = ad j → i = j) (hst : l.stackTraces = false) (oo0 : Nat) (hh0 : xIs5 D ad N Sh oo0) (σ : xS) : xKT l yX5_load (Cond.code yX5_load cX5_load 3 (some .int) :: wG) rm_X5_load 1 6 D ad N Sh (xQcI D ad N Sh) [.ref (ad oo0)] σ (F_X5_load oo0 σ) := by
  refine x_startT (own := RX5) (maxL := 3) (by decide) rfl rfl (Nat.le_of_ble_eq_true rfl) rfl hI (fun Γ hl hnL hX X => ?_)
  subst hl
  unfold F_X5_load
  refine xr_aload_n (pc := 0) X (i := 0) 0 rfl rfl dX5_load_0 ?_
  refine xgX5 (pc := 1) X (oo0) hh0.1 0 wm_1_13 rfl rfl (by decide) rfl dX5_load_1 ?_
  refine xr_callVI (na := 0) (pc := 4) X (oo0 + 1) [] _ (c_X4_firstError Γ.2.1 hI (oo0 + 1) hh0.2.1 σ) (wG_V wm_7_16 wm_7_13 wm_7_14 wm_7_15 wm_1_12) rfl rfl rfl (by decide +kernel) ⟨Nat.le_of_ble_eq_true rfl, Nat.le_of_ble_eq_true rfl⟩ hh0.2.1.1.1 hh0.2.1.1.2 rfl (T := TX4) (C := RX4) rfl rfl rfl (Nat.le_of_ble_eq_true rfl) ⟨Nat.le_of_ble_eq_true rfl, Nat.le_of_ble_eq_true rfl⟩ dX5_load_4 (fun zz2 σ1 => ?_)
  refine xr_iconst (pc := 7) X dX5_load_7 (v := (-1)) (by decide) ?_
  refine x_jn (fun (KK5 : Int32 → xS → Option xR) => ∀ zz3 σ4, xM Γ D ad N Sh (xQT Γ D ad N Sh (xQcI D ad N Sh) 1 6) 0 0 (KK5 zz3 σ4) σ4 16 [(0, .ref (ad oo0))] [.int zz3]) (fun zz3 σ4 => ?_) (fun KK5 hKK6 => ?_)
  · refine xr_iconst (pc := 16) X dX5_load_16 (v := 3) (by decide) ?_
    refine xr_callTSV (na := 2) (pc := 17) X hX [.int zz3, .int 3] (c_X5_demand Γ.2.1 hI hst zz3 3 σ4) (wG_S wm_6_16 wm_6_14 wm_6_15 wm_1_2) rfl rfl rfl (by decide +kernel) ⟨Nat.le_of_ble_eq_true rfl, Nat.le_of_ble_eq_true rfl⟩ rfl rfl (Nat.le_of_ble_eq_true rfl) ⟨Nat.le_of_ble_eq_true rfl, Nat.le_of_ble_eq_true rfl⟩ ⟨Nat.le_of_ble_eq_true rfl, Nat.le_of_ble_eq_true rfl⟩ dX5_load_17 (fun zz8 σ7 => ?_)
    refine xr_aload_n (pc := 20) X (i := 0) 0 rfl rfl dX5_load_20 ?_
    refine xgX5 (pc := 21) X (oo0) hh0.1 1 wm_1_17 rfl rfl (by decide) rfl dX5_load_21 ?_
    refine xr_callVV (na := 0) (pc := 24) X (oo0 + 3) [] _ (c_X3_takeFirstSettings Γ.2.1 hI (oo0 + 3) hh0.2.2.1 σ7) (wG_V wm_4_5 wm_9_1 wm_4_3 wm_4_4 wm_1_16) rfl rfl rfl (by decide +kernel) ⟨Nat.le_of_ble_eq_true rfl, Nat.le_of_ble_eq_true rfl⟩ hh0.2.2.1.1.1 hh0.2.2.1.1.2 rfl (T := TX3) (C := RX3) rfl rfl rfl (Nat.le_of_ble_eq_true rfl) ⟨Nat.le_of_ble_eq_true rfl, Nat.le_of_ble_eq_true rfl⟩ dX5_load_24 (fun σ9 => ?_)
    refine xr_aload_n (pc := 27) X (i := 0) 0 rfl rfl dX5_load_27 ?_
    refine xgX5 (pc := 28) X (oo0) hh0.1 1 wm_1_17 rfl rfl (by decide) rfl dX5_load_28 ?_
    refine xr_aload_n (pc := 31) X (i := 0) 0 rfl rfl dX5_load_31 ?_
    refine xgX5 (pc := 32) X (oo0) hh0.1 0 wm_1_13 rfl rfl (by decide) rfl dX5_load_32 ?_
    refine xr_callVI (na := 0) (pc := 35) X (oo0 + 1) [] _ (c_X4_readHead Γ.2.1 hI (oo0 + 1) hh0.2.1 σ9) (wG_V wm_7_20 wm_9_2 wm_7_18 wm_7_19 wm_1_12) rfl rfl rfl (by decide +kernel) ⟨Nat.le_of_ble_eq_true rfl, Nat.le_of_ble_eq_true rfl⟩ hh0.2.1.1.1 hh0.2.1.1.2 rfl (T := TX4) (C := RX4) rfl rfl rfl (Nat.le_of_ble_eq_true rfl) ⟨Nat.le_of_ble_eq_true rfl, Nat.le_of_ble_eq_true rfl⟩ dX5_load_35 (fun zz11 σ10 => ?_)
    refine xr_callVV (na := 1) (pc := 38) X (oo0 + 3) [.int zz11] _ (c_X3_begin Γ.2.1 hI (oo0 + 3) hh0.2.2.1 zz11 σ10) (wG_V wm_4_9 wm_9_3 wm_4_7 wm_4_8 wm_1_16) rfl rfl rfl (by decide +kernel) ⟨Nat.le_of_ble_eq_true rfl, Nat.le_of_ble_eq_true rfl⟩ hh0.2.2.1.1.1 hh0.2.2.1.1.2 rfl (T := TX3) (C := RX3) rfl rfl rfl (Nat.le_of_ble_eq_true rfl) ⟨Nat.le_of_ble_eq_true rfl, Nat.le_of_ble_eq_true rfl⟩ dX5_load_38 (fun σ12 => ?_)
    refine xr_iconst (pc := 41) X dX5_load_41 (v := 0) (by decide) ?_
    refine xr_istore_n (pc := 42) X (hf := rfl) (i := 1) (lv2 := [(0, .ref (ad oo0)), (1, .int 0)]) [1, 0] (Nat.le_of_ble_eq_true rfl) hnL rfl dX5_load_42 ?_
    refine xr_iconst (pc := 43) X dX5_load_43 (v := 0) (by decide) ?_
    refine xr_istore_n (pc := 44) X (hf := rfl) (i := 2) (lv2 := [(0, .ref (ad oo0)), (1, .int 0), (2, .int 0)]) [1, 2, 0] (Nat.le_of_ble_eq_true rfl) hnL rfl dX5_load_44 ?_
    have hLL40 : ∀ (KK26 : Int32 → xS → Option xR) (hKK27 : ∀ zz13 σ14, xM Γ D ad N Sh (xQT Γ D ad N Sh (xQcI D ad N Sh) 1 6) 1 6 (KK26 zz13 σ14) σ14 109 [(0, .ref (ad oo0)), (1, .int zz13)] []), ∀ (nn_31 : Nat) zz28 zz29 σ30, xM Γ D ad N Sh (xQT Γ D ad N Sh (xQcI D ad N Sh) 1 6) 1 6 (L_X5_load_45 oo0 KK26 nn_31 zz28 zz29 σ30) σ30 45 [(0, .ref (ad oo0)), (1, .int zz28), (2, .int zz29)] [] := by
      intro KK26 hKK27 nn_31
      induction nn_31 with
      | zero => intro zz28 zz29 σ30; exact xM_none
      | succ nn_31 ihh32 =>
        intro zz28 zz29 σ30
        rw [L_X5_load_45]
        refine xr_iload_n (pc := 45) X (i := 2) 2 rfl rfl dX5_load_45 ?_
        refine xr_bipush (pc := 46) X dX5_load_46 (v := 120) (by decide) ?_
        refine xr_icmp_ge (pc := 48) X 109 (by decide) dX5_load_48 (fun _ => ?_) (fun _ => ?_)
        · exact x_sub [0, 1] rfl (hKK27 _ _)
        refine xr_aload_n (pc := 51) X (i := 0) 0 rfl rfl dX5_load_51 ?_
        refine xgX5 (pc := 52) X (oo0) hh0.1 0 wm_1_13 rfl rfl (by decide) rfl dX5_load_52 ?_
        refine xr_callVI (na := 0) (pc := 55) X (oo0 + 1) [] _ (c_X4_readCommand Γ.2.1 hI (oo0 + 1) hh0.2.1 σ30) (wG_V wm_8_8 wm_9_4 wm_8_6 wm_8_7 wm_1_12) rfl rfl rfl (by decide +kernel) ⟨Nat.le_of_ble_eq_true rfl, Nat.le_of_ble_eq_true rfl⟩ hh0.2.1.1.1 hh0.2.1.1.2 rfl (T := TX4) (C := RX4) rfl rfl rfl (Nat.le_of_ble_eq_true rfl) ⟨Nat.le_of_ble_eq_true rfl, Nat.le_of_ble_eq_true rfl⟩ dX5_load_55 (fun zz34 σ33 => ?_)
        refine xr_if_eq (pc := 58) X 109 (by decide) dX5_load_58 (fun _ => ?_) (fun _ => ?_)
        · exact x_sub [0, 1] rfl (hKK27 _ _)
        refine xr_aload_n (pc := 61) X (i := 0) 0 rfl rfl dX5_load_61 ?_
        refine xgX5 (pc := 62) X (oo0) hh0.1 1 wm_1_17 rfl rfl (by decide) rfl dX5_load_62 ?_
        refine xr_aload_n (pc := 65) X (i := 0) 0 rfl rfl dX5_load_65 ?_
        refine xgX5 (pc := 66) X (oo0) hh0.1 0 wm_1_13 rfl rfl (by decide) rfl dX5_load_66 ?_
        refine xgNX4 (pc := 69) X (oo0 + 1) hh0.2.1.1 4 11 rfl rfl rfl (by decide) rfl dX5_load_69 ?_
        refine xr_aload_n (pc := 72) X (i := 0) 0 rfl rfl dX5_load_72 ?_
        refine xgX5 (pc := 73) X (oo0) hh0.1 0 wm_1_13 rfl rfl (by decide) rfl dX5_load_73 ?_
        refine xgNX4 (pc := 76) X (oo0 + 1) hh0.2.1.1 5 12 rfl rfl rfl (by decide) rfl dX5_load_76 ?_
        refine xr_aload_n (pc := 79) X (i := 0) 0 rfl rfl dX5_load_79 ?_
        refine xgX5 (pc := 80) X (oo0) hh0.1 0 wm_1_13 rfl rfl (by decide) rfl dX5_load_80 ?_
        refine xgNX4 (pc := 83) X (oo0 + 1) hh0.2.1.1 6 13 rfl rfl rfl (by decide) rfl dX5_load_83 ?_
        refine xr_aload_n (pc := 86) X (i := 0) 0 rfl rfl dX5_load_86 ?_
        refine xgX5 (pc := 87) X (oo0) hh0.1 0 wm_1_13 rfl rfl (by decide) rfl dX5_load_87 ?_
        refine xgNX4 (pc := 90) X (oo0 + 1) hh0.2.1.1 7 14 rfl rfl rfl (by decide) rfl dX5_load_90 ?_
        refine xr_callVI (na := 4) (pc := 93) X (oo0 + 3) [.int (σ33 (oo0 + 1) 4), .int (σ33 (oo0 + 1) 5), .int (σ33 (oo0 + 1) 6), .int (σ33 (oo0 + 1) 7)] _ (c_X3_attempt Γ.2.1 hI (oo0 + 3) hh0.2.2.1 (σ33 (oo0 + 1) 4) (σ33 (oo0 + 1) 5) (σ33 (oo0 + 1) 6) (σ33 (oo0 + 1) 7) σ33) (wG_V wm_9_8 wm_9_5 wm_9_6 wm_9_7 wm_1_16) rfl rfl rfl (by decide +kernel) ⟨Nat.le_of_ble_eq_true rfl, Nat.le_of_ble_eq_true rfl⟩ hh0.2.2.1.1.1 hh0.2.2.1.1.2 rfl (T := TX3) (C := RX3) rfl rfl rfl (Nat.le_of_ble_eq_true rfl) ⟨Nat.le_of_ble_eq_true rfl, Nat.le_of_ble_eq_true rfl⟩ dX5_load_93 (fun zz36 σ35 => ?_)
        refine xr_iconst (pc := 96) X dX5_load_96 (v := (-1)) (by decide) ?_
        refine xr_icmp_ne (pc := 97) X 103 (by decide) dX5_load_97 (fun _ => ?_) (fun _ => ?_)
        · refine xr_iinc (pc := 103) X (i := 2) (j := 2) [1, 2, 0] (Nat.le_of_ble_eq_true rfl) hnL rfl rfl (fun zz37 => [(0, .ref (ad oo0)), (1, .int zz28), (2, .int zz37)]) (fun _ => rfl) dX5_load_103 (fun zz37 => ?_)
          refine xr_goto (pc := 106) X 45 (by decide) dX5_load_106 ?_
          exact ihh32 _ _ _
        refine xr_iinc (pc := 100) X (i := 1) (j := 1) [1, 0, 2] (Nat.le_of_ble_eq_true rfl) hnL rfl rfl (fun zz38 => [(0, .ref (ad oo0)), (1, .int zz38), (2, .int zz29)]) (fun _ => rfl) dX5_load_100 (fun zz38 => ?_)
        refine xr_iinc (pc := 103) X (i := 2) (j := 2) [1, 2, 0] (Nat.le_of_ble_eq_true rfl) hnL rfl rfl (fun zz39 => [(0, .ref (ad oo0)), (1, .int zz38), (2, .int zz39)]) (fun _ => rfl) dX5_load_103 (fun zz39 => ?_)
        refine xr_goto (pc := 106) X 45 (by decide) dX5_load_106 ?_
        exact ihh32 _ _ _
    refine hLL40 _ (fun zz13 σ14 => ?_) _ _ _ _
    refine xr_aload_n (pc := 109) X (i := 0) 0 rfl rfl dX5_load_109 ?_
    refine xgX5 (pc := 110) X (oo0) hh0.1 2 wm_1_21 rfl rfl (by decide) rfl dX5_load_110 ?_
    refine xr_callVV (na := 0) (pc := 113) X (oo0 + 46) [] _ (c_X1_forgetAll Γ.2.1 hI (oo0 + 46) hh0.2.2.2.1 σ14) (wG_V wm_13_3 wm_13_0 wm_13_1 wm_13_2 wm_1_20) rfl rfl rfl (by decide +kernel) ⟨Nat.le_of_ble_eq_true rfl, Nat.le_of_ble_eq_true rfl⟩ hh0.2.2.2.1.1.1 hh0.2.2.2.1.1.2 rfl (T := TX1) (C := RX1) rfl rfl rfl (Nat.le_of_ble_eq_true rfl) ⟨Nat.le_of_ble_eq_true rfl, Nat.le_of_ble_eq_true rfl⟩ dX5_load_113 (fun σ15 => ?_)
    refine xr_iconst (pc := 116) X dX5_load_116 (v := 0) (by decide) ?_
    refine xr_istore_n (pc := 117) X (hf := rfl) (i := 2) (lv2 := [(0, .ref (ad oo0)), (1, .int zz13), (2, .int 0)]) [1, 2, 0] (Nat.le_of_ble_eq_true rfl) hnL rfl dX5_load_117 ?_
    have hLL25 : ∀ (KK17 : xS → Option xR) (hKK18 : ∀ σ16, xM Γ D ad N Sh (xQT Γ D ad N Sh (xQcI D ad N Sh) 1 6) 1 6 (KK17 σ16) σ16 136 [(1, .int zz13)] []), ∀ (nn_21 : Nat) zz19 σ20, xM Γ D ad N Sh (xQT Γ D ad N Sh (xQcI D ad N Sh) 1 6) 1 6 (L_X5_load_118 oo0 KK17 nn_21 zz19 σ20) σ20 118 [(0, .ref (ad oo0)), (1, .int zz13), (2, .int zz19)] [] := by
      intro KK17 hKK18 nn_21
      induction nn_21 with
      | zero => intro zz19 σ20; exact xM_none
      | succ nn_21 ihh22 =>
        intro zz19 σ20
        rw [L_X5_load_118]
        refine xr_iload_n (pc := 118) X (i := 2) 2 rfl rfl dX5_load_118 ?_
        refine xr_iconst (pc := 119) X dX5_load_119 (v := 2) (by decide) ?_
        refine xr_icmp_ge (pc := 120) X 136 (by decide) dX5_load_120 (fun _ => ?_) (fun _ => ?_)
        · exact x_sub [1] rfl (hKK18  _)
        refine xr_aload_n (pc := 123) X (i := 0) 0 rfl rfl dX5_load_123 ?_
        refine xgX5 (pc := 124) X (oo0) hh0.1 4 wm_2_0 rfl rfl (by decide) rfl dX5_load_124 ?_
        refine xr_iload_n (pc := 127) X (i := 2) 2 rfl rfl dX5_load_127 ?_
        refine xr_iconst (pc := 128) X dX5_load_128 (v := 0) (by decide) ?_
        refine xr_zast (pc := 129) X (oo0 + 651) (2) hh0.2.2.2.2.2.1.1 hh0.2.2.2.2.2.1.2 dX5_load_129 (fun σ23 => ?_)
        refine xr_iinc (pc := 130) X (i := 2) (j := 2) [1, 2, 0] (Nat.le_of_ble_eq_true rfl) hnL rfl rfl (fun zz24 => [(0, .ref (ad oo0)), (1, .int zz13), (2, .int zz24)]) (fun _ => rfl) dX5_load_130 (fun zz24 => ?_)
        refine xr_goto (pc := 133) X 118 (by decide) dX5_load_133 ?_
        exact ihh22 _ _
    refine hLL25 _ (fun σ16 => ?_) _ _ _
    refine xr_iload_n (pc := 136) X (i := 1) 0 rfl rfl dX5_load_136 ?_
    exact xr_tiret (pc := 137) X (Nat.le_of_ble_eq_true rfl) (Nat.le_of_ble_eq_true rfl) dX5_load_137
  refine xr_icmp_ne (pc := 8) X 15 (by decide) dX5_load_8 (fun _ => ?_) (fun _ => ?_)
  · refine xr_iconst (pc := 15) X dX5_load_15 (v := 0) (by decide) ?_
    exact hKK6 _ _
  refine xr_iconst (pc := 11) X dX5_load_11 (v := 1) (by decide) ?_
  refine xr_goto (pc := 12) X 16 (by decide) dX5_load_12 ?_
  exact hKK6 _ _
def F_X5_about (oo0 : Nat) (pp1 : Int32) (σ : xS) : Option xR :=
  xbI (F_X5_isWithin pp1 0 8 σ) (fun (zz2 : Int32) (σ1 : xS) => xbT (F_X5_demand zz2 2 σ1) (fun (zz4 : Int32) (σ3 : xS) => if pp1 = 0 then (some (0, (σ3 (oo0 + 3) 0), σ3))
 else (if pp1 = 1 then (some (0, (σ3 (oo0 + 3) 1), σ3))
 else (if pp1 = 2 then (some (0, (σ3 ((oo0 + 3) + 2) 3), σ3))
 else (if pp1 = 3 then (xbI (F_X3_sumOfWriters (oo0 + 3) 0 σ3) (fun (zz9 : Int32) (σ8 : xS) => some (0, zz9, σ8)))
 else (if pp1 = 4 then (xbI (F_X3_sumOfWriters (oo0 + 3) 1 σ3) (fun (zz12 : Int32) (σ11 : xS) => some (0, zz12, σ11)))
 else (if pp1 = 5 then (xbI (F_X3_sumOfWriters (oo0 + 3) 4 σ3) (fun (zz15 : Int32) (σ14 : xS) => some (0, zz15, σ14)))
 else (if pp1 = 6 then (xbI (F_X3_sumOfDesks (oo0 + 3) 4 σ3) (fun (zz18 : Int32) (σ17 : xS) => some (0, zz18, σ17)))
 else (if pp1 = 7 then (xbI (F_X3_sumOfDesks (oo0 + 3) 0 σ3) (fun (zz21 : Int32) (σ20 : xS) => some (0, zz21, σ20)))
 else (xbI (F_X3_sumOfWriters (oo0 + 3) 5 σ3) (fun (zz24 : Int32) (σ23 : xS) => some (0, zz24, σ23))))))))))))
abbrev rm_X5_about : Room := { frames := 8, cells := 1, slots := 6, locals := 122 }
set_option maxHeartbeats 4000000 in
set_option maxRecDepth 100000 in
theorem c_X5_about (l : Launch) {D : va_G} {ad : Nat → Nat} {N : Nat} {Sh : xSh} (hI : ∀ i j, i < N → j < N → ad i = ad j → i = j) (hst : l.stackTraces = false) (oo0 : Nat) (hh0 : xIs5 D ad N Sh oo0) (pp1 : Int32) (σ : xS) : xKT l yX5_about (Cond.code yX5_about cX5_about 2 (some .int) :: wG) rm_X5_about 1 6 D ad N Sh (xQcI D ad N Sh) [.ref (ad oo0), .int pp1] σ (F_X5_about oo0 pp1 σ) := by
  refine x_startT (own := RX5) (maxL := 2) (by decide) rfl rfl (Nat.le_of_ble_eq_true rfl) rfl hI (fun Γ hl hnL hX X => ?_)
  subst hl
  unfold F_X5_about
  refine xr_iload_n (pc := 0) X (i := 1) 1 rfl rfl dX5_about_0 ?_
  refine xr_iconst (pc := 1) X dX5_about_1 (v := 0) (by decide) ?_
  refine xr_bipush (pc := 2) X dX5_about_2 (v := 8) (by decide) ?_
  refine xr_callSI (na := 3) (pc := 4) X [.int pp1, .int 0, .int 8] (c_X5_isWithin Γ.2.1 hI pp1 0 8 σ) (wG_S wm_6_13 wm_6_11 wm_6_12 wm_1_2) rfl rfl rfl (by decide +kernel) ⟨Nat.le_of_ble_eq_true rfl, Nat.le_of_ble_eq_true rfl⟩ rfl rfl (Nat.le_of_ble_eq_true rfl) ⟨Nat.le_of_ble_eq_true rfl, Nat.le_of_ble_eq_true rfl⟩ dX5_about_4 (fun zz2 σ1 => ?_)
  refine xr_iconst (pc := 7) X dX5_about_7 (v := 2) (by decide) ?_
  refine xr_callTSV (na := 2) (pc := 8) X hX [.int zz2, .int 2] (c_X5_demand Γ.2.1 hI hst zz2 2 σ1) (wG_S wm_6_16 wm_6_14 wm_6_15 wm_1_2) rfl rfl rfl (by decide +kernel) ⟨Nat.le_of_ble_eq_true rfl, Nat.le_of_ble_eq_true rfl⟩ rfl rfl (Nat.le_of_ble_eq_true rfl) ⟨Nat.le_of_ble_eq_true rfl, Nat.le_of_ble_eq_true rfl⟩ ⟨Nat.le_of_ble_eq_true rfl, Nat.le_of_ble_eq_true rfl⟩ dX5_about_8 (fun zz4 σ3 => ?_)
  refine xr_iload_n (pc := 11) X (i := 1) 1 rfl rfl dX5_about_11 ?_
  refine x_if (fun hcc5 => ?_) (fun hcc5 => ?_)
  · refine xr_tin (off := 48) (pc := 12) X 60 dX5_about_12 (by rw [hcc5]; decide) (by rw [hcc5]; decide) (by rw [hcc5]; rfl) (by decide) ?_
    refine xr_aload_n (pc := 60) X (i := 0) 0 rfl rfl dX5_about_60 ?_
    refine xgX5 (pc := 61) X (oo0) hh0.1 1 wm_1_17 rfl rfl (by decide) rfl dX5_about_61 ?_
    refine xgNX3 (pc := 64) X (oo0 + 3) hh0.2.2.1.1 0 15 rfl rfl rfl (by decide) rfl dX5_about_64 ?_
    exact xr_tiret (pc := 67) X (Nat.le_of_ble_eq_true rfl) (Nat.le_of_ble_eq_true rfl) dX5_about_67
  refine x_if (fun hcc6 => ?_) (fun hcc6 => ?_)
  · refine xr_tin (off := 56) (pc := 12) X 68 dX5_about_12 (by rw [hcc6]; decide) (by rw [hcc6]; decide) (by rw [hcc6]; rfl) (by decide) ?_
    refine xr_aload_n (pc := 68) X (i := 0) 0 rfl rfl dX5_about_68 ?_
    refine xgX5 (pc := 69) X (oo0) hh0.1 1 wm_1_17 rfl rfl (by decide) rfl dX5_about_69 ?_
    refine xgNX3 (pc := 72) X (oo0 + 3) hh0.2.2.1.1 1 0 rfl rfl rfl (by decide) rfl dX5_about_72 ?_
    exact xr_tiret (pc := 75) X (Nat.le_of_ble_eq_true rfl) (Nat.le_of_ble_eq_true rfl) dX5_about_75
  refine x_if (fun hcc7 => ?_) (fun hcc7 => ?_)
  · refine xr_tin (off := 64) (pc := 12) X 76 dX5_about_12 (by rw [hcc7]; decide) (by rw [hcc7]; decide) (by rw [hcc7]; rfl) (by decide) ?_
    refine xr_aload_n (pc := 76) X (i := 0) 0 rfl rfl dX5_about_76 ?_
    refine xgX5 (pc := 77) X (oo0) hh0.1 1 wm_1_17 rfl rfl (by decide) rfl dX5_about_77 ?_
    refine xgNX3 (pc := 80) X (oo0 + 3) hh0.2.2.1.1 3 1 rfl rfl rfl (by decide) rfl dX5_about_80 ?_
    refine xgNX0 (pc := 83) X ((oo0 + 3) + 2) hh0.2.2.1.2.2.1.1 3 2 rfl rfl rfl (by decide) rfl dX5_about_83 ?_
    exact xr_tiret (pc := 86) X (Nat.le_of_ble_eq_true rfl) (Nat.le_of_ble_eq_true rfl) dX5_about_86
  refine x_if (fun hcc10 => ?_) (fun hcc10 => ?_)
  · refine xr_tin (off := 75) (pc := 12) X 87 dX5_about_12 (by rw [hcc10]; decide) (by rw [hcc10]; decide) (by rw [hcc10]; rfl) (by decide) ?_
    refine xr_aload_n (pc := 87) X (i := 0) 0 rfl rfl dX5_about_87 ?_
    refine xgX5 (pc := 88) X (oo0) hh0.1 1 wm_1_17 rfl rfl (by decide) rfl dX5_about_88 ?_
    refine xr_iconst (pc := 91) X dX5_about_91 (v := 0) (by decide) ?_
    refine xr_callVI (na := 1) (pc := 92) X (oo0 + 3) [.int 0] _ (c_X3_sumOfWriters Γ.2.1 hI (oo0 + 3) hh0.2.2.1 0 σ3) (wG_V wm_13_14 wm_13_11 wm_13_12 wm_13_13 wm_1_16) rfl rfl rfl (by decide +kernel) ⟨Nat.le_of_ble_eq_true rfl, Nat.le_of_ble_eq_true rfl⟩ hh0.2.2.1.1.1 hh0.2.2.1.1.2 rfl (T := TX3) (C := RX3) rfl rfl rfl (Nat.le_of_ble_eq_true rfl) ⟨Nat.le_of_ble_eq_true rfl, Nat.le_of_ble_eq_true rfl⟩ dX5_about_92 (fun zz9 σ8 => ?_)
    exact xr_tiret (pc := 95) X (Nat.le_of_ble_eq_true rfl) (Nat.le_of_ble_eq_true rfl) dX5_about_95
  refine x_if (fun hcc13 => ?_) (fun hcc13 => ?_)
  · refine xr_tin (off := 84) (pc := 12) X 96 dX5_about_12 (by rw [hcc13]; decide) (by rw [hcc13]; decide) (by rw [hcc13]; rfl) (by decide) ?_
    refine xr_aload_n (pc := 96) X (i := 0) 0 rfl rfl dX5_about_96 ?_
    refine xgX5 (pc := 97) X (oo0) hh0.1 1 wm_1_17 rfl rfl (by decide) rfl dX5_about_97 ?_
    refine xr_iconst (pc := 100) X dX5_about_100 (v := 1) (by decide) ?_
    refine xr_callVI (na := 1) (pc := 101) X (oo0 + 3) [.int 1] _ (c_X3_sumOfWriters Γ.2.1 hI (oo0 + 3) hh0.2.2.1 1 σ3) (wG_V wm_13_14 wm_13_11 wm_13_12 wm_13_13 wm_1_16) rfl rfl rfl (by decide +kernel) ⟨Nat.le_of_ble_eq_true rfl, Nat.le_of_ble_eq_true rfl⟩ hh0.2.2.1.1.1 hh0.2.2.1.1.2 rfl (T := TX3) (C := RX3) rfl rfl rfl (Nat.le_of_ble_eq_true rfl) ⟨Nat.le_of_ble_eq_true rfl, Nat.le_of_ble_eq_true rfl⟩ dX5_about_101 (fun zz12 σ11 => ?_)
    exact xr_tiret (pc := 104) X (Nat.le_of_ble_eq_true rfl) (Nat.le_of_ble_eq_true rfl) dX5_about_104
  refine x_if (fun hcc16 => ?_) (fun hcc16 => ?_)
  · refine xr_tin (off := 93) (pc := 12) X 105 dX5_about_12 (by rw [hcc16]; decide) (by rw [hcc16]; decide) (by rw [hcc16]; rfl) (by decide) ?_
    refine xr_aload_n (pc := 105) X (i := 0) 0 rfl rfl dX5_about_105 ?_
    refine xgX5 (pc := 106) X (oo0) hh0.1 1 wm_1_17 rfl rfl (by decide) rfl dX5_about_106 ?_
    refine xr_iconst (pc := 109) X dX5_about_109 (v := 4) (by decide) ?_
    refine xr_callVI (na := 1) (pc := 110) X (oo0 + 3) [.int 4] _ (c_X3_sumOfWriters Γ.2.1 hI (oo0 + 3) hh0.2.2.1 4 σ3) (wG_V wm_13_14 wm_13_11 wm_13_12 wm_13_13 wm_1_16) rfl rfl rfl (by decide +kernel) ⟨Nat.le_of_ble_eq_true rfl, Nat.le_of_ble_eq_true rfl⟩ hh0.2.2.1.1.1 hh0.2.2.1.1.2 rfl (T := TX3) (C := RX3) rfl rfl rfl (Nat.le_of_ble_eq_true rfl) ⟨Nat.le_of_ble_eq_true rfl, Nat.le_of_ble_eq_true rfl⟩ dX5_about_110 (fun zz15 σ14 => ?_)
    exact xr_tiret (pc := 113) X (Nat.le_of_ble_eq_true rfl) (Nat.le_of_ble_eq_true rfl) dX5_about_113
  refine x_if (fun hcc19 => ?_) (fun hcc19 => ?_)
  · refine xr_tin (off := 102) (pc := 12) X 114 dX5_about_12 (by rw [hcc19]; decide) (by rw [hcc19]; decide) (by rw [hcc19]; rfl) (by decide) ?_
    refine xr_aload_n (pc := 114) X (i := 0) 0 rfl rfl dX5_about_114 ?_
    refine xgX5 (pc := 115) X (oo0) hh0.1 1 wm_1_17 rfl rfl (by decide) rfl dX5_about_115 ?_
    refine xr_iconst (pc := 118) X dX5_about_118 (v := 4) (by decide) ?_
    refine xr_callVI (na := 1) (pc := 119) X (oo0 + 3) [.int 4] _ (c_X3_sumOfDesks Γ.2.1 hI (oo0 + 3) hh0.2.2.1 4 σ3) (wG_V wm_13_22 wm_13_19 wm_13_20 wm_13_21 wm_1_16) rfl rfl rfl (by decide +kernel) ⟨Nat.le_of_ble_eq_true rfl, Nat.le_of_ble_eq_true rfl⟩ hh0.2.2.1.1.1 hh0.2.2.1.1.2 rfl (T := TX3) (C := RX3) rfl rfl rfl (Nat.le_of_ble_eq_true rfl) ⟨Nat.le_of_ble_eq_true rfl, Nat.le_of_ble_eq_true rfl⟩ dX5_about_119 (fun zz18 σ17 => ?_)
    exact xr_tiret (pc := 122) X (Nat.le_of_ble_eq_true rfl) (Nat.le_of_ble_eq_true rfl) dX5_about_122
  refine x_if (fun hcc22 => ?_) (fun hcc22 => ?_)
  · refine xr_tin (off := 111) (pc := 12) X 123 dX5_about_12 (by rw [hcc22]; decide) (by rw [hcc22]; decide) (by rw [hcc22]; rfl) (by decide) ?_
    refine xr_aload_n (pc := 123) X (i := 0) 0 rfl rfl dX5_about_123 ?_
    refine xgX5 (pc := 124) X (oo0) hh0.1 1 wm_1_17 rfl rfl (by decide) rfl dX5_about_124 ?_
    refine xr_iconst (pc := 127) X dX5_about_127 (v := 0) (by decide) ?_
    refine xr_callVI (na := 1) (pc := 128) X (oo0 + 3) [.int 0] _ (c_X3_sumOfDesks Γ.2.1 hI (oo0 + 3) hh0.2.2.1 0 σ3) (wG_V wm_13_22 wm_13_19 wm_13_20 wm_13_21 wm_1_16) rfl rfl rfl (by decide +kernel) ⟨Nat.le_of_ble_eq_true rfl, Nat.le_of_ble_eq_true rfl⟩ hh0.2.2.1.1.1 hh0.2.2.1.1.2 rfl (T := TX3) (C := RX3) rfl rfl rfl (Nat.le_of_ble_eq_true rfl) ⟨Nat.le_of_ble_eq_true rfl, Nat.le_of_ble_eq_true rfl⟩ dX5_about_128 (fun zz21 σ20 => ?_)
    exact xr_tiret (pc := 131) X (Nat.le_of_ble_eq_true rfl) (Nat.le_of_ble_eq_true rfl) dX5_about_131
  refine xr_tout (pc := 12) X 132 dX5_about_12 (by have g0 := xne hcc5 (j := 0) (by decide); have g1 := xne hcc6 (j := 1) (by decide); have g2 := xne hcc7 (j := 2) (by decide); have g3 := xne hcc10 (j := 3) (by decide); have g4 := xne hcc13 (j := 4) (by decide); have g5 := xne hcc16 (j := 5) (by decide); have g6 := xne hcc19 (j := 6) (by decide); have g7 := xne hcc22 (j := 7) (by decide); omega) (by decide) ?_
  refine xr_aload_n (pc := 132) X (i := 0) 0 rfl rfl dX5_about_132 ?_
  refine xgX5 (pc := 133) X (oo0) hh0.1 1 wm_1_17 rfl rfl (by decide) rfl dX5_about_133 ?_
  refine xr_iconst (pc := 136) X dX5_about_136 (v := 5) (by decide) ?_
  refine xr_callVI (na := 1) (pc := 137) X (oo0 + 3) [.int 5] _ (c_X3_sumOfWriters Γ.2.1 hI (oo0 + 3) hh0.2.2.1 5 σ3) (wG_V wm_13_14 wm_13_11 wm_13_12 wm_13_13 wm_1_16) rfl rfl rfl (by decide +kernel) ⟨Nat.le_of_ble_eq_true rfl, Nat.le_of_ble_eq_true rfl⟩ hh0.2.2.1.1.1 hh0.2.2.1.1.2 rfl (T := TX3) (C := RX3) rfl rfl rfl (Nat.le_of_ble_eq_true rfl) ⟨Nat.le_of_ble_eq_true rfl, Nat.le_of_ble_eq_true rfl⟩ dX5_about_137 (fun zz24 σ23 => ?_)
  exact xr_tiret (pc := 140) X (Nat.le_of_ble_eq_true rfl) (Nat.le_of_ble_eq_true rfl) dX5_about_140
def F_X5_writer (oo0 : Nat) (pp1 : Int32) (pp2 : Int32) (σ : xS) : Option xR :=
  xbI (F_X3_faultOfWriter (oo0 + 3) pp1 σ) (fun (zz2 : Int32) (σ1 : xS) => xbT (F_X5_refuse zz2 σ1) (fun (zz4 : Int32) (σ3 : xS) => xbI (F_X5_isWithin pp2 0 6 σ3) (fun (zz6 : Int32) (σ5 : xS) => xbT (F_X5_demand zz6 2 σ5) (fun (zz8 : Int32) (σ7 : xS) => if xin pp1 4 = true then (xbI (F_X2_numberOfWriter ((oo0 + 3) + 7 + 9 * pp1.toNatClampNeg) pp2 σ7) (fun (zz11 : Int32) (σ10 : xS) => some (0, zz11, σ10))) else none))))
abbrev rm_X5_writer : Room := { frames := 8, cells := 2, slots := 12, locals := 122 }
set_option maxHeartbeats 4000000 in
set_option maxRecDepth 100000 in
theorem c_X5_writer (l : Launch) {D : va_G} {ad : Nat → Nat} {N : Nat} {Sh : xSh} (hI : ∀ i j, i < N → j < N → ad i = ad j → i = j) (hst : l.stackTraces = false) (oo0 : Nat) (hh0 : xIs5 D ad N Sh oo0) (pp1 : Int32) (pp2 : Int32) (σ : xS) : xKT l yX5_writer (Cond.code yX5_writer cX5_writer 3 (some .int) :: wG) rm_X5_writer 2 12 D ad N Sh (xQcI D ad N Sh) [.ref (ad oo0), .int pp1, .int pp2] σ (F_X5_writer oo0 pp1 pp2 σ) := by
  refine x_startT (own := RX5) (maxL := 3) (by decide) rfl rfl (Nat.le_of_ble_eq_true rfl) rfl hI (fun Γ hl hnL hX X => ?_)
  subst hl
  unfold F_X5_writer
  refine xr_aload_n (pc := 0) X (i := 0) 0 rfl rfl dX5_writer_0 ?_
  refine xgX5 (pc := 1) X (oo0) hh0.1 1 wm_1_17 rfl rfl (by decide) rfl dX5_writer_1 ?_
  refine xr_iload_n (pc := 4) X (i := 1) 1 rfl rfl dX5_writer_4 ?_
  refine xr_callVI (na := 1) (pc := 5) X (oo0 + 3) [.int pp1] _ (c_X3_faultOfWriter Γ.2.1 hI (oo0 + 3) hh0.2.2.1 pp1 σ) (wG_V wm_9_20 wm_14_12 wm_9_18 wm_9_19 wm_1_16) rfl rfl rfl (by decide +kernel) ⟨Nat.le_of_ble_eq_true rfl, Nat.le_of_ble_eq_true rfl⟩ hh0.2.2.1.1.1 hh0.2.2.1.1.2 rfl (T := TX3) (C := RX3) rfl rfl rfl (Nat.le_of_ble_eq_true rfl) ⟨Nat.le_of_ble_eq_true rfl, Nat.le_of_ble_eq_true rfl⟩ dX5_writer_5 (fun zz2 σ1 => ?_)
  refine xr_callTSV (na := 1) (pc := 8) X hX [.int zz2] (c_X5_refuse Γ.2.1 hI hst zz2 σ1) (wG_S wm_6_19 wm_6_17 wm_6_18 wm_1_2) rfl rfl rfl (by decide +kernel) ⟨Nat.le_of_ble_eq_true rfl, Nat.le_of_ble_eq_true rfl⟩ rfl rfl (Nat.le_of_ble_eq_true rfl) ⟨Nat.le_of_ble_eq_true rfl, Nat.le_of_ble_eq_true rfl⟩ ⟨Nat.le_of_ble_eq_true rfl, Nat.le_of_ble_eq_true rfl⟩ dX5_writer_8 (fun zz4 σ3 => ?_)
  refine xr_iload_n (pc := 11) X (i := 2) 2 rfl rfl dX5_writer_11 ?_
  refine xr_iconst (pc := 12) X dX5_writer_12 (v := 0) (by decide) ?_
  refine xr_bipush (pc := 13) X dX5_writer_13 (v := 6) (by decide) ?_
  refine xr_callSI (na := 3) (pc := 15) X [.int pp2, .int 0, .int 6] (c_X5_isWithin Γ.2.1 hI pp2 0 6 σ3) (wG_S wm_6_13 wm_6_11 wm_6_12 wm_1_2) rfl rfl rfl (by decide +kernel) ⟨Nat.le_of_ble_eq_true rfl, Nat.le_of_ble_eq_true rfl⟩ rfl rfl (Nat.le_of_ble_eq_true rfl) ⟨Nat.le_of_ble_eq_true rfl, Nat.le_of_ble_eq_true rfl⟩ dX5_writer_15 (fun zz6 σ5 => ?_)
  refine xr_iconst (pc := 18) X dX5_writer_18 (v := 2) (by decide) ?_
  refine xr_callTSV (na := 2) (pc := 19) X hX [.int zz6, .int 2] (c_X5_demand Γ.2.1 hI hst zz6 2 σ5) (wG_S wm_6_16 wm_6_14 wm_6_15 wm_1_2) rfl rfl rfl (by decide +kernel) ⟨Nat.le_of_ble_eq_true rfl, Nat.le_of_ble_eq_true rfl⟩ rfl rfl (Nat.le_of_ble_eq_true rfl) ⟨Nat.le_of_ble_eq_true rfl, Nat.le_of_ble_eq_true rfl⟩ ⟨Nat.le_of_ble_eq_true rfl, Nat.le_of_ble_eq_true rfl⟩ dX5_writer_19 (fun zz8 σ7 => ?_)
  refine xr_aload_n (pc := 22) X (i := 0) 0 rfl rfl dX5_writer_22 ?_
  refine xgX5 (pc := 23) X (oo0) hh0.1 1 wm_1_17 rfl rfl (by decide) rfl dX5_writer_23 ?_
  refine xgNX3 (pc := 26) X (oo0 + 3) hh0.2.2.1.1 4 3 rfl rfl rfl (by decide) rfl dX5_writer_26 ?_
  refine xr_iload_n (pc := 29) X (i := 1) 1 rfl rfl dX5_writer_29 ?_
  refine xr_aldPair (pc := 30) X ((oo0 + 3) + 6) 4 (fun j => (oo0 + 3) + 7 + 9 * j) hh0.2.2.1.2.2.2.1.1 hh0.2.2.1.2.2.2.1.2 (fun _ hj => if_pos hj) dX5_writer_30 (fun haa9 => ?_)
  refine xr_iload_n (pc := 31) X (i := 2) 2 rfl rfl dX5_writer_31 ?_
  refine xr_callVI (na := 1) (pc := 32) X ((oo0 + 3) + 7 + 9 * pp1.toNatClampNeg) [.int pp2] _ (c_X2_numberOfWriter Γ.2.1 hI ((oo0 + 3) + 7 + 9 * pp1.toNatClampNeg) ((hh0.2.2.1.2.2.2.2 _ (xin_lt haa9))) pp2 σ7) (wG_V wm_13_18 wm_14_13 wm_13_16 wm_13_17 wm_3_4) rfl rfl rfl (by decide +kernel) ⟨Nat.le_of_ble_eq_true rfl, Nat.le_of_ble_eq_true rfl⟩ (hh0.2.2.1.2.2.2.2 _ (xin_lt haa9)).1.1 (hh0.2.2.1.2.2.2.2 _ (xin_lt haa9)).1.2 rfl (T := TX2) (C := RX2) rfl rfl rfl (Nat.le_of_ble_eq_true rfl) ⟨Nat.le_of_ble_eq_true rfl, Nat.le_of_ble_eq_true rfl⟩ dX5_writer_32 (fun zz11 σ10 => ?_)
  exact xr_tiret (pc := 35) X (Nat.le_of_ble_eq_true rfl) (Nat.le_of_ble_eq_true rfl) dX5_writer_35
def F_X5_desk (oo0 : Nat) (pp1 : Int32) (pp2 : Int32) (σ : xS) : Option xR :=
  xbI (F_X3_faultOfWriter (oo0 + 3) pp1 σ) (fun (zz2 : Int32) (σ1 : xS) => xbT (F_X5_refuse zz2 σ1) (fun (zz4 : Int32) (σ3 : xS) => xbI (F_X5_isWithin pp2 0 5 σ3) (fun (zz6 : Int32) (σ5 : xS) => xbT (F_X5_demand zz6 2 σ5) (fun (zz8 : Int32) (σ7 : xS) => if xin pp1 4 = true then (xbI (F_X2_numberOfDesk ((oo0 + 3) + 7 + 9 * pp1.toNatClampNeg) pp2 σ7) (fun (zz11 : Int32) (σ10 : xS) => some (0, zz11, σ10))) else none))))
abbrev rm_X5_desk : Room := { frames := 8, cells := 2, slots := 12, locals := 122 }
set_option maxHeartbeats 4000000 in
set_option maxRecDepth 100000 in
theorem c_X5_desk (l : Launch) {D : va_G} {ad : Nat → Nat} {N : Nat} {Sh : xSh} (hI : ∀ i j, i < N → j < N → ad i = ad j → i = j) (hst : l.stackTraces = false) (oo0 : Nat) (hh0 : xIs5 D ad N Sh oo0) (pp1 : Int32) (pp2 : Int32) (σ : xS) : xKT l yX5_desk (Cond.code yX5_desk cX5_desk 3 (some .int) :: wG) rm_X5_desk 2 12 D ad N Sh (xQcI D ad N Sh) [.ref (ad oo0), .int pp1, .int pp2] σ (F_X5_desk oo0 pp1 pp2 σ) := by
  refine x_startT (own := RX5) (maxL := 3) (by decide) rfl rfl (Nat.le_of_ble_eq_true rfl) rfl hI (fun Γ hl hnL hX X => ?_)
  subst hl
  unfold F_X5_desk
  refine xr_aload_n (pc := 0) X (i := 0) 0 rfl rfl dX5_desk_0 ?_
  refine xgX5 (pc := 1) X (oo0) hh0.1 1 wm_1_17 rfl rfl (by decide) rfl dX5_desk_1 ?_
  refine xr_iload_n (pc := 4) X (i := 1) 1 rfl rfl dX5_desk_4 ?_
  refine xr_callVI (na := 1) (pc := 5) X (oo0 + 3) [.int pp1] _ (c_X3_faultOfWriter Γ.2.1 hI (oo0 + 3) hh0.2.2.1 pp1 σ) (wG_V wm_9_20 wm_14_12 wm_9_18 wm_9_19 wm_1_16) rfl rfl rfl (by decide +kernel) ⟨Nat.le_of_ble_eq_true rfl, Nat.le_of_ble_eq_true rfl⟩ hh0.2.2.1.1.1 hh0.2.2.1.1.2 rfl (T := TX3) (C := RX3) rfl rfl rfl (Nat.le_of_ble_eq_true rfl) ⟨Nat.le_of_ble_eq_true rfl, Nat.le_of_ble_eq_true rfl⟩ dX5_desk_5 (fun zz2 σ1 => ?_)
  refine xr_callTSV (na := 1) (pc := 8) X hX [.int zz2] (c_X5_refuse Γ.2.1 hI hst zz2 σ1) (wG_S wm_6_19 wm_6_17 wm_6_18 wm_1_2) rfl rfl rfl (by decide +kernel) ⟨Nat.le_of_ble_eq_true rfl, Nat.le_of_ble_eq_true rfl⟩ rfl rfl (Nat.le_of_ble_eq_true rfl) ⟨Nat.le_of_ble_eq_true rfl, Nat.le_of_ble_eq_true rfl⟩ ⟨Nat.le_of_ble_eq_true rfl, Nat.le_of_ble_eq_true rfl⟩ dX5_desk_8 (fun zz4 σ3 => ?_)
  refine xr_iload_n (pc := 11) X (i := 2) 2 rfl rfl dX5_desk_11 ?_
  refine xr_iconst (pc := 12) X dX5_desk_12 (v := 0) (by decide) ?_
  refine xr_iconst (pc := 13) X dX5_desk_13 (v := 5) (by decide) ?_
  refine xr_callSI (na := 3) (pc := 14) X [.int pp2, .int 0, .int 5] (c_X5_isWithin Γ.2.1 hI pp2 0 5 σ3) (wG_S wm_6_13 wm_6_11 wm_6_12 wm_1_2) rfl rfl rfl (by decide +kernel) ⟨Nat.le_of_ble_eq_true rfl, Nat.le_of_ble_eq_true rfl⟩ rfl rfl (Nat.le_of_ble_eq_true rfl) ⟨Nat.le_of_ble_eq_true rfl, Nat.le_of_ble_eq_true rfl⟩ dX5_desk_14 (fun zz6 σ5 => ?_)
  refine xr_iconst (pc := 17) X dX5_desk_17 (v := 2) (by decide) ?_
  refine xr_callTSV (na := 2) (pc := 18) X hX [.int zz6, .int 2] (c_X5_demand Γ.2.1 hI hst zz6 2 σ5) (wG_S wm_6_16 wm_6_14 wm_6_15 wm_1_2) rfl rfl rfl (by decide +kernel) ⟨Nat.le_of_ble_eq_true rfl, Nat.le_of_ble_eq_true rfl⟩ rfl rfl (Nat.le_of_ble_eq_true rfl) ⟨Nat.le_of_ble_eq_true rfl, Nat.le_of_ble_eq_true rfl⟩ ⟨Nat.le_of_ble_eq_true rfl, Nat.le_of_ble_eq_true rfl⟩ dX5_desk_18 (fun zz8 σ7 => ?_)
  refine xr_aload_n (pc := 21) X (i := 0) 0 rfl rfl dX5_desk_21 ?_
  refine xgX5 (pc := 22) X (oo0) hh0.1 1 wm_1_17 rfl rfl (by decide) rfl dX5_desk_22 ?_
  refine xgNX3 (pc := 25) X (oo0 + 3) hh0.2.2.1.1 4 3 rfl rfl rfl (by decide) rfl dX5_desk_25 ?_
  refine xr_iload_n (pc := 28) X (i := 1) 1 rfl rfl dX5_desk_28 ?_
  refine xr_aldPair (pc := 29) X ((oo0 + 3) + 6) 4 (fun j => (oo0 + 3) + 7 + 9 * j) hh0.2.2.1.2.2.2.1.1 hh0.2.2.1.2.2.2.1.2 (fun _ hj => if_pos hj) dX5_desk_29 (fun haa9 => ?_)
  refine xr_iload_n (pc := 30) X (i := 2) 2 rfl rfl dX5_desk_30 ?_
  refine xr_callVI (na := 1) (pc := 31) X ((oo0 + 3) + 7 + 9 * pp1.toNatClampNeg) [.int pp2] _ (c_X2_numberOfDesk Γ.2.1 hI ((oo0 + 3) + 7 + 9 * pp1.toNatClampNeg) ((hh0.2.2.1.2.2.2.2 _ (xin_lt haa9))) pp2 σ7) (wG_V wm_14_2 wm_14_21 wm_14_0 wm_14_1 wm_3_4) rfl rfl rfl (by decide +kernel) ⟨Nat.le_of_ble_eq_true rfl, Nat.le_of_ble_eq_true rfl⟩ (hh0.2.2.1.2.2.2.2 _ (xin_lt haa9)).1.1 (hh0.2.2.1.2.2.2.2 _ (xin_lt haa9)).1.2 rfl (T := TX2) (C := RX2) rfl rfl rfl (Nat.le_of_ble_eq_true rfl) ⟨Nat.le_of_ble_eq_true rfl, Nat.le_of_ble_eq_true rfl⟩ dX5_desk_31 (fun zz11 σ10 => ?_)
  exact xr_tiret (pc := 34) X (Nat.le_of_ble_eq_true rfl) (Nat.le_of_ble_eq_true rfl) dX5_desk_34
def F_X5_letter (oo0 : Nat) (pp1 : Int32) (pp2 : Int32) (pp3 : Int32) (σ : xS) : Option xR :=
  xbI (F_X3_faultOfWriter (oo0 + 3) pp1 σ) (fun (zz2 : Int32) (σ1 : xS) => xbT (F_X5_refuse zz2 σ1) (fun (zz4 : Int32) (σ3 : xS) => if xin pp1 4 = true then (xbI (F_X5_isWithin pp2 0 ((σ3 (((oo0 + 3) + 7 + 9 * pp1.toNatClampNeg) + 1) 3) - 1) σ3) (fun (zz7 : Int32) (σ6 : xS) => xbT (F_X5_demand zz7 1 σ6) (fun (zz9 : Int32) (σ8 : xS) => xbI (F_X5_isWithin pp3 0 1 σ8) (fun (zz11 : Int32) (σ10 : xS) => xbT (F_X5_demand zz11 2 σ10) (fun (zz13 : Int32) (σ12 : xS) => if ¬ pp3 = 0 then (xbI (F_X0_timeAt 6 (((oo0 + 3) + 7 + 9 * pp1.toNatClampNeg) + 1) pp2 σ12) (fun (zz15 : Int32) (σ14 : xS) => some (0, zz15, σ14)))
 else (xbI (F_X0_numberAt 6 (((oo0 + 3) + 7 + 9 * pp1.toNatClampNeg) + 1) pp2 σ12) (fun (zz17 : Int32) (σ16 : xS) => some (0, zz17, σ16)))))))) else none))
abbrev rm_X5_letter : Room := { frames := 8, cells := 3, slots := 18, locals := 122 }
set_option maxHeartbeats 4000000 in
set_option maxRecDepth 100000 in
theorem c_X5_letter (l : Launch) {D : va_G} {ad : Nat → Nat} {N : Nat} {Sh : xSh} (hI : ∀ i j, i < N → j < N → ad i = ad j → i = j) (hst : l.stackTraces = false) (oo0 : Nat) (hh0 : xIs5 D ad N Sh oo0) (pp1 : Int32) (pp2 : Int32) (pp3 : Int32) (σ : xS) : xKT l yX5_letter (Cond.code yX5_letter cX5_letter 5 (some .int) :: wG) rm_X5_letter 3 18 D ad N Sh (xQcI D ad N Sh) [.ref (ad oo0), .int pp1, .int pp2, .int pp3] σ (F_X5_letter oo0 pp1 pp2 pp3 σ) := by
  refine x_startT (own := RX5) (maxL := 5) (by decide) rfl rfl (Nat.le_of_ble_eq_true rfl) rfl hI (fun Γ hl hnL hX X => ?_)
  subst hl
  unfold F_X5_letter
  refine xr_aload_n (pc := 0) X (i := 0) 0 rfl rfl dX5_letter_0 ?_
  refine xgX5 (pc := 1) X (oo0) hh0.1 1 wm_1_17 rfl rfl (by decide) rfl dX5_letter_1 ?_
  refine xr_iload_n (pc := 4) X (i := 1) 1 rfl rfl dX5_letter_4 ?_
  refine xr_callVI (na := 1) (pc := 5) X (oo0 + 3) [.int pp1] _ (c_X3_faultOfWriter Γ.2.1 hI (oo0 + 3) hh0.2.2.1 pp1 σ) (wG_V wm_9_20 wm_14_12 wm_9_18 wm_9_19 wm_1_16) rfl rfl rfl (by decide +kernel) ⟨Nat.le_of_ble_eq_true rfl, Nat.le_of_ble_eq_true rfl⟩ hh0.2.2.1.1.1 hh0.2.2.1.1.2 rfl (T := TX3) (C := RX3) rfl rfl rfl (Nat.le_of_ble_eq_true rfl) ⟨Nat.le_of_ble_eq_true rfl, Nat.le_of_ble_eq_true rfl⟩ dX5_letter_5 (fun zz2 σ1 => ?_)
  refine xr_callTSV (na := 1) (pc := 8) X hX [.int zz2] (c_X5_refuse Γ.2.1 hI hst zz2 σ1) (wG_S wm_6_19 wm_6_17 wm_6_18 wm_1_2) rfl rfl rfl (by decide +kernel) ⟨Nat.le_of_ble_eq_true rfl, Nat.le_of_ble_eq_true rfl⟩ rfl rfl (Nat.le_of_ble_eq_true rfl) ⟨Nat.le_of_ble_eq_true rfl, Nat.le_of_ble_eq_true rfl⟩ ⟨Nat.le_of_ble_eq_true rfl, Nat.le_of_ble_eq_true rfl⟩ dX5_letter_8 (fun zz4 σ3 => ?_)
  refine xr_aload_n (pc := 11) X (i := 0) 0 rfl rfl dX5_letter_11 ?_
  refine xgX5 (pc := 12) X (oo0) hh0.1 1 wm_1_17 rfl rfl (by decide) rfl dX5_letter_12 ?_
  refine xgNX3 (pc := 15) X (oo0 + 3) hh0.2.2.1.1 4 3 rfl rfl rfl (by decide) rfl dX5_letter_15 ?_
  refine xr_iload_n (pc := 18) X (i := 1) 1 rfl rfl dX5_letter_18 ?_
  refine xr_aldPair (pc := 19) X ((oo0 + 3) + 6) 4 (fun j => (oo0 + 3) + 7 + 9 * j) hh0.2.2.1.2.2.2.1.1 hh0.2.2.1.2.2.2.1.2 (fun _ hj => if_pos hj) dX5_letter_19 (fun haa5 => ?_)
  refine xgNX2 (pc := 20) X ((oo0 + 3) + 7 + 9 * pp1.toNatClampNeg) ((hh0.2.2.1.2.2.2.2 _ (xin_lt haa5)).1) 1 4 rfl rfl rfl (by decide) rfl dX5_letter_20 ?_
  refine xr_astore (pc := 23) X (i := 4) (lv2 := [(2, .int pp2), (3, .int pp3), (4, .ref (ad (((oo0 + 3) + 7 + 9 * pp1.toNatClampNeg) + 1)))]) [3, 4, 0] (Nat.le_of_ble_eq_true rfl) hnL rfl dX5_letter_23 ?_
  refine xr_iload_n (pc := 25) X (i := 2) 0 rfl rfl dX5_letter_25 ?_
  refine xr_iconst (pc := 26) X dX5_letter_26 (v := 0) (by decide) ?_
  refine xr_aload (pc := 27) X (i := 4) 2 rfl dX5_letter_27 ?_
  refine xgNX0 (pc := 29) X (((oo0 + 3) + 7 + 9 * pp1.toNatClampNeg) + 1) ((hh0.2.2.1.2.2.2.2 _ (xin_lt haa5)).2.1.1) 3 2 rfl rfl rfl (by decide) rfl dX5_letter_29 ?_
  refine xr_iconst (pc := 32) X dX5_letter_32 (v := 1) (by decide) ?_
  refine xr_isub (pc := 33) X dX5_letter_33 ?_
  refine xr_callSI (na := 3) (pc := 34) X [.int pp2, .int 0, .int ((σ3 (((oo0 + 3) + 7 + 9 * pp1.toNatClampNeg) + 1) 3) - 1)] (c_X5_isWithin Γ.2.1 hI pp2 0 ((σ3 (((oo0 + 3) + 7 + 9 * pp1.toNatClampNeg) + 1) 3) - 1) σ3) (wG_S wm_6_13 wm_6_11 wm_6_12 wm_1_2) rfl rfl rfl (by decide +kernel) ⟨Nat.le_of_ble_eq_true rfl, Nat.le_of_ble_eq_true rfl⟩ rfl rfl (Nat.le_of_ble_eq_true rfl) ⟨Nat.le_of_ble_eq_true rfl, Nat.le_of_ble_eq_true rfl⟩ dX5_letter_34 (fun zz7 σ6 => ?_)
  refine xr_iconst (pc := 37) X dX5_letter_37 (v := 1) (by decide) ?_
  refine xr_callTSV (na := 2) (pc := 38) X hX [.int zz7, .int 1] (c_X5_demand Γ.2.1 hI hst zz7 1 σ6) (wG_S wm_6_16 wm_6_14 wm_6_15 wm_1_2) rfl rfl rfl (by decide +kernel) ⟨Nat.le_of_ble_eq_true rfl, Nat.le_of_ble_eq_true rfl⟩ rfl rfl (Nat.le_of_ble_eq_true rfl) ⟨Nat.le_of_ble_eq_true rfl, Nat.le_of_ble_eq_true rfl⟩ ⟨Nat.le_of_ble_eq_true rfl, Nat.le_of_ble_eq_true rfl⟩ dX5_letter_38 (fun zz9 σ8 => ?_)
  refine xr_iload_n (pc := 41) X (i := 3) 1 rfl rfl dX5_letter_41 ?_
  refine xr_iconst (pc := 42) X dX5_letter_42 (v := 0) (by decide) ?_
  refine xr_iconst (pc := 43) X dX5_letter_43 (v := 1) (by decide) ?_
  refine xr_callSI (na := 3) (pc := 44) X [.int pp3, .int 0, .int 1] (c_X5_isWithin Γ.2.1 hI pp3 0 1 σ8) (wG_S wm_6_13 wm_6_11 wm_6_12 wm_1_2) rfl rfl rfl (by decide +kernel) ⟨Nat.le_of_ble_eq_true rfl, Nat.le_of_ble_eq_true rfl⟩ rfl rfl (Nat.le_of_ble_eq_true rfl) ⟨Nat.le_of_ble_eq_true rfl, Nat.le_of_ble_eq_true rfl⟩ dX5_letter_44 (fun zz11 σ10 => ?_)
  refine xr_iconst (pc := 47) X dX5_letter_47 (v := 2) (by decide) ?_
  refine xr_callTSV (na := 2) (pc := 48) X hX [.int zz11, .int 2] (c_X5_demand Γ.2.1 hI hst zz11 2 σ10) (wG_S wm_6_16 wm_6_14 wm_6_15 wm_1_2) rfl rfl rfl (by decide +kernel) ⟨Nat.le_of_ble_eq_true rfl, Nat.le_of_ble_eq_true rfl⟩ rfl rfl (Nat.le_of_ble_eq_true rfl) ⟨Nat.le_of_ble_eq_true rfl, Nat.le_of_ble_eq_true rfl⟩ ⟨Nat.le_of_ble_eq_true rfl, Nat.le_of_ble_eq_true rfl⟩ dX5_letter_48 (fun zz13 σ12 => ?_)
  refine xr_iload_n (pc := 51) X (i := 3) 1 rfl rfl dX5_letter_51 ?_
  refine xr_if_ne (pc := 52) X 64 (by decide) dX5_letter_52 (fun _ => ?_) (fun _ => ?_)
  · refine xr_aload (pc := 64) X (i := 4) 2 rfl dX5_letter_64 ?_
    refine xr_iload_n (pc := 66) X (i := 2) 0 rfl rfl dX5_letter_66 ?_
    refine xr_callVI (na := 1) (pc := 67) X (((oo0 + 3) + 7 + 9 * pp1.toNatClampNeg) + 1) [.int pp2] _ (c_X0_timeAt Γ.2.1 hI 6 (((oo0 + 3) + 7 + 9 * pp1.toNatClampNeg) + 1) ((hh0.2.2.1.2.2.2.2 _ (xin_lt haa5)).2.1) pp2 σ12) (wG_V wm_11_1 wm_15_6 wm_10_23 wm_11_0 wm_2_23) rfl rfl rfl (by decide +kernel) ⟨Nat.le_of_ble_eq_true rfl, Nat.le_of_ble_eq_true rfl⟩ (hh0.2.2.1.2.2.2.2 _ (xin_lt haa5)).2.1.1.1 (hh0.2.2.1.2.2.2.2 _ (xin_lt haa5)).2.1.1.2 rfl (T := TX0) (C := RX0) rfl rfl rfl (Nat.le_of_ble_eq_true rfl) ⟨Nat.le_of_ble_eq_true rfl, Nat.le_of_ble_eq_true rfl⟩ dX5_letter_67 (fun zz15 σ14 => ?_)
    exact xr_tiret (pc := 70) X (Nat.le_of_ble_eq_true rfl) (Nat.le_of_ble_eq_true rfl) dX5_letter_70
  refine xr_aload (pc := 55) X (i := 4) 2 rfl dX5_letter_55 ?_
  refine xr_iload_n (pc := 57) X (i := 2) 0 rfl rfl dX5_letter_57 ?_
  refine xr_callVI (na := 1) (pc := 58) X (((oo0 + 3) + 7 + 9 * pp1.toNatClampNeg) + 1) [.int pp2] _ (c_X0_numberAt Γ.2.1 hI 6 (((oo0 + 3) + 7 + 9 * pp1.toNatClampNeg) + 1) ((hh0.2.2.1.2.2.2.2 _ (xin_lt haa5)).2.1) pp2 σ12) (wG_V wm_12_0 wm_15_5 wm_11_22 wm_11_23 wm_2_23) rfl rfl rfl (by decide +kernel) ⟨Nat.le_of_ble_eq_true rfl, Nat.le_of_ble_eq_true rfl⟩ (hh0.2.2.1.2.2.2.2 _ (xin_lt haa5)).2.1.1.1 (hh0.2.2.1.2.2.2.2 _ (xin_lt haa5)).2.1.1.2 rfl (T := TX0) (C := RX0) rfl rfl rfl (Nat.le_of_ble_eq_true rfl) ⟨Nat.le_of_ble_eq_true rfl, Nat.le_of_ble_eq_true rfl⟩ dX5_letter_58 (fun zz17 σ16 => ?_)
  refine xr_goto (pc := 61) X 70 (by decide) dX5_letter_61 ?_
  exact xr_tiret (pc := 70) X (Nat.le_of_ble_eq_true rfl) (Nat.le_of_ble_eq_true rfl) dX5_letter_70
def F_X5_planned (oo0 : Nat) (pp1 : Int32) (pp2 : Int32) (σ : xS) : Option xR :=
  xbI (F_X5_isWithin pp1 0 ((σ ((oo0 + 3) + 2) 3) - 1) σ) (fun (zz2 : Int32) (σ1 : xS) => xbT (F_X5_demand zz2 1 σ1) (fun (zz4 : Int32) (σ3 : xS) => xbI (F_X5_isWithin pp2 0 2 σ3) (fun (zz6 : Int32) (σ5 : xS) => xbT (F_X5_demand zz6 2 σ5) (fun (zz8 : Int32) (σ7 : xS) => if pp2 = 0 then (xbI (F_X0_timeAt 8 ((oo0 + 3) + 2) pp1 σ7) (fun (zz10 : Int32) (σ9 : xS) => some (0, zz10, σ9)))
 else (if pp2 = 1 then (xbI (F_X0_writerAt 8 ((oo0 + 3) + 2) pp1 σ7) (fun (zz13 : Int32) (σ12 : xS) => some (0, zz13, σ12)))
 else (xbI (F_X0_numberAt 8 ((oo0 + 3) + 2) pp1 σ7) (fun (zz16 : Int32) (σ15 : xS) => some (0, zz16, σ15))))))))
abbrev rm_X5_planned : Room := { frames := 8, cells := 2, slots := 12, locals := 122 }
set_option maxHeartbeats 4000000 in
set_option maxRecDepth 100000 in
theorem c_X5_planned (l : Launch) {D : va_G} {ad : Nat → Nat} {N : Nat} {Sh : xSh} (hI : ∀ i j, i < N → j < N → ad i = ad j → i = j) (hst : l.stackTraces = false) (oo0 : Nat) (hh0 : xIs5 D ad N Sh oo0) (pp1 : Int32) (pp2 : Int32) (σ : xS) : xKT l yX5_planned (Cond.code yX5_planned cX5_planned 4 (some .int) :: wG) rm_X5_planned 2 12 D ad N Sh (xQcI D ad N Sh) [.ref (ad oo0), .int pp1, .int pp2] σ (F_X5_planned oo0 pp1 pp2 σ) := by
  refine x_startT (own := RX5) (maxL := 4) (by decide) rfl rfl (Nat.le_of_ble_eq_true rfl) rfl hI (fun Γ hl hnL hX X => ?_)
  subst hl
  unfold F_X5_planned
  refine xr_aload_n (pc := 0) X (i := 0) 0 rfl rfl dX5_planned_0 ?_
  refine xgX5 (pc := 1) X (oo0) hh0.1 1 wm_1_17 rfl rfl (by decide) rfl dX5_planned_1 ?_
  refine xgNX3 (pc := 4) X (oo0 + 3) hh0.2.2.1.1 3 1 rfl rfl rfl (by decide) rfl dX5_planned_4 ?_
  refine xr_astore_n (pc := 7) X (hf := rfl) (i := 3) (lv2 := [(1, .int pp1), (2, .int pp2), (3, .ref (ad ((oo0 + 3) + 2)))]) [2, 3, 0] (Nat.le_of_ble_eq_true rfl) hnL rfl dX5_planned_7 ?_
  refine xr_iload_n (pc := 8) X (i := 1) 0 rfl rfl dX5_planned_8 ?_
  refine xr_iconst (pc := 9) X dX5_planned_9 (v := 0) (by decide) ?_
  refine xr_aload_n (pc := 10) X (i := 3) 2 rfl rfl dX5_planned_10 ?_
  refine xgNX0 (pc := 11) X ((oo0 + 3) + 2) hh0.2.2.1.2.2.1.1 3 2 rfl rfl rfl (by decide) rfl dX5_planned_11 ?_
  refine xr_iconst (pc := 14) X dX5_planned_14 (v := 1) (by decide) ?_
  refine xr_isub (pc := 15) X dX5_planned_15 ?_
  refine xr_callSI (na := 3) (pc := 16) X [.int pp1, .int 0, .int ((σ ((oo0 + 3) + 2) 3) - 1)] (c_X5_isWithin Γ.2.1 hI pp1 0 ((σ ((oo0 + 3) + 2) 3) - 1) σ) (wG_S wm_6_13 wm_6_11 wm_6_12 wm_1_2) rfl rfl rfl (by decide +kernel) ⟨Nat.le_of_ble_eq_true rfl, Nat.le_of_ble_eq_true rfl⟩ rfl rfl (Nat.le_of_ble_eq_true rfl) ⟨Nat.le_of_ble_eq_true rfl, Nat.le_of_ble_eq_true rfl⟩ dX5_planned_16 (fun zz2 σ1 => ?_)
  refine xr_iconst (pc := 19) X dX5_planned_19 (v := 1) (by decide) ?_
  refine xr_callTSV (na := 2) (pc := 20) X hX [.int zz2, .int 1] (c_X5_demand Γ.2.1 hI hst zz2 1 σ1) (wG_S wm_6_16 wm_6_14 wm_6_15 wm_1_2) rfl rfl rfl (by decide +kernel) ⟨Nat.le_of_ble_eq_true rfl, Nat.le_of_ble_eq_true rfl⟩ rfl rfl (Nat.le_of_ble_eq_true rfl) ⟨Nat.le_of_ble_eq_true rfl, Nat.le_of_ble_eq_true rfl⟩ ⟨Nat.le_of_ble_eq_true rfl, Nat.le_of_ble_eq_true rfl⟩ dX5_planned_20 (fun zz4 σ3 => ?_)
  refine xr_iload_n (pc := 23) X (i := 2) 1 rfl rfl dX5_planned_23 ?_
  refine xr_iconst (pc := 24) X dX5_planned_24 (v := 0) (by decide) ?_
  refine xr_iconst (pc := 25) X dX5_planned_25 (v := 2) (by decide) ?_
  refine xr_callSI (na := 3) (pc := 26) X [.int pp2, .int 0, .int 2] (c_X5_isWithin Γ.2.1 hI pp2 0 2 σ3) (wG_S wm_6_13 wm_6_11 wm_6_12 wm_1_2) rfl rfl rfl (by decide +kernel) ⟨Nat.le_of_ble_eq_true rfl, Nat.le_of_ble_eq_true rfl⟩ rfl rfl (Nat.le_of_ble_eq_true rfl) ⟨Nat.le_of_ble_eq_true rfl, Nat.le_of_ble_eq_true rfl⟩ dX5_planned_26 (fun zz6 σ5 => ?_)
  refine xr_iconst (pc := 29) X dX5_planned_29 (v := 2) (by decide) ?_
  refine xr_callTSV (na := 2) (pc := 30) X hX [.int zz6, .int 2] (c_X5_demand Γ.2.1 hI hst zz6 2 σ5) (wG_S wm_6_16 wm_6_14 wm_6_15 wm_1_2) rfl rfl rfl (by decide +kernel) ⟨Nat.le_of_ble_eq_true rfl, Nat.le_of_ble_eq_true rfl⟩ rfl rfl (Nat.le_of_ble_eq_true rfl) ⟨Nat.le_of_ble_eq_true rfl, Nat.le_of_ble_eq_true rfl⟩ ⟨Nat.le_of_ble_eq_true rfl, Nat.le_of_ble_eq_true rfl⟩ dX5_planned_30 (fun zz8 σ7 => ?_)
  refine xr_iload_n (pc := 33) X (i := 2) 1 rfl rfl dX5_planned_33 ?_
  refine x_if (fun hcc11 => ?_) (fun hcc11 => ?_)
  · refine xr_look (off := 26) (pc := 34) X 60 dX5_planned_34 (by decide) (by rw [hcc11]; rfl) (by decide) ?_
    refine xr_aload_n (pc := 60) X (i := 3) 2 rfl rfl dX5_planned_60 ?_
    refine xr_iload_n (pc := 61) X (i := 1) 0 rfl rfl dX5_planned_61 ?_
    refine xr_callVI (na := 1) (pc := 62) X ((oo0 + 3) + 2) [.int pp1] _ (c_X0_timeAt Γ.2.1 hI 8 ((oo0 + 3) + 2) hh0.2.2.1.2.2.1 pp1 σ7) (wG_V wm_11_1 wm_15_6 wm_10_23 wm_11_0 wm_2_23) rfl rfl rfl (by decide +kernel) ⟨Nat.le_of_ble_eq_true rfl, Nat.le_of_ble_eq_true rfl⟩ hh0.2.2.1.2.2.1.1.1 hh0.2.2.1.2.2.1.1.2 rfl (T := TX0) (C := RX0) rfl rfl rfl (Nat.le_of_ble_eq_true rfl) ⟨Nat.le_of_ble_eq_true rfl, Nat.le_of_ble_eq_true rfl⟩ dX5_planned_62 (fun zz10 σ9 => ?_)
    exact xr_tiret (pc := 65) X (Nat.le_of_ble_eq_true rfl) (Nat.le_of_ble_eq_true rfl) dX5_planned_65
  refine x_if (fun hcc14 => ?_) (fun hcc14 => ?_)
  · refine xr_look (off := 32) (pc := 34) X 66 dX5_planned_34 (by decide) (by rw [hcc14]; rfl) (by decide) ?_
    refine xr_aload_n (pc := 66) X (i := 3) 2 rfl rfl dX5_planned_66 ?_
    refine xr_iload_n (pc := 67) X (i := 1) 0 rfl rfl dX5_planned_67 ?_
    refine xr_callVI (na := 1) (pc := 68) X ((oo0 + 3) + 2) [.int pp1] _ (c_X0_writerAt Γ.2.1 hI 8 ((oo0 + 3) + 2) hh0.2.2.1.2.2.1 pp1 σ7) (wG_V wm_11_20 wm_15_14 wm_11_18 wm_11_19 wm_2_23) rfl rfl rfl (by decide +kernel) ⟨Nat.le_of_ble_eq_true rfl, Nat.le_of_ble_eq_true rfl⟩ hh0.2.2.1.2.2.1.1.1 hh0.2.2.1.2.2.1.1.2 rfl (T := TX0) (C := RX0) rfl rfl rfl (Nat.le_of_ble_eq_true rfl) ⟨Nat.le_of_ble_eq_true rfl, Nat.le_of_ble_eq_true rfl⟩ dX5_planned_68 (fun zz13 σ12 => ?_)
    exact xr_tiret (pc := 71) X (Nat.le_of_ble_eq_true rfl) (Nat.le_of_ble_eq_true rfl) dX5_planned_71
  refine xr_look (off := 38) (pc := 34) X 72 dX5_planned_34 (by decide) (by have g0 := xne hcc11 (j := 0) (by decide); have g1 := xne hcc14 (j := 1) (by decide); simp [Op.lookupswitch.offset, Ne.symm g0, g0, Ne.symm g1, g1]; done) (by decide) ?_
  refine xr_aload_n (pc := 72) X (i := 3) 2 rfl rfl dX5_planned_72 ?_
  refine xr_iload_n (pc := 73) X (i := 1) 0 rfl rfl dX5_planned_73 ?_
  refine xr_callVI (na := 1) (pc := 74) X ((oo0 + 3) + 2) [.int pp1] _ (c_X0_numberAt Γ.2.1 hI 8 ((oo0 + 3) + 2) hh0.2.2.1.2.2.1 pp1 σ7) (wG_V wm_12_0 wm_15_5 wm_11_22 wm_11_23 wm_2_23) rfl rfl rfl (by decide +kernel) ⟨Nat.le_of_ble_eq_true rfl, Nat.le_of_ble_eq_true rfl⟩ hh0.2.2.1.2.2.1.1.1 hh0.2.2.1.2.2.1.1.2 rfl (T := TX0) (C := RX0) rfl rfl rfl (Nat.le_of_ble_eq_true rfl) ⟨Nat.le_of_ble_eq_true rfl, Nat.le_of_ble_eq_true rfl⟩ dX5_planned_74 (fun zz16 σ15 => ?_)
  exact xr_tiret (pc := 77) X (Nat.le_of_ble_eq_true rfl) (Nat.le_of_ble_eq_true rfl) dX5_planned_77
def F_X5_setting (oo0 : Nat) (pp1 : Int32) (σ : xS) : Option xR :=
  xbI (F_X5_isWithin pp1 0 3 σ) (fun (zz2 : Int32) (σ1 : xS) => xbT (F_X5_demand zz2 2 σ1) (fun (zz4 : Int32) (σ3 : xS) => if xin pp1 4 = true then (xlet (σ3 ((oo0 + 3) + 1) pp1.toNatClampNeg) (fun (zz5 : Int32) => some (0, zz5, σ3))) else none))
abbrev rm_X5_setting : Room := { frames := 8, cells := 1, slots := 6, locals := 122 }
set_option maxHeartbeats 4000000 in
set_option maxRecDepth 100000 in
theorem c_X5_setting (l : Launch) {D : va_G} {ad : Nat → Nat} {N : Nat} {Sh : xSh} (hI : ∀ i j, i < N → j < N → ad i = ad j → i = j) (hst : l.stackTraces = false) (oo0 : Nat) (hh0 : xIs5 D ad N Sh oo0) (pp1 : Int32) (σ : xS) : xKT l yX5_setting (Cond.code yX5_setting cX5_setting 2 (some .int) :: wG) rm_X5_setting 1 6 D ad N Sh (xQcI D ad N Sh) [.ref (ad oo0), .int pp1] σ (F_X5_setting oo0 pp1 σ) := by
  refine x_startT (own := RX5) (maxL := 2) (by decide) rfl rfl (Nat.le_of_ble_eq_true rfl) rfl hI (fun Γ hl hnL hX X => ?_)
  subst hl
  unfold F_X5_setting
  refine xr_iload_n (pc := 0) X (i := 1) 1 rfl rfl dX5_setting_0 ?_
  refine xr_iconst (pc := 1) X dX5_setting_1 (v := 0) (by decide) ?_
  refine xr_iconst (pc := 2) X dX5_setting_2 (v := 3) (by decide) ?_
  refine xr_callSI (na := 3) (pc := 3) X [.int pp1, .int 0, .int 3] (c_X5_isWithin Γ.2.1 hI pp1 0 3 σ) (wG_S wm_6_13 wm_6_11 wm_6_12 wm_1_2) rfl rfl rfl (by decide +kernel) ⟨Nat.le_of_ble_eq_true rfl, Nat.le_of_ble_eq_true rfl⟩ rfl rfl (Nat.le_of_ble_eq_true rfl) ⟨Nat.le_of_ble_eq_true rfl, Nat.le_of_ble_eq_true rfl⟩ dX5_setting_3 (fun zz2 σ1 => ?_)
  refine xr_iconst (pc := 6) X dX5_setting_6 (v := 2) (by decide) ?_
  refine xr_callTSV (na := 2) (pc := 7) X hX [.int zz2, .int 2] (c_X5_demand Γ.2.1 hI hst zz2 2 σ1) (wG_S wm_6_16 wm_6_14 wm_6_15 wm_1_2) rfl rfl rfl (by decide +kernel) ⟨Nat.le_of_ble_eq_true rfl, Nat.le_of_ble_eq_true rfl⟩ rfl rfl (Nat.le_of_ble_eq_true rfl) ⟨Nat.le_of_ble_eq_true rfl, Nat.le_of_ble_eq_true rfl⟩ ⟨Nat.le_of_ble_eq_true rfl, Nat.le_of_ble_eq_true rfl⟩ dX5_setting_7 (fun zz4 σ3 => ?_)
  refine xr_aload_n (pc := 10) X (i := 0) 0 rfl rfl dX5_setting_10 ?_
  refine xgX5 (pc := 11) X (oo0) hh0.1 1 wm_1_17 rfl rfl (by decide) rfl dX5_setting_11 ?_
  refine xgNX3 (pc := 14) X (oo0 + 3) hh0.2.2.1.1 2 5 rfl rfl rfl (by decide) rfl dX5_setting_14 ?_
  refine xr_iload_n (pc := 17) X (i := 1) 1 rfl rfl dX5_setting_17 ?_
  refine xr_iald (pc := 18) X ((oo0 + 3) + 1) (4) hh0.2.2.1.2.1.1 hh0.2.2.1.2.1.2 dX5_setting_18 (fun zz5 => ?_)
  exact xr_tiret (pc := 19) X (Nat.le_of_ble_eq_true rfl) (Nat.le_of_ble_eq_true rfl) dX5_setting_19
def F_X5_act (oo0 : Nat) (pp1 : Int32) (pp2 : Int32) (pp3 : Int32) (pp4 : Int32) (σ : xS) : Option xR :=
  xbI (F_X3_faultOf (oo0 + 3) pp1 pp2 pp3 pp4 σ) (fun (zz2 : Int32) (σ1 : xS) => xbT (F_X5_refuse zz2 σ1) (fun (zz4 : Int32) (σ3 : xS) => xbV (F_X1_remember (oo0 + 46) (oo0 + 3) σ3) (fun (σ5 : xS) => xbI (F_X3_attempt (oo0 + 3) pp1 pp2 pp3 pp4 σ5) (fun (zz7 : Int32) (σ6 : xS) => some (0, zz7, σ6)))))
abbrev rm_X5_act : Room := { frames := 7, cells := 1, slots := 6, locals := 125 }
set_option maxHeartbeats 4000000 in
set_option maxRecDepth 100000 in
theorem c_X5_act (l : Launch) {D : va_G} {ad : Nat → Nat} {N : Nat} {Sh : xSh} (hI : ∀ i j, i < N → j < N → ad i = ad j → i = j) (hst : l.stackTraces = false) (oo0 : Nat) (hh0 : xIs5 D ad N Sh oo0) (pp1 : Int32) (pp2 : Int32) (pp3 : Int32) (pp4 : Int32) (σ : xS) : xKT l yX5_act (Cond.code yX5_act cX5_act 5 (some .int) :: wG) rm_X5_act 1 6 D ad N Sh (xQcI D ad N Sh) [.ref (ad oo0), .int pp1, .int pp2, .int pp3, .int pp4] σ (F_X5_act oo0 pp1 pp2 pp3 pp4 σ) := by
  refine x_startT (own := RX5) (maxL := 5) (by decide) rfl rfl (Nat.le_of_ble_eq_true rfl) rfl hI (fun Γ hl hnL hX X => ?_)
  subst hl
  unfold F_X5_act
  refine xr_aload_n (pc := 0) X (i := 0) 0 rfl rfl dX5_act_0 ?_
  refine xgX5 (pc := 1) X (oo0) hh0.1 1 wm_1_17 rfl rfl (by decide) rfl dX5_act_1 ?_
  refine xr_iload_n (pc := 4) X (i := 1) 1 rfl rfl dX5_act_4 ?_
  refine xr_iload_n (pc := 5) X (i := 2) 2 rfl rfl dX5_act_5 ?_
  refine xr_iload_n (pc := 6) X (i := 3) 3 rfl rfl dX5_act_6 ?_
  refine xr_iload (pc := 7) X (i := 4) 4 rfl dX5_act_7 ?_
  refine xr_callVI (na := 4) (pc := 9) X (oo0 + 3) [.int pp1, .int pp2, .int pp3, .int pp4] _ (c_X3_faultOf Γ.2.1 hI (oo0 + 3) hh0.2.2.1 pp1 pp2 pp3 pp4 σ) (wG_V wm_9_12 wm_16_9 wm_9_10 wm_9_11 wm_1_16) rfl rfl rfl (by decide +kernel) ⟨Nat.le_of_ble_eq_true rfl, Nat.le_of_ble_eq_true rfl⟩ hh0.2.2.1.1.1 hh0.2.2.1.1.2 rfl (T := TX3) (C := RX3) rfl rfl rfl (Nat.le_of_ble_eq_true rfl) ⟨Nat.le_of_ble_eq_true rfl, Nat.le_of_ble_eq_true rfl⟩ dX5_act_9 (fun zz2 σ1 => ?_)
  refine xr_callTSV (na := 1) (pc := 12) X hX [.int zz2] (c_X5_refuse Γ.2.1 hI hst zz2 σ1) (wG_S wm_6_19 wm_6_17 wm_6_18 wm_1_2) rfl rfl rfl (by decide +kernel) ⟨Nat.le_of_ble_eq_true rfl, Nat.le_of_ble_eq_true rfl⟩ rfl rfl (Nat.le_of_ble_eq_true rfl) ⟨Nat.le_of_ble_eq_true rfl, Nat.le_of_ble_eq_true rfl⟩ ⟨Nat.le_of_ble_eq_true rfl, Nat.le_of_ble_eq_true rfl⟩ dX5_act_12 (fun zz4 σ3 => ?_)
  refine xr_aload_n (pc := 15) X (i := 0) 0 rfl rfl dX5_act_15 ?_
  refine xgX5 (pc := 16) X (oo0) hh0.1 2 wm_1_21 rfl rfl (by decide) rfl dX5_act_16 ?_
  refine xr_aload_n (pc := 19) X (i := 0) 0 rfl rfl dX5_act_19 ?_
  refine xgX5 (pc := 20) X (oo0) hh0.1 1 wm_1_17 rfl rfl (by decide) rfl dX5_act_20 ?_
  refine xr_callVV (na := 1) (pc := 23) X (oo0 + 46) [.ref (ad (oo0 + 3))] _ (c_X1_remember Γ.2.1 hI (oo0 + 46) hh0.2.2.2.1 (oo0 + 3) hh0.2.2.1 σ3) (wG_V wm_16_13 wm_16_10 wm_16_11 wm_16_12 wm_1_20) rfl rfl rfl (by decide +kernel) ⟨Nat.le_of_ble_eq_true rfl, Nat.le_of_ble_eq_true rfl⟩ hh0.2.2.2.1.1.1 hh0.2.2.2.1.1.2 rfl (T := TX1) (C := RX1) rfl rfl rfl (Nat.le_of_ble_eq_true rfl) ⟨Nat.le_of_ble_eq_true rfl, Nat.le_of_ble_eq_true rfl⟩ dX5_act_23 (fun σ5 => ?_)
  refine xr_aload_n (pc := 26) X (i := 0) 0 rfl rfl dX5_act_26 ?_
  refine xgX5 (pc := 27) X (oo0) hh0.1 1 wm_1_17 rfl rfl (by decide) rfl dX5_act_27 ?_
  refine xr_iload_n (pc := 30) X (i := 1) 1 rfl rfl dX5_act_30 ?_
  refine xr_iload_n (pc := 31) X (i := 2) 2 rfl rfl dX5_act_31 ?_
  refine xr_iload_n (pc := 32) X (i := 3) 3 rfl rfl dX5_act_32 ?_
  refine xr_iload (pc := 33) X (i := 4) 4 rfl dX5_act_33 ?_
  refine xr_callVI (na := 4) (pc := 35) X (oo0 + 3) [.int pp1, .int pp2, .int pp3, .int pp4] _ (c_X3_attempt Γ.2.1 hI (oo0 + 3) hh0.2.2.1 pp1 pp2 pp3 pp4 σ5) (wG_V wm_9_8 wm_9_5 wm_9_6 wm_9_7 wm_1_16) rfl rfl rfl (by decide +kernel) ⟨Nat.le_of_ble_eq_true rfl, Nat.le_of_ble_eq_true rfl⟩ hh0.2.2.1.1.1 hh0.2.2.1.1.2 rfl (T := TX3) (C := RX3) rfl rfl rfl (Nat.le_of_ble_eq_true rfl) ⟨Nat.le_of_ble_eq_true rfl, Nat.le_of_ble_eq_true rfl⟩ dX5_act_35 (fun zz7 σ6 => ?_)
  exact xr_tiret (pc := 38) X (Nat.le_of_ble_eq_true rfl) (Nat.le_of_ble_eq_true rfl) dX5_act_38
def F_X5_post (oo0 : Nat) (pp1 : Int32) (σ : xS) : Option xR :=
  xbT (F_X5_act oo0 0 pp1 0 0 σ) (fun (zz2 : Int32) (σ1 : xS) => some (0, zz2, σ1))
abbrev rm_X5_post : Room := { frames := 8, cells := 1, slots := 6, locals := 149 }
set_option maxHeartbeats 4000000 in
set_option maxRecDepth 100000 in
theorem c_X5_post (l : Launch) {D : va_G} {ad : Nat → Nat} {N : Nat} {Sh : xSh} (hI : ∀ i j, i < N → j < N → ad i = ad j → i = j) (hst : l.stackTraces = false) (oo0 : Nat) (hh0 : xIs5 D ad N Sh oo0) (pp1 : Int32) (σ : xS) : xKT l yX5_post (Cond.code yX5_post cX5_post 2 (some .int) :: wG) rm_X5_post 1 6 D ad N Sh (xQcI D ad N Sh) [.ref (ad oo0), .int pp1] σ (F_X5_post oo0 pp1 σ) := by
  refine x_startT (own := RX5) (maxL := 2) (by decide) rfl rfl (Nat.le_of_ble_eq_true rfl) rfl hI (fun Γ hl hnL hX X => ?_)
  subst hl
  unfold F_X5_post
  refine xr_aload_n (pc := 0) X (i := 0) 0 rfl rfl dX5_post_0 ?_
  refine xr_iconst (pc := 1) X dX5_post_1 (v := 0) (by decide) ?_
  refine xr_iload_n (pc := 2) X (i := 1) 1 rfl rfl dX5_post_2 ?_
  refine xr_iconst (pc := 3) X dX5_post_3 (v := 0) (by decide) ?_
  refine xr_iconst (pc := 4) X dX5_post_4 (v := 0) (by decide) ?_
  refine xr_callTVI (na := 4) (pc := 5) X hX (oo0) [.int 0, .int pp1, .int 0, .int 0] _ (c_X5_act Γ.2.1 hI hst oo0 hh0 0 pp1 0 0 σ) (wG_V wm_16_8 wm_16_5 wm_16_6 wm_16_7 wm_1_2) rfl rfl rfl (by decide +kernel) ⟨Nat.le_of_ble_eq_true rfl, Nat.le_of_ble_eq_true rfl⟩ hh0.1.1 hh0.1.2 rfl (T := TX5) (C := RX5) rfl rfl rfl (Nat.le_of_ble_eq_true rfl) ⟨Nat.le_of_ble_eq_true rfl, Nat.le_of_ble_eq_true rfl⟩ ⟨Nat.le_of_ble_eq_true rfl, Nat.le_of_ble_eq_true rfl⟩ dX5_post_5 (fun zz2 σ1 => ?_)
  exact xr_tiret (pc := 8) X (Nat.le_of_ble_eq_true rfl) (Nat.le_of_ble_eq_true rfl) dX5_post_8
def F_X5_write (oo0 : Nat) (pp1 : Int32) (pp2 : Int32) (σ : xS) : Option xR :=
  xbT (F_X5_act oo0 1 pp1 pp2 0 σ) (fun (zz2 : Int32) (σ1 : xS) => some (0, zz2, σ1))
abbrev rm_X5_write : Room := { frames := 8, cells := 1, slots := 6, locals := 149 }
set_option maxHeartbeats 4000000 in
set_option maxRecDepth 100000 in
theorem c_X5_write (l : Launch) {D : va_G} {ad : Nat → Nat} {N : Nat} {Sh : xSh} (hI : ∀ i j, i < N → j < N → ad i = ad j → i = j) (hst : l.stackTraces = false) (oo0 : Nat) (hh0 : xIs5 D ad N Sh oo0) (pp1 : Int32) (pp2 : Int32) (σ : xS) : xKT l yX5_write (Cond.code yX5_write cX5_write 3 (some .int) :: wG) rm_X5_write 1 6 D ad N Sh (xQcI D ad N Sh) [.ref (ad oo0), .int pp1, .int pp2] σ (F_X5_write oo0 pp1 pp2 σ) := by
  refine x_startT (own := RX5) (maxL := 3) (by decide) rfl rfl (Nat.le_of_ble_eq_true rfl) rfl hI (fun Γ hl hnL hX X => ?_)
  subst hl
  unfold F_X5_write
  refine xr_aload_n (pc := 0) X (i := 0) 0 rfl rfl dX5_write_0 ?_
  refine xr_iconst (pc := 1) X dX5_write_1 (v := 1) (by decide) ?_
  refine xr_iload_n (pc := 2) X (i := 1) 1 rfl rfl dX5_write_2 ?_
  refine xr_iload_n (pc := 3) X (i := 2) 2 rfl rfl dX5_write_3 ?_
  refine xr_iconst (pc := 4) X dX5_write_4 (v := 0) (by decide) ?_
  refine xr_callTVI (na := 4) (pc := 5) X hX (oo0) [.int 1, .int pp1, .int pp2, .int 0] _ (c_X5_act Γ.2.1 hI hst oo0 hh0 1 pp1 pp2 0 σ) (wG_V wm_16_8 wm_16_5 wm_16_6 wm_16_7 wm_1_2) rfl rfl rfl (by decide +kernel) ⟨Nat.le_of_ble_eq_true rfl, Nat.le_of_ble_eq_true rfl⟩ hh0.1.1 hh0.1.2 rfl (T := TX5) (C := RX5) rfl rfl rfl (Nat.le_of_ble_eq_true rfl) ⟨Nat.le_of_ble_eq_true rfl, Nat.le_of_ble_eq_true rfl⟩ ⟨Nat.le_of_ble_eq_true rfl, Nat.le_of_ble_eq_true rfl⟩ dX5_write_5 (fun zz2 σ1 => ?_)
  exact xr_tiret (pc := 8) X (Nat.le_of_ble_eq_true rfl) (Nat.le_of_ble_eq_true rfl) dX5_write_8
def F_X5_plan (oo0 : Nat) (pp1 : Int32) (pp2 : Int32) (pp3 : Int32) (σ : xS) : Option xR :=
  xbT (F_X5_act oo0 2 pp1 pp2 pp3 σ) (fun (zz2 : Int32) (σ1 : xS) => some (0, zz2, σ1))
abbrev rm_X5_plan : Room := { frames := 8, cells := 1, slots := 6, locals := 149 }
set_option maxHeartbeats 4000000 in
set_option maxRecDepth 100000 in
theorem c_X5_plan (l : Launch) {D : va_G} {ad : Nat → Nat} {N : Nat} {Sh : xSh} (hI : ∀ i j, i < N → j < N → ad i = ad j → i = j) (hst : l.stackTraces = false) (oo0 : Nat) (hh0 : xIs5 D ad N Sh oo0) (pp1 : Int32) (pp2 : Int32) (pp3 : Int32) (σ : xS) : xKT l yX5_plan (Cond.code yX5_plan cX5_plan 4 (some .int) :: wG) rm_X5_plan 1 6 D ad N Sh (xQcI D ad N Sh) [.ref (ad oo0), .int pp1, .int pp2, .int pp3] σ (F_X5_plan oo0 pp1 pp2 pp3 σ) := by
  refine x_startT (own := RX5) (maxL := 4) (by decide) rfl rfl (Nat.le_of_ble_eq_true rfl) rfl hI (fun Γ hl hnL hX X => ?_)
  subst hl
  unfold F_X5_plan
  refine xr_aload_n (pc := 0) X (i := 0) 0 rfl rfl dX5_plan_0 ?_
  refine xr_iconst (pc := 1) X dX5_plan_1 (v := 2) (by decide) ?_
  refine xr_iload_n (pc := 2) X (i := 1) 1 rfl rfl dX5_plan_2 ?_
  refine xr_iload_n (pc := 3) X (i := 2) 2 rfl rfl dX5_plan_3 ?_
  refine xr_iload_n (pc := 4) X (i := 3) 3 rfl rfl dX5_plan_4 ?_
  refine xr_callTVI (na := 4) (pc := 5) X hX (oo0) [.int 2, .int pp1, .int pp2, .int pp3] _ (c_X5_act Γ.2.1 hI hst oo0 hh0 2 pp1 pp2 pp3 σ) (wG_V wm_16_8 wm_16_5 wm_16_6 wm_16_7 wm_1_2) rfl rfl rfl (by decide +kernel) ⟨Nat.le_of_ble_eq_true rfl, Nat.le_of_ble_eq_true rfl⟩ hh0.1.1 hh0.1.2 rfl (T := TX5) (C := RX5) rfl rfl rfl (Nat.le_of_ble_eq_true rfl) ⟨Nat.le_of_ble_eq_true rfl, Nat.le_of_ble_eq_true rfl⟩ ⟨Nat.le_of_ble_eq_true rfl, Nat.le_of_ble_eq_true rfl⟩ dX5_plan_5 (fun zz2 σ1 => ?_)
  exact xr_tiret (pc := 8) X (Nat.le_of_ble_eq_true rfl) (Nat.le_of_ble_eq_true rfl) dX5_plan_8
def F_X5_hold (oo0 : Nat) (pp1 : Int32) (pp2 : Int32) (σ : xS) : Option xR :=
  if pp2 = 0 then (xbT (F_X5_act oo0 3 pp1 0 0 σ) (fun (zz2 : Int32) (σ1 : xS) => some (0, zz2, σ1)))
 else (xbT (F_X5_act oo0 3 pp1 1 0 σ) (fun (zz4 : Int32) (σ3 : xS) => some (0, zz4, σ3)))
abbrev rm_X5_hold : Room := { frames := 8, cells := 1, slots := 6, locals := 149 }
set_option maxHeartbeats 4000000 in
set_option maxRecDepth 100000 in
theorem c_X5_hold (l : Launch) {D : va_G} {ad : Nat → Nat} {N : Nat} {Sh : xSh} (hI : ∀ i j, i < N → j < N → ad i = ad j → i = j) (hst : l.stackTraces = false) (oo0 : Nat) (hh0 : xIs5 D ad N Sh oo0) (pp1 : Int32) (pp2 : Int32) (σ : xS) : xKT l yX5_hold (Cond.code yX5_hold cX5_hold 3 (some .int) :: wG) rm_X5_hold 1 6 D ad N Sh (xQcI D ad N Sh) [.ref (ad oo0), .int pp1, .int pp2] σ (F_X5_hold oo0 pp1 pp2 σ) := by
  refine x_startT (own := RX5) (maxL := 3) (by decide) rfl rfl (Nat.le_of_ble_eq_true rfl) rfl hI (fun Γ hl hnL hX X => ?_)
  subst hl
  unfold F_X5_hold
  refine xr_aload_n (pc := 0) X (i := 0) 0 rfl rfl dX5_hold_0 ?_
  refine xr_iconst (pc := 1) X dX5_hold_1 (v := 3) (by decide) ?_
  refine xr_iload_n (pc := 2) X (i := 1) 1 rfl rfl dX5_hold_2 ?_
  refine xr_iload_n (pc := 3) X (i := 2) 2 rfl rfl dX5_hold_3 ?_
  refine xr_if_eq (pc := 4) X 11 (by decide) dX5_hold_4 (fun _ => ?_) (fun _ => ?_)
  · refine xr_iconst (pc := 11) X dX5_hold_11 (v := 0) (by decide) ?_
    refine xr_iconst (pc := 12) X dX5_hold_12 (v := 0) (by decide) ?_
    refine xr_callTVI (na := 4) (pc := 13) X hX (oo0) [.int 3, .int pp1, .int 0, .int 0] _ (c_X5_act Γ.2.1 hI hst oo0 hh0 3 pp1 0 0 σ) (wG_V wm_16_8 wm_16_5 wm_16_6 wm_16_7 wm_1_2) rfl rfl rfl (by decide +kernel) ⟨Nat.le_of_ble_eq_true rfl, Nat.le_of_ble_eq_true rfl⟩ hh0.1.1 hh0.1.2 rfl (T := TX5) (C := RX5) rfl rfl rfl (Nat.le_of_ble_eq_true rfl) ⟨Nat.le_of_ble_eq_true rfl, Nat.le_of_ble_eq_true rfl⟩ ⟨Nat.le_of_ble_eq_true rfl, Nat.le_of_ble_eq_true rfl⟩ dX5_hold_13 (fun zz2 σ1 => ?_)
    exact xr_tiret (pc := 16) X (Nat.le_of_ble_eq_true rfl) (Nat.le_of_ble_eq_true rfl) dX5_hold_16
  refine xr_iconst (pc := 7) X dX5_hold_7 (v := 1) (by decide) ?_
  refine xr_goto (pc := 8) X 12 (by decide) dX5_hold_8 ?_
  refine xr_iconst (pc := 12) X dX5_hold_12 (v := 0) (by decide) ?_
  refine xr_callTVI (na := 4) (pc := 13) X hX (oo0) [.int 3, .int pp1, .int 1, .int 0] _ (c_X5_act Γ.2.1 hI hst oo0 hh0 3 pp1 1 0 σ) (wG_V wm_16_8 wm_16_5 wm_16_6 wm_16_7 wm_1_2) rfl rfl rfl (by decide +kernel) ⟨Nat.le_of_ble_eq_true rfl, Nat.le_of_ble_eq_true rfl⟩ hh0.1.1 hh0.1.2 rfl (T := TX5) (C := RX5) rfl rfl rfl (Nat.le_of_ble_eq_true rfl) ⟨Nat.le_of_ble_eq_true rfl, Nat.le_of_ble_eq_true rfl⟩ ⟨Nat.le_of_ble_eq_true rfl, Nat.le_of_ble_eq_true rfl⟩ dX5_hold_13 (fun zz4 σ3 => ?_)
  exact xr_tiret (pc := 16) X (Nat.le_of_ble_eq_true rfl) (Nat.le_of_ble_eq_true rfl) dX5_hold_16
def F_X5_flush (oo0 : Nat) (pp1 : Int32) (σ : xS) : Option xR :=
  xbT (F_X5_act oo0 4 pp1 0 0 σ) (fun (zz2 : Int32) (σ1 : xS) => some (0, zz2, σ1))
abbrev rm_X5_flush : Room := { frames := 8, cells := 1, slots := 6, locals := 149 }
set_option maxHeartbeats 4000000 in
set_option maxRecDepth 100000 in
theorem c_X5_flush (l : Launch) {D : va_G} {ad : Nat → Nat} {N : Nat} {Sh : xSh} (hI : ∀ i j, i < N → j < N → ad i = ad j → i = j) (hst : l.stackTraces = false) (oo0 : Nat) (hh0 : xIs5 D ad N Sh oo0) (pp1 : Int32) (σ : xS) : xKT l yX5_flush (Cond.code yX5_flush cX5_flush 2 (some .int) :: wG) rm_X5_flush 1 6 D ad N Sh (xQcI D ad N Sh) [.ref (ad oo0), .int pp1] σ (F_X5_flush oo0 pp1 σ) := by
  refine x_startT (own := RX5) (maxL := 2) (by decide) rfl rfl (Nat.le_of_ble_eq_true rfl) rfl hI (fun Γ hl hnL hX X => ?_)
  subst hl
  unfold F_X5_flush
  refine xr_aload_n (pc := 0) X (i := 0) 0 rfl rfl dX5_flush_0 ?_
  refine xr_iconst (pc := 1) X dX5_flush_1 (v := 4) (by decide) ?_
  refine xr_iload_n (pc := 2) X (i := 1) 1 rfl rfl dX5_flush_2 ?_
  refine xr_iconst (pc := 3) X dX5_flush_3 (v := 0) (by decide) ?_
  refine xr_iconst (pc := 4) X dX5_flush_4 (v := 0) (by decide) ?_
  refine xr_callTVI (na := 4) (pc := 5) X hX (oo0) [.int 4, .int pp1, .int 0, .int 0] _ (c_X5_act Γ.2.1 hI hst oo0 hh0 4 pp1 0 0 σ) (wG_V wm_16_8 wm_16_5 wm_16_6 wm_16_7 wm_1_2) rfl rfl rfl (by decide +kernel) ⟨Nat.le_of_ble_eq_true rfl, Nat.le_of_ble_eq_true rfl⟩ hh0.1.1 hh0.1.2 rfl (T := TX5) (C := RX5) rfl rfl rfl (Nat.le_of_ble_eq_true rfl) ⟨Nat.le_of_ble_eq_true rfl, Nat.le_of_ble_eq_true rfl⟩ ⟨Nat.le_of_ble_eq_true rfl, Nat.le_of_ble_eq_true rfl⟩ dX5_flush_5 (fun zz2 σ1 => ?_)
  exact xr_tiret (pc := 8) X (Nat.le_of_ble_eq_true rfl) (Nat.le_of_ble_eq_true rfl) dX5_flush_8
def F_X5_ticks (oo0 : Nat) (pp1 : Int32) (σ : xS) : Option xR :=
  xbI (F_X3_faultOf (oo0 + 3) 5 pp1 0 0 σ) (fun (zz2 : Int32) (σ1 : xS) => xbT (F_X5_refuse zz2 σ1) (fun (zz4 : Int32) (σ3 : xS) => xjn (fun (zz5 : Int32) (σ6 : xS) => xbT (F_X5_demand zz5 3 σ6) (fun (zz10 : Int32) (σ9 : xS) => xbT (F_X5_act oo0 5 pp1 0 0 σ9) (fun (zz12 : Int32) (σ11 : xS) => some (0, zz12, σ11))))
 (fun (KK7 : Int32 → xS → Option xR) => if 99999 < ((σ3 (oo0 + 3) 1) + pp1) then (KK7 0 σ3)
 else (KK7 1 σ3))))
abbrev rm_X5_ticks : Room := { frames := 8, cells := 3, slots := 18, locals := 149 }
set_option maxHeartbeats 4000000 in
set_option maxRecDepth 100000 in
theorem c_X5_ticks (l : Launch) {D : va_G} {ad : Nat → Nat} {N : Nat} {Sh : xSh} (hI : ∀ i j, i < N → j < N → ad i = ad j → i = j) (hst : l.stackTraces = false) (oo0 : Nat) (hh0 : xIs5 D ad N Sh oo0) (pp1 : Int32) (σ : xS) : xKT l yX5_ticks (Cond.code yX5_ticks cX5_ticks 2 (some .int) :: wG) rm_X5_ticks 3 18 D ad N Sh (xQcI D ad N Sh) [.ref (ad oo0), .int pp1] σ (F_X5_ticks oo0 pp1 σ) := by
  refine x_startT (own := RX5) (maxL := 2) (by decide) rfl rfl (Nat.le_of_ble_eq_true rfl) rfl hI (fun Γ hl hnL hX X => ?_)
  subst hl
  unfold F_X5_ticks
  refine xr_aload_n (pc := 0) X (i := 0) 0 rfl rfl dX5_ticks_0 ?_
  refine xgX5 (pc := 1) X (oo0) hh0.1 1 wm_1_17 rfl rfl (by decide) rfl dX5_ticks_1 ?_
  refine xr_iconst (pc := 4) X dX5_ticks_4 (v := 5) (by decide) ?_
  refine xr_iload_n (pc := 5) X (i := 1) 1 rfl rfl dX5_ticks_5 ?_
  refine xr_iconst (pc := 6) X dX5_ticks_6 (v := 0) (by decide) ?_
  refine xr_iconst (pc := 7) X dX5_ticks_7 (v := 0) (by decide) ?_
  refine xr_callVI (na := 4) (pc := 8) X (oo0 + 3) [.int 5, .int pp1, .int 0, .int 0] _ (c_X3_faultOf Γ.2.1 hI (oo0 + 3) hh0.2.2.1 5 pp1 0 0 σ) (wG_V wm_9_12 wm_16_9 wm_9_10 wm_9_11 wm_1_16) rfl rfl rfl (by decide +kernel) ⟨Nat.le_of_ble_eq_true rfl, Nat.le_of_ble_eq_true rfl⟩ hh0.2.2.1.1.1 hh0.2.2.1.1.2 rfl (T := TX3) (C := RX3) rfl rfl rfl (Nat.le_of_ble_eq_true rfl) ⟨Nat.le_of_ble_eq_true rfl, Nat.le_of_ble_eq_true rfl⟩ dX5_ticks_8 (fun zz2 σ1 => ?_)
  refine xr_callTSV (na := 1) (pc := 11) X hX [.int zz2] (c_X5_refuse Γ.2.1 hI hst zz2 σ1) (wG_S wm_6_19 wm_6_17 wm_6_18 wm_1_2) rfl rfl rfl (by decide +kernel) ⟨Nat.le_of_ble_eq_true rfl, Nat.le_of_ble_eq_true rfl⟩ rfl rfl (Nat.le_of_ble_eq_true rfl) ⟨Nat.le_of_ble_eq_true rfl, Nat.le_of_ble_eq_true rfl⟩ ⟨Nat.le_of_ble_eq_true rfl, Nat.le_of_ble_eq_true rfl⟩ dX5_ticks_11 (fun zz4 σ3 => ?_)
  refine xr_aload_n (pc := 14) X (i := 0) 0 rfl rfl dX5_ticks_14 ?_
  refine xgX5 (pc := 15) X (oo0) hh0.1 1 wm_1_17 rfl rfl (by decide) rfl dX5_ticks_15 ?_
  refine xgNX3 (pc := 18) X (oo0 + 3) hh0.2.2.1.1 1 0 rfl rfl rfl (by decide) rfl dX5_ticks_18 ?_
  refine xr_iload_n (pc := 21) X (i := 1) 1 rfl rfl dX5_ticks_21 ?_
  refine xr_iadd (pc := 22) X dX5_ticks_22 ?_
  refine xr_ldc (pc := 23) X dX5_ticks_23 (List.mem_cons_of_mem _ wm_18_11) ?_
  refine x_jn (fun (KK7 : Int32 → xS → Option xR) => ∀ zz5 σ6, xM Γ D ad N Sh (xQT Γ D ad N Sh (xQcI D ad N Sh) 3 18) 1 6 (KK7 zz5 σ6) σ6 33 [(0, .ref (ad oo0)), (1, .int pp1)] [.int zz5]) (fun zz5 σ6 => ?_) (fun KK7 hKK8 => ?_)
  · refine xr_iconst (pc := 33) X dX5_ticks_33 (v := 3) (by decide) ?_
    refine xr_callTSV (na := 2) (pc := 34) X hX [.int zz5, .int 3] (c_X5_demand Γ.2.1 hI hst zz5 3 σ6) (wG_S wm_6_16 wm_6_14 wm_6_15 wm_1_2) rfl rfl rfl (by decide +kernel) ⟨Nat.le_of_ble_eq_true rfl, Nat.le_of_ble_eq_true rfl⟩ rfl rfl (Nat.le_of_ble_eq_true rfl) ⟨Nat.le_of_ble_eq_true rfl, Nat.le_of_ble_eq_true rfl⟩ ⟨Nat.le_of_ble_eq_true rfl, Nat.le_of_ble_eq_true rfl⟩ dX5_ticks_34 (fun zz10 σ9 => ?_)
    refine xr_aload_n (pc := 37) X (i := 0) 0 rfl rfl dX5_ticks_37 ?_
    refine xr_iconst (pc := 38) X dX5_ticks_38 (v := 5) (by decide) ?_
    refine xr_iload_n (pc := 39) X (i := 1) 1 rfl rfl dX5_ticks_39 ?_
    refine xr_iconst (pc := 40) X dX5_ticks_40 (v := 0) (by decide) ?_
    refine xr_iconst (pc := 41) X dX5_ticks_41 (v := 0) (by decide) ?_
    refine xr_callTVI (na := 4) (pc := 42) X hX (oo0) [.int 5, .int pp1, .int 0, .int 0] _ (c_X5_act Γ.2.1 hI hst oo0 hh0 5 pp1 0 0 σ9) (wG_V wm_16_8 wm_16_5 wm_16_6 wm_16_7 wm_1_2) rfl rfl rfl (by decide +kernel) ⟨Nat.le_of_ble_eq_true rfl, Nat.le_of_ble_eq_true rfl⟩ hh0.1.1 hh0.1.2 rfl (T := TX5) (C := RX5) rfl rfl rfl (Nat.le_of_ble_eq_true rfl) ⟨Nat.le_of_ble_eq_true rfl, Nat.le_of_ble_eq_true rfl⟩ ⟨Nat.le_of_ble_eq_true rfl, Nat.le_of_ble_eq_true rfl⟩ dX5_ticks_42 (fun zz12 σ11 => ?_)
    exact xr_tiret (pc := 45) X (Nat.le_of_ble_eq_true rfl) (Nat.le_of_ble_eq_true rfl) dX5_ticks_45
  refine xr_icmp_gt (pc := 25) X 32 (by decide) dX5_ticks_25 (fun _ => ?_) (fun _ => ?_)
  · refine xr_iconst (pc := 32) X dX5_ticks_32 (v := 0) (by decide) ?_
    exact hKK8 _ _
  refine xr_iconst (pc := 28) X dX5_ticks_28 (v := 1) (by decide) ?_
  refine xr_goto (pc := 29) X 33 (by decide) dX5_ticks_29 ?_
  exact hKK8 _ _
def F_X5_set (oo0 : Nat) (pp1 : Int32) (pp2 : Int32) (σ : xS) : Option xR :=
  xbT (F_X5_act oo0 6 pp1 pp2 0 σ) (fun (zz2 : Int32) (σ1 : xS) => some (0, zz2, σ1))
abbrev rm_X5_set : Room := { frames := 8, cells := 1, slots := 6, locals := 149 }
set_option maxHeartbeats 4000000 in
set_option maxRecDepth 100000 in
theorem c_X5_set (l : Launch) {D : va_G} {ad : Nat → Nat} {N : Nat} {Sh : xSh} (hI : ∀ i j, i < N → j < N → ad i = ad j → i = j) (hst : l.stackTraces = false) (oo0 : Nat) (hh0 : xIs5 D ad N Sh oo0) (pp1 : Int32) (pp2 : Int32) (σ : xS) : xKT l yX5_set (Cond.code yX5_set cX5_set 3 (some .int) :: wG) rm_X5_set 1 6 D ad N Sh (xQcI D ad N Sh) [.ref (ad oo0), .int pp1, .int pp2] σ (F_X5_set oo0 pp1 pp2 σ) := by
  refine x_startT (own := RX5) (maxL := 3) (by decide) rfl rfl (Nat.le_of_ble_eq_true rfl) rfl hI (fun Γ hl hnL hX X => ?_)
  subst hl
  unfold F_X5_set
  refine xr_aload_n (pc := 0) X (i := 0) 0 rfl rfl dX5_set_0 ?_
  refine xr_bipush (pc := 1) X dX5_set_1 (v := 6) (by decide) ?_
  refine xr_iload_n (pc := 3) X (i := 1) 1 rfl rfl dX5_set_3 ?_
  refine xr_iload_n (pc := 4) X (i := 2) 2 rfl rfl dX5_set_4 ?_
  refine xr_iconst (pc := 5) X dX5_set_5 (v := 0) (by decide) ?_
  refine xr_callTVI (na := 4) (pc := 6) X hX (oo0) [.int 6, .int pp1, .int pp2, .int 0] _ (c_X5_act Γ.2.1 hI hst oo0 hh0 6 pp1 pp2 0 σ) (wG_V wm_16_8 wm_16_5 wm_16_6 wm_16_7 wm_1_2) rfl rfl rfl (by decide +kernel) ⟨Nat.le_of_ble_eq_true rfl, Nat.le_of_ble_eq_true rfl⟩ hh0.1.1 hh0.1.2 rfl (T := TX5) (C := RX5) rfl rfl rfl (Nat.le_of_ble_eq_true rfl) ⟨Nat.le_of_ble_eq_true rfl, Nat.le_of_ble_eq_true rfl⟩ ⟨Nat.le_of_ble_eq_true rfl, Nat.le_of_ble_eq_true rfl⟩ dX5_set_6 (fun zz2 σ1 => ?_)
  exact xr_tiret (pc := 9) X (Nat.le_of_ble_eq_true rfl) (Nat.le_of_ble_eq_true rfl) dX5_set_9
def F_X5_undo (oo0 : Nat) (σ : xS) : Option xR :=
  xjn (fun (zz1 : Int32) (σ2 : xS) => xbT (F_X5_demand zz1 3 σ2) (fun (zz6 : Int32) (σ5 : xS) => xbV (F_X1_takeBack (oo0 + 46) (oo0 + 3) σ5) (fun (σ7 : xS) => some (0, (σ7 (oo0 + 46) 2), σ7))))
 (fun (KK3 : Int32 → xS → Option xR) => if (σ (oo0 + 46) 2) ≤ 0 then (KK3 0 σ)
 else (KK3 1 σ))
abbrev rm_X5_undo : Room := { frames := 8, cells := 1, slots := 6, locals := 122 }
set_option maxHeartbeats 4000000 in
set_option maxRecDepth 100000 in
theorem c_X5_undo (l : Launch) {D : va_G} {ad : Nat → Nat} {N : Nat} {Sh : xSh} (hI : ∀ i j, i < N → j < N → ad i = ad j → i = j) (hst : l.stackTraces = false) (oo0 : Nat) (hh0 : xIs5 D ad N Sh oo0) (σ : xS) : xKT l yX5_undo (Cond.code yX5_undo cX5_undo 1 (some .int) :: wG) rm_X5_undo 1 6 D ad N Sh (xQcI D ad N Sh) [.ref (ad oo0)] σ (F_X5_undo oo0 σ) := by
  refine x_startT (own := RX5) (maxL := 1) (by decide) rfl rfl (Nat.le_of_ble_eq_true rfl) rfl hI (fun Γ hl hnL hX X => ?_)
  subst hl
  unfold F_X5_undo
  refine xr_aload_n (pc := 0) X (i := 0) 0 rfl rfl dX5_undo_0 ?_
  refine xgX5 (pc := 1) X (oo0) hh0.1 2 wm_1_21 rfl rfl (by decide) rfl dX5_undo_1 ?_
  refine xgNX1 (pc := 4) X (oo0 + 46) hh0.2.2.2.1.1 2 6 rfl rfl rfl (by decide) rfl dX5_undo_4 ?_
  refine x_jn (fun (KK3 : Int32 → xS → Option xR) => ∀ zz1 σ2, xM Γ D ad N Sh (xQT Γ D ad N Sh (xQcI D ad N Sh) 1 6) 0 0 (KK3 zz1 σ2) σ2 15 [(0, .ref (ad oo0))] [.int zz1]) (fun zz1 σ2 => ?_) (fun KK3 hKK4 => ?_)
  · refine xr_iconst (pc := 15) X dX5_undo_15 (v := 3) (by decide) ?_
    refine xr_callTSV (na := 2) (pc := 16) X hX [.int zz1, .int 3] (c_X5_demand Γ.2.1 hI hst zz1 3 σ2) (wG_S wm_6_16 wm_6_14 wm_6_15 wm_1_2) rfl rfl rfl (by decide +kernel) ⟨Nat.le_of_ble_eq_true rfl, Nat.le_of_ble_eq_true rfl⟩ rfl rfl (Nat.le_of_ble_eq_true rfl) ⟨Nat.le_of_ble_eq_true rfl, Nat.le_of_ble_eq_true rfl⟩ ⟨Nat.le_of_ble_eq_true rfl, Nat.le_of_ble_eq_true rfl⟩ dX5_undo_16 (fun zz6 σ5 => ?_)
    refine xr_aload_n (pc := 19) X (i := 0) 0 rfl rfl dX5_undo_19 ?_
    refine xgX5 (pc := 20) X (oo0) hh0.1 2 wm_1_21 rfl rfl (by decide) rfl dX5_undo_20 ?_
    refine xr_aload_n (pc := 23) X (i := 0) 0 rfl rfl dX5_undo_23 ?_
    refine xgX5 (pc := 24) X (oo0) hh0.1 1 wm_1_17 rfl rfl (by decide) rfl dX5_undo_24 ?_
    refine xr_callVV (na := 1) (pc := 27) X (oo0 + 46) [.ref (ad (oo0 + 3))] _ (c_X1_takeBack Γ.2.1 hI (oo0 + 46) hh0.2.2.2.1 (oo0 + 3) hh0.2.2.1 σ5) (wG_V wm_19_5 wm_19_2 wm_19_3 wm_19_4 wm_1_20) rfl rfl rfl (by decide +kernel) ⟨Nat.le_of_ble_eq_true rfl, Nat.le_of_ble_eq_true rfl⟩ hh0.2.2.2.1.1.1 hh0.2.2.2.1.1.2 rfl (T := TX1) (C := RX1) rfl rfl rfl (Nat.le_of_ble_eq_true rfl) ⟨Nat.le_of_ble_eq_true rfl, Nat.le_of_ble_eq_true rfl⟩ dX5_undo_27 (fun σ7 => ?_)
    refine xr_aload_n (pc := 30) X (i := 0) 0 rfl rfl dX5_undo_30 ?_
    refine xgX5 (pc := 31) X (oo0) hh0.1 2 wm_1_21 rfl rfl (by decide) rfl dX5_undo_31 ?_
    refine xgNX1 (pc := 34) X (oo0 + 46) hh0.2.2.2.1.1 2 6 rfl rfl rfl (by decide) rfl dX5_undo_34 ?_
    exact xr_tiret (pc := 37) X (Nat.le_of_ble_eq_true rfl) (Nat.le_of_ble_eq_true rfl) dX5_undo_37
  refine xr_if_le (pc := 7) X 14 (by decide) dX5_undo_7 (fun _ => ?_) (fun _ => ?_)
  · refine xr_iconst (pc := 14) X dX5_undo_14 (v := 0) (by decide) ?_
    exact hKK4 _ _
  refine xr_iconst (pc := 10) X dX5_undo_10 (v := 1) (by decide) ?_
  refine xr_goto (pc := 11) X 15 (by decide) dX5_undo_11 ?_
  exact hKK4 _ _
def F_X5_doneIn (oo0 : Nat) (pp1 : Int32) (σ : xS) : Option xR :=
  xbI (F_X3_faultOfWriter (oo0 + 3) pp1 σ) (fun (zz2 : Int32) (σ1 : xS) => xbT (F_X5_refuse zz2 σ1) (fun (zz4 : Int32) (σ3 : xS) => xbV (F_X3_copyFrom (oo0 + 695) (oo0 + 3) σ3) (fun (σ5 : xS) => xbI (F_X3_ticksUntilDone (oo0 + 695) pp1 400 σ5) (fun (zz7 : Int32) (σ6 : xS) => some (0, zz7, σ6)))))
abbrev rm_X5_doneIn : Room := { frames := 7, cells := 1, slots := 6, locals := 124 }
set_option maxHeartbeats 4000000 in
set_option maxRecDepth 100000 in
theorem c_X5_doneIn (l : Launch) {D : va_G} {ad : Nat → Nat} {N : Nat} {Sh : xSh} (hI : ∀ i j, i < N → j < N → ad i = ad j → i = j) (hst : l.stackTraces = false) (oo0 : Nat) (hh0 : xIs5 D ad N Sh oo0) (pp1 : Int32) (σ : xS) : xKT l yX5_doneIn (Cond.code yX5_doneIn cX5_doneIn 2 (some .int) :: wG) rm_X5_doneIn 1 6 D ad N Sh (xQcI D ad N Sh) [.ref (ad oo0), .int pp1] σ (F_X5_doneIn oo0 pp1 σ) := by
  refine x_startT (own := RX5) (maxL := 2) (by decide) rfl rfl (Nat.le_of_ble_eq_true rfl) rfl hI (fun Γ hl hnL hX X => ?_)
  subst hl
  unfold F_X5_doneIn
  refine xr_aload_n (pc := 0) X (i := 0) 0 rfl rfl dX5_doneIn_0 ?_
  refine xgX5 (pc := 1) X (oo0) hh0.1 1 wm_1_17 rfl rfl (by decide) rfl dX5_doneIn_1 ?_
  refine xr_iload_n (pc := 4) X (i := 1) 1 rfl rfl dX5_doneIn_4 ?_
  refine xr_callVI (na := 1) (pc := 5) X (oo0 + 3) [.int pp1] _ (c_X3_faultOfWriter Γ.2.1 hI (oo0 + 3) hh0.2.2.1 pp1 σ) (wG_V wm_9_20 wm_14_12 wm_9_18 wm_9_19 wm_1_16) rfl rfl rfl (by decide +kernel) ⟨Nat.le_of_ble_eq_true rfl, Nat.le_of_ble_eq_true rfl⟩ hh0.2.2.1.1.1 hh0.2.2.1.1.2 rfl (T := TX3) (C := RX3) rfl rfl rfl (Nat.le_of_ble_eq_true rfl) ⟨Nat.le_of_ble_eq_true rfl, Nat.le_of_ble_eq_true rfl⟩ dX5_doneIn_5 (fun zz2 σ1 => ?_)
  refine xr_callTSV (na := 1) (pc := 8) X hX [.int zz2] (c_X5_refuse Γ.2.1 hI hst zz2 σ1) (wG_S wm_6_19 wm_6_17 wm_6_18 wm_1_2) rfl rfl rfl (by decide +kernel) ⟨Nat.le_of_ble_eq_true rfl, Nat.le_of_ble_eq_true rfl⟩ rfl rfl (Nat.le_of_ble_eq_true rfl) ⟨Nat.le_of_ble_eq_true rfl, Nat.le_of_ble_eq_true rfl⟩ ⟨Nat.le_of_ble_eq_true rfl, Nat.le_of_ble_eq_true rfl⟩ dX5_doneIn_8 (fun zz4 σ3 => ?_)
  refine xr_aload_n (pc := 11) X (i := 0) 0 rfl rfl dX5_doneIn_11 ?_
  refine xgX5 (pc := 12) X (oo0) hh0.1 6 wm_2_2 rfl rfl (by decide) rfl dX5_doneIn_12 ?_
  refine xr_aload_n (pc := 15) X (i := 0) 0 rfl rfl dX5_doneIn_15 ?_
  refine xgX5 (pc := 16) X (oo0) hh0.1 1 wm_1_17 rfl rfl (by decide) rfl dX5_doneIn_16 ?_
  refine xr_callVV (na := 1) (pc := 19) X (oo0 + 695) [.ref (ad (oo0 + 3))] _ (c_X3_copyFrom Γ.2.1 hI (oo0 + 695) hh0.2.2.2.2.2.2.2.1 (oo0 + 3) hh0.2.2.1 σ3) (wG_V wm_16_20 wm_19_13 wm_16_18 wm_16_19 wm_1_16) rfl rfl rfl (by decide +kernel) ⟨Nat.le_of_ble_eq_true rfl, Nat.le_of_ble_eq_true rfl⟩ hh0.2.2.2.2.2.2.2.1.1.1 hh0.2.2.2.2.2.2.2.1.1.2 rfl (T := TX3) (C := RX3) rfl rfl rfl (Nat.le_of_ble_eq_true rfl) ⟨Nat.le_of_ble_eq_true rfl, Nat.le_of_ble_eq_true rfl⟩ dX5_doneIn_19 (fun σ5 => ?_)
  refine xr_aload_n (pc := 22) X (i := 0) 0 rfl rfl dX5_doneIn_22 ?_
  refine xgX5 (pc := 23) X (oo0) hh0.1 6 wm_2_2 rfl rfl (by decide) rfl dX5_doneIn_23 ?_
  refine xr_iload_n (pc := 26) X (i := 1) 1 rfl rfl dX5_doneIn_26 ?_
  refine xr_sipush (pc := 27) X dX5_doneIn_27 (v := 400) (by decide) ?_
  refine xr_callVI (na := 2) (pc := 30) X (oo0 + 695) [.int pp1, .int 400] _ (c_X3_ticksUntilDone Γ.2.1 hI (oo0 + 695) hh0.2.2.2.2.2.2.2.1 pp1 400 σ5) (wG_V wm_19_17 wm_19_14 wm_19_15 wm_19_16 wm_1_16) rfl rfl rfl (by decide +kernel) ⟨Nat.le_of_ble_eq_true rfl, Nat.le_of_ble_eq_true rfl⟩ hh0.2.2.2.2.2.2.2.1.1.1 hh0.2.2.2.2.2.2.2.1.1.2 rfl (T := TX3) (C := RX3) rfl rfl rfl (Nat.le_of_ble_eq_true rfl) ⟨Nat.le_of_ble_eq_true rfl, Nat.le_of_ble_eq_true rfl⟩ dX5_doneIn_30 (fun zz7 σ6 => ?_)
  exact xr_tiret (pc := 33) X (Nat.le_of_ble_eq_true rfl) (Nat.le_of_ble_eq_true rfl) dX5_doneIn_33
def F_X5_thereIn (oo0 : Nat) (pp1 : Int32) (pp2 : Int32) (σ : xS) : Option xR :=
  xbI (F_X3_faultOf (oo0 + 3) 1 pp1 pp2 0 σ) (fun (zz2 : Int32) (σ1 : xS) => if ¬ zz2 = 3 then (xbT (F_X5_refuse zz2 σ1) (fun (zz4 : Int32) (σ3 : xS) => xbV (F_X3_copyFrom (oo0 + 695) (oo0 + 3) σ3) (fun (σ5 : xS) => xbI (F_X3_attempt (oo0 + 695) 1 pp1 pp2 0 σ5) (fun (zz7 : Int32) (σ6 : xS) => if xin pp1 4 = true then (xbI (F_X3_ticksUntilThere (oo0 + 695) pp1 (σ6 ((oo0 + 695) + 7 + 9 * pp1.toNatClampNeg) 4) σ6) (fun (zz10 : Int32) (σ9 : xS) => some (0, zz10, σ9))) else none))))
 else (some (0, (-1 : Int32), σ1)))
abbrev rm_X5_thereIn : Room := { frames := 7, cells := 1, slots := 6, locals := 125 }
set_option maxHeartbeats 4000000 in
set_option maxRecDepth 100000 in
theorem c_X5_thereIn (l : Launch) {D : va_G} {ad : Nat → Nat} {N : Nat} {Sh : xSh} (hI : ∀ i j, i < N → j < N → ad i = ad j → i = j) (hst : l.stackTraces = false) (oo0 : Nat) (hh0 : xIs5 D ad N Sh oo0) (pp1 : Int32) (pp2 : Int32) (σ : xS) : xKT l yX5_thereIn (Cond.code yX5_thereIn cX5_thereIn 4 (some .int) :: wG) rm_X5_thereIn 1 6 D ad N Sh (xQcI D ad N Sh) [.ref (ad oo0), .int pp1, .int pp2] σ (F_X5_thereIn oo0 pp1 pp2 σ) := by
  refine x_startT (own := RX5) (maxL := 4) (by decide) rfl rfl (Nat.le_of_ble_eq_true rfl) rfl hI (fun Γ hl hnL hX X => ?_)
  subst hl
  unfold F_X5_thereIn
  refine xr_aload_n (pc := 0) X (i := 0) 0 rfl rfl dX5_thereIn_0 ?_
  refine xgX5 (pc := 1) X (oo0) hh0.1 1 wm_1_17 rfl rfl (by decide) rfl dX5_thereIn_1 ?_
  refine xr_iconst (pc := 4) X dX5_thereIn_4 (v := 1) (by decide) ?_
  refine xr_iload_n (pc := 5) X (i := 1) 1 rfl rfl dX5_thereIn_5 ?_
  refine xr_iload_n (pc := 6) X (i := 2) 2 rfl rfl dX5_thereIn_6 ?_
  refine xr_iconst (pc := 7) X dX5_thereIn_7 (v := 0) (by decide) ?_
  refine xr_callVI (na := 4) (pc := 8) X (oo0 + 3) [.int 1, .int pp1, .int pp2, .int 0] _ (c_X3_faultOf Γ.2.1 hI (oo0 + 3) hh0.2.2.1 1 pp1 pp2 0 σ) (wG_V wm_9_12 wm_16_9 wm_9_10 wm_9_11 wm_1_16) rfl rfl rfl (by decide +kernel) ⟨Nat.le_of_ble_eq_true rfl, Nat.le_of_ble_eq_true rfl⟩ hh0.2.2.1.1.1 hh0.2.2.1.1.2 rfl (T := TX3) (C := RX3) rfl rfl rfl (Nat.le_of_ble_eq_true rfl) ⟨Nat.le_of_ble_eq_true rfl, Nat.le_of_ble_eq_true rfl⟩ dX5_thereIn_8 (fun zz2 σ1 => ?_)
  refine xr_istore_n (pc := 11) X (hf := rfl) (i := 3) (lv2 := [(0, .ref (ad oo0)), (1, .int pp1), (2, .int pp2), (3, .int zz2)]) [1, 2, 3, 0] (Nat.le_of_ble_eq_true rfl) hnL rfl dX5_thereIn_11 ?_
  refine xr_iload_n (pc := 12) X (i := 3) 3 rfl rfl dX5_thereIn_12 ?_
  refine xr_iconst (pc := 13) X dX5_thereIn_13 (v := 3) (by decide) ?_
  refine xr_icmp_ne (pc := 14) X 19 (by decide) dX5_thereIn_14 (fun _ => ?_) (fun _ => ?_)
  · refine xr_iload_n (pc := 19) X (i := 3) 3 rfl rfl dX5_thereIn_19 ?_
    refine xr_callTSV (na := 1) (pc := 20) X hX [.int zz2] (c_X5_refuse Γ.2.1 hI hst zz2 σ1) (wG_S wm_6_19 wm_6_17 wm_6_18 wm_1_2) rfl rfl rfl (by decide +kernel) ⟨Nat.le_of_ble_eq_true rfl, Nat.le_of_ble_eq_true rfl⟩ rfl rfl (Nat.le_of_ble_eq_true rfl) ⟨Nat.le_of_ble_eq_true rfl, Nat.le_of_ble_eq_true rfl⟩ ⟨Nat.le_of_ble_eq_true rfl, Nat.le_of_ble_eq_true rfl⟩ dX5_thereIn_20 (fun zz4 σ3 => ?_)
    refine xr_aload_n (pc := 23) X (i := 0) 0 rfl rfl dX5_thereIn_23 ?_
    refine xgX5 (pc := 24) X (oo0) hh0.1 6 wm_2_2 rfl rfl (by decide) rfl dX5_thereIn_24 ?_
    refine xr_aload_n (pc := 27) X (i := 0) 0 rfl rfl dX5_thereIn_27 ?_
    refine xgX5 (pc := 28) X (oo0) hh0.1 1 wm_1_17 rfl rfl (by decide) rfl dX5_thereIn_28 ?_
    refine xr_callVV (na := 1) (pc := 31) X (oo0 + 695) [.ref (ad (oo0 + 3))] _ (c_X3_copyFrom Γ.2.1 hI (oo0 + 695) hh0.2.2.2.2.2.2.2.1 (oo0 + 3) hh0.2.2.1 σ3) (wG_V wm_16_20 wm_19_13 wm_16_18 wm_16_19 wm_1_16) rfl rfl rfl (by decide +kernel) ⟨Nat.le_of_ble_eq_true rfl, Nat.le_of_ble_eq_true rfl⟩ hh0.2.2.2.2.2.2.2.1.1.1 hh0.2.2.2.2.2.2.2.1.1.2 rfl (T := TX3) (C := RX3) rfl rfl rfl (Nat.le_of_ble_eq_true rfl) ⟨Nat.le_of_ble_eq_true rfl, Nat.le_of_ble_eq_true rfl⟩ dX5_thereIn_31 (fun σ5 => ?_)
    refine xr_aload_n (pc := 34) X (i := 0) 0 rfl rfl dX5_thereIn_34 ?_
    refine xgX5 (pc := 35) X (oo0) hh0.1 6 wm_2_2 rfl rfl (by decide) rfl dX5_thereIn_35 ?_
    refine xr_iconst (pc := 38) X dX5_thereIn_38 (v := 1) (by decide) ?_
    refine xr_iload_n (pc := 39) X (i := 1) 1 rfl rfl dX5_thereIn_39 ?_
    refine xr_iload_n (pc := 40) X (i := 2) 2 rfl rfl dX5_thereIn_40 ?_
    refine xr_iconst (pc := 41) X dX5_thereIn_41 (v := 0) (by decide) ?_
    refine xr_callVI (na := 4) (pc := 42) X (oo0 + 695) [.int 1, .int pp1, .int pp2, .int 0] _ (c_X3_attempt Γ.2.1 hI (oo0 + 695) hh0.2.2.2.2.2.2.2.1 1 pp1 pp2 0 σ5) (wG_V wm_9_8 wm_9_5 wm_9_6 wm_9_7 wm_1_16) rfl rfl rfl (by decide +kernel) ⟨Nat.le_of_ble_eq_true rfl, Nat.le_of_ble_eq_true rfl⟩ hh0.2.2.2.2.2.2.2.1.1.1 hh0.2.2.2.2.2.2.2.1.1.2 rfl (T := TX3) (C := RX3) rfl rfl rfl (Nat.le_of_ble_eq_true rfl) ⟨Nat.le_of_ble_eq_true rfl, Nat.le_of_ble_eq_true rfl⟩ dX5_thereIn_42 (fun zz7 σ6 => ?_)
    refine xr_pop (pc := 45) X rfl dX5_thereIn_45 ?_
    refine xr_aload_n (pc := 46) X (i := 0) 0 rfl rfl dX5_thereIn_46 ?_
    refine xgX5 (pc := 47) X (oo0) hh0.1 6 wm_2_2 rfl rfl (by decide) rfl dX5_thereIn_47 ?_
    refine xr_iload_n (pc := 50) X (i := 1) 1 rfl rfl dX5_thereIn_50 ?_
    refine xr_aload_n (pc := 51) X (i := 0) 0 rfl rfl dX5_thereIn_51 ?_
    refine xgX5 (pc := 52) X (oo0) hh0.1 6 wm_2_2 rfl rfl (by decide) rfl dX5_thereIn_52 ?_
    refine xgNX3 (pc := 55) X (oo0 + 695) hh0.2.2.2.2.2.2.2.1.1 4 3 rfl rfl rfl (by decide) rfl dX5_thereIn_55 ?_
    refine xr_iload_n (pc := 58) X (i := 1) 1 rfl rfl dX5_thereIn_58 ?_
    refine xr_aldPair (pc := 59) X ((oo0 + 695) + 6) 4 (fun j => (oo0 + 695) + 7 + 9 * j) hh0.2.2.2.2.2.2.2.1.2.2.2.1.1 hh0.2.2.2.2.2.2.2.1.2.2.2.1.2 (fun _ hj => if_pos hj) dX5_thereIn_59 (fun haa8 => ?_)
    refine xgNX2 (pc := 60) X ((oo0 + 695) + 7 + 9 * pp1.toNatClampNeg) ((hh0.2.2.2.2.2.2.2.1.2.2.2.2 _ (xin_lt haa8)).1) 4 7 rfl rfl rfl (by decide) rfl dX5_thereIn_60 ?_
    refine xr_callVI (na := 2) (pc := 63) X (oo0 + 695) [.int pp1, .int (σ6 ((oo0 + 695) + 7 + 9 * pp1.toNatClampNeg) 4)] _ (c_X3_ticksUntilThere Γ.2.1 hI (oo0 + 695) hh0.2.2.2.2.2.2.2.1 pp1 (σ6 ((oo0 + 695) + 7 + 9 * pp1.toNatClampNeg) 4) σ6) (wG_V wm_20_12 wm_20_9 wm_20_10 wm_20_11 wm_1_16) rfl rfl rfl (by decide +kernel) ⟨Nat.le_of_ble_eq_true rfl, Nat.le_of_ble_eq_true rfl⟩ hh0.2.2.2.2.2.2.2.1.1.1 hh0.2.2.2.2.2.2.2.1.1.2 rfl (T := TX3) (C := RX3) rfl rfl rfl (Nat.le_of_ble_eq_true rfl) ⟨Nat.le_of_ble_eq_true rfl, Nat.le_of_ble_eq_true rfl⟩ dX5_thereIn_63 (fun zz10 σ9 => ?_)
    exact xr_tiret (pc := 66) X (Nat.le_of_ble_eq_true rfl) (Nat.le_of_ble_eq_true rfl) dX5_thereIn_66
  refine xr_iconst (pc := 17) X dX5_thereIn_17 (v := (-1)) (by decide) ?_
  exact xr_tiret (pc := 18) X (Nat.le_of_ble_eq_true rfl) (Nat.le_of_ble_eq_true rfl) dX5_thereIn_18
def F_X5_ifHeld (oo0 : Nat) (pp1 : Int32) (pp2 : Int32) (σ : xS) : Option xR :=
  xbI (F_X3_faultOfWriter (oo0 + 3) pp1 σ) (fun (zz2 : Int32) (σ1 : xS) => xbT (F_X5_refuse zz2 σ1) (fun (zz4 : Int32) (σ3 : xS) => xbI (F_X5_isWithin pp2 0 3 σ3) (fun (zz6 : Int32) (σ5 : xS) => xbT (F_X5_demand zz6 2 σ5) (fun (zz8 : Int32) (σ7 : xS) => xbV (F_X3_copyFrom (oo0 + 695) (oo0 + 3) σ7) (fun (σ9 : xS) => if xin pp1 4 = true then (xlet (σ9 ((oo0 + 695) + 7 + 9 * pp1.toNatClampNeg) 5) (fun (zz11 : Int32) => xjn (fun (zz12 : Int32) (σ13 : xS) => xbI (F_X3_attempt (oo0 + 695) 3 pp1 zz12 0 σ13) (fun (zz20 : Int32) (σ19 : xS) => if 2 ≤ pp2 then (xbI (F_X3_passTicks (oo0 + 695) 400 pp1 (pp1 + 1) σ19) (fun (zz22 : Int32) (σ21 : xS) => if xin pp1 4 = true then (some (0, ((σ21 ((oo0 + 695) + 7 + 9 * pp1.toNatClampNeg) 5) - zz11), σ21)) else none))
 else (xbI (F_X3_ticksUntilDone (oo0 + 695) pp1 400 σ19) (fun (zz25 : Int32) (σ24 : xS) => some (0, zz25, σ24)))))
 (fun (KK14 : Int32 → xS → Option xR) => xjn (fun (σ16 : xS) => KK14 1 σ16)
 (fun (KK17 : xS → Option xR) => if pp2 = 0 then (KK17 σ9)
 else (if ¬ pp2 = 2 then (KK14 0 σ9)
 else (KK17 σ9)))))) else none)))))
abbrev rm_X5_ifHeld : Room := { frames := 8, cells := 2, slots := 12, locals := 125 }
set_option maxHeartbeats 4000000 in
set_option maxRecDepth 100000 in
theorem c_X5_ifHeld (l : Launch) {D : va_G} {ad : Nat → Nat} {N : Nat} {Sh : xSh} (hI : ∀ i j, i < N → j < N → ad i = ad j → i = j) (hst : l.stackTraces = false) (oo0 : Nat) (hh0 : xIs5 D ad N Sh oo0) (pp1 : Int32) (pp2 : Int32) (σ : xS) : xKT l yX5_ifHeld (Cond.code yX5_ifHeld cX5_ifHeld 4 (some .int) :: wG) rm_X5_ifHeld 2 12 D ad N Sh (xQcI D ad N Sh) [.ref (ad oo0), .int pp1, .int pp2] σ (F_X5_ifHeld oo0 pp1 pp2 σ) := by
  refine x_startT (own := RX5) (maxL := 4) (by decide) rfl rfl (Nat.le_of_ble_eq_true rfl) rfl hI (fun Γ hl hnL hX X => ?_)
  subst hl
  unfold F_X5_ifHeld
  refine xr_aload_n (pc := 0) X (i := 0) 0 rfl rfl dX5_ifHeld_0 ?_
  refine xgX5 (pc := 1) X (oo0) hh0.1 1 wm_1_17 rfl rfl (by decide) rfl dX5_ifHeld_1 ?_
  refine xr_iload_n (pc := 4) X (i := 1) 1 rfl rfl dX5_ifHeld_4 ?_
  refine xr_callVI (na := 1) (pc := 5) X (oo0 + 3) [.int pp1] _ (c_X3_faultOfWriter Γ.2.1 hI (oo0 + 3) hh0.2.2.1 pp1 σ) (wG_V wm_9_20 wm_14_12 wm_9_18 wm_9_19 wm_1_16) rfl rfl rfl (by decide +kernel) ⟨Nat.le_of_ble_eq_true rfl, Nat.le_of_ble_eq_true rfl⟩ hh0.2.2.1.1.1 hh0.2.2.1.1.2 rfl (T := TX3) (C := RX3) rfl rfl rfl (Nat.le_of_ble_eq_true rfl) ⟨Nat.le_of_ble_eq_true rfl, Nat.le_of_ble_eq_true rfl⟩ dX5_ifHeld_5 (fun zz2 σ1 => ?_)
  refine xr_callTSV (na := 1) (pc := 8) X hX [.int zz2] (c_X5_refuse Γ.2.1 hI hst zz2 σ1) (wG_S wm_6_19 wm_6_17 wm_6_18 wm_1_2) rfl rfl rfl (by decide +kernel) ⟨Nat.le_of_ble_eq_true rfl, Nat.le_of_ble_eq_true rfl⟩ rfl rfl (Nat.le_of_ble_eq_true rfl) ⟨Nat.le_of_ble_eq_true rfl, Nat.le_of_ble_eq_true rfl⟩ ⟨Nat.le_of_ble_eq_true rfl, Nat.le_of_ble_eq_true rfl⟩ dX5_ifHeld_8 (fun zz4 σ3 => ?_)
  refine xr_iload_n (pc := 11) X (i := 2) 2 rfl rfl dX5_ifHeld_11 ?_
  refine xr_iconst (pc := 12) X dX5_ifHeld_12 (v := 0) (by decide) ?_
  refine xr_iconst (pc := 13) X dX5_ifHeld_13 (v := 3) (by decide) ?_
  refine xr_callSI (na := 3) (pc := 14) X [.int pp2, .int 0, .int 3] (c_X5_isWithin Γ.2.1 hI pp2 0 3 σ3) (wG_S wm_6_13 wm_6_11 wm_6_12 wm_1_2) rfl rfl rfl (by decide +kernel) ⟨Nat.le_of_ble_eq_true rfl, Nat.le_of_ble_eq_true rfl⟩ rfl rfl (Nat.le_of_ble_eq_true rfl) ⟨Nat.le_of_ble_eq_true rfl, Nat.le_of_ble_eq_true rfl⟩ dX5_ifHeld_14 (fun zz6 σ5 => ?_)
  refine xr_iconst (pc := 17) X dX5_ifHeld_17 (v := 2) (by decide) ?_
  refine xr_callTSV (na := 2) (pc := 18) X hX [.int zz6, .int 2] (c_X5_demand Γ.2.1 hI hst zz6 2 σ5) (wG_S wm_6_16 wm_6_14 wm_6_15 wm_1_2) rfl rfl rfl (by decide +kernel) ⟨Nat.le_of_ble_eq_true rfl, Nat.le_of_ble_eq_true rfl⟩ rfl rfl (Nat.le_of_ble_eq_true rfl) ⟨Nat.le_of_ble_eq_true rfl, Nat.le_of_ble_eq_true rfl⟩ ⟨Nat.le_of_ble_eq_true rfl, Nat.le_of_ble_eq_true rfl⟩ dX5_ifHeld_18 (fun zz8 σ7 => ?_)
  refine xr_aload_n (pc := 21) X (i := 0) 0 rfl rfl dX5_ifHeld_21 ?_
  refine xgX5 (pc := 22) X (oo0) hh0.1 6 wm_2_2 rfl rfl (by decide) rfl dX5_ifHeld_22 ?_
  refine xr_aload_n (pc := 25) X (i := 0) 0 rfl rfl dX5_ifHeld_25 ?_
  refine xgX5 (pc := 26) X (oo0) hh0.1 1 wm_1_17 rfl rfl (by decide) rfl dX5_ifHeld_26 ?_
  refine xr_callVV (na := 1) (pc := 29) X (oo0 + 695) [.ref (ad (oo0 + 3))] _ (c_X3_copyFrom Γ.2.1 hI (oo0 + 695) hh0.2.2.2.2.2.2.2.1 (oo0 + 3) hh0.2.2.1 σ7) (wG_V wm_16_20 wm_19_13 wm_16_18 wm_16_19 wm_1_16) rfl rfl rfl (by decide +kernel) ⟨Nat.le_of_ble_eq_true rfl, Nat.le_of_ble_eq_true rfl⟩ hh0.2.2.2.2.2.2.2.1.1.1 hh0.2.2.2.2.2.2.2.1.1.2 rfl (T := TX3) (C := RX3) rfl rfl rfl (Nat.le_of_ble_eq_true rfl) ⟨Nat.le_of_ble_eq_true rfl, Nat.le_of_ble_eq_true rfl⟩ dX5_ifHeld_29 (fun σ9 => ?_)
  refine xr_aload_n (pc := 32) X (i := 0) 0 rfl rfl dX5_ifHeld_32 ?_
  refine xgX5 (pc := 33) X (oo0) hh0.1 6 wm_2_2 rfl rfl (by decide) rfl dX5_ifHeld_33 ?_
  refine xgNX3 (pc := 36) X (oo0 + 695) hh0.2.2.2.2.2.2.2.1.1 4 3 rfl rfl rfl (by decide) rfl dX5_ifHeld_36 ?_
  refine xr_iload_n (pc := 39) X (i := 1) 1 rfl rfl dX5_ifHeld_39 ?_
  refine xr_aldPair (pc := 40) X ((oo0 + 695) + 6) 4 (fun j => (oo0 + 695) + 7 + 9 * j) hh0.2.2.2.2.2.2.2.1.2.2.2.1.1 hh0.2.2.2.2.2.2.2.1.2.2.2.1.2 (fun _ hj => if_pos hj) dX5_ifHeld_40 (fun haa10 => ?_)
  refine xgNX2 (pc := 41) X ((oo0 + 695) + 7 + 9 * pp1.toNatClampNeg) ((hh0.2.2.2.2.2.2.2.1.2.2.2.2 _ (xin_lt haa10)).1) 5 8 rfl rfl rfl (by decide) rfl dX5_ifHeld_41 ?_
  refine x_leti (fun zz11 => ?_)
  refine xr_istore_n (pc := 44) X (hf := rfl) (i := 3) (lv2 := [(0, .ref (ad oo0)), (1, .int pp1), (2, .int pp2), (3, .int zz11)]) [1, 2, 3, 0] (Nat.le_of_ble_eq_true rfl) hnL rfl dX5_ifHeld_44 ?_
  refine xr_aload_n (pc := 45) X (i := 0) 0 rfl rfl dX5_ifHeld_45 ?_
  refine xgX5 (pc := 46) X (oo0) hh0.1 6 wm_2_2 rfl rfl (by decide) rfl dX5_ifHeld_46 ?_
  refine xr_iconst (pc := 49) X dX5_ifHeld_49 (v := 3) (by decide) ?_
  refine xr_iload_n (pc := 50) X (i := 1) 1 rfl rfl dX5_ifHeld_50 ?_
  refine xr_iload_n (pc := 51) X (i := 2) 2 rfl rfl dX5_ifHeld_51 ?_
  refine x_jn (fun (KK14 : Int32 → xS → Option xR) => ∀ zz12 σ13, xM Γ D ad N Sh (xQT Γ D ad N Sh (xQcI D ad N Sh) 2 12) 2 12 (KK14 zz12 σ13) σ13 65 [(0, .ref (ad oo0)), (1, .int pp1), (2, .int pp2), (3, .int zz11)] [.int zz12, .int pp1, .int 3, .ref (ad (oo0 + 695))]) (fun zz12 σ13 => ?_) (fun KK14 hKK15 => ?_)
  · refine xr_iconst (pc := 65) X dX5_ifHeld_65 (v := 0) (by decide) ?_
    refine xr_callVI (na := 4) (pc := 66) X (oo0 + 695) [.int 3, .int pp1, .int zz12, .int 0] _ (c_X3_attempt Γ.2.1 hI (oo0 + 695) hh0.2.2.2.2.2.2.2.1 3 pp1 zz12 0 σ13) (wG_V wm_9_8 wm_9_5 wm_9_6 wm_9_7 wm_1_16) rfl rfl rfl (by decide +kernel) ⟨Nat.le_of_ble_eq_true rfl, Nat.le_of_ble_eq_true rfl⟩ hh0.2.2.2.2.2.2.2.1.1.1 hh0.2.2.2.2.2.2.2.1.1.2 rfl (T := TX3) (C := RX3) rfl rfl rfl (Nat.le_of_ble_eq_true rfl) ⟨Nat.le_of_ble_eq_true rfl, Nat.le_of_ble_eq_true rfl⟩ dX5_ifHeld_66 (fun zz20 σ19 => ?_)
    refine xr_pop (pc := 69) X rfl dX5_ifHeld_69 ?_
    refine xr_iload_n (pc := 70) X (i := 2) 2 rfl rfl dX5_ifHeld_70 ?_
    refine xr_iconst (pc := 71) X dX5_ifHeld_71 (v := 2) (by decide) ?_
    refine xr_icmp_ge (pc := 72) X 87 (by decide) dX5_ifHeld_72 (fun _ => ?_) (fun _ => ?_)
    · refine xr_aload_n (pc := 87) X (i := 0) 0 rfl rfl dX5_ifHeld_87 ?_
      refine xgX5 (pc := 88) X (oo0) hh0.1 6 wm_2_2 rfl rfl (by decide) rfl dX5_ifHeld_88 ?_
      refine xr_sipush (pc := 91) X dX5_ifHeld_91 (v := 400) (by decide) ?_
      refine xr_iload_n (pc := 94) X (i := 1) 1 rfl rfl dX5_ifHeld_94 ?_
      refine xr_iload_n (pc := 95) X (i := 1) 1 rfl rfl dX5_ifHeld_95 ?_
      refine xr_iconst (pc := 96) X dX5_ifHeld_96 (v := 1) (by decide) ?_
      refine xr_iadd (pc := 97) X dX5_ifHeld_97 ?_
      refine xr_callVI (na := 3) (pc := 98) X (oo0 + 695) [.int 400, .int pp1, .int (pp1 + 1)] _ (c_X3_passTicks Γ.2.1 hI (oo0 + 695) hh0.2.2.2.2.2.2.2.1 400 pp1 (pp1 + 1) σ19) (wG_V wm_11_10 wm_20_20 wm_11_8 wm_11_9 wm_1_16) rfl rfl rfl (by decide +kernel) ⟨Nat.le_of_ble_eq_true rfl, Nat.le_of_ble_eq_true rfl⟩ hh0.2.2.2.2.2.2.2.1.1.1 hh0.2.2.2.2.2.2.2.1.1.2 rfl (T := TX3) (C := RX3) rfl rfl rfl (Nat.le_of_ble_eq_true rfl) ⟨Nat.le_of_ble_eq_true rfl, Nat.le_of_ble_eq_true rfl⟩ dX5_ifHeld_98 (fun zz22 σ21 => ?_)
      refine xr_pop (pc := 101) X rfl dX5_ifHeld_101 ?_
      refine xr_aload_n (pc := 102) X (i := 0) 0 rfl rfl dX5_ifHeld_102 ?_
      refine xgX5 (pc := 103) X (oo0) hh0.1 6 wm_2_2 rfl rfl (by decide) rfl dX5_ifHeld_103 ?_
      refine xgNX3 (pc := 106) X (oo0 + 695) hh0.2.2.2.2.2.2.2.1.1 4 3 rfl rfl rfl (by decide) rfl dX5_ifHeld_106 ?_
      refine xr_iload_n (pc := 109) X (i := 1) 1 rfl rfl dX5_ifHeld_109 ?_
      refine xr_aldPair (pc := 110) X ((oo0 + 695) + 6) 4 (fun j => (oo0 + 695) + 7 + 9 * j) hh0.2.2.2.2.2.2.2.1.2.2.2.1.1 hh0.2.2.2.2.2.2.2.1.2.2.2.1.2 (fun _ hj => if_pos hj) dX5_ifHeld_110 (fun haa23 => ?_)
      refine xgNX2 (pc := 111) X ((oo0 + 695) + 7 + 9 * pp1.toNatClampNeg) ((hh0.2.2.2.2.2.2.2.1.2.2.2.2 _ (xin_lt haa23)).1) 5 8 rfl rfl rfl (by decide) rfl dX5_ifHeld_111 ?_
      refine xr_iload_n (pc := 114) X (i := 3) 3 rfl rfl dX5_ifHeld_114 ?_
      refine xr_isub (pc := 115) X dX5_ifHeld_115 ?_
      exact xr_tiret (pc := 116) X (Nat.le_of_ble_eq_true rfl) (Nat.le_of_ble_eq_true rfl) dX5_ifHeld_116
    refine xr_aload_n (pc := 75) X (i := 0) 0 rfl rfl dX5_ifHeld_75 ?_
    refine xgX5 (pc := 76) X (oo0) hh0.1 6 wm_2_2 rfl rfl (by decide) rfl dX5_ifHeld_76 ?_
    refine xr_iload_n (pc := 79) X (i := 1) 1 rfl rfl dX5_ifHeld_79 ?_
    refine xr_sipush (pc := 80) X dX5_ifHeld_80 (v := 400) (by decide) ?_
    refine xr_callVI (na := 2) (pc := 83) X (oo0 + 695) [.int pp1, .int 400] _ (c_X3_ticksUntilDone Γ.2.1 hI (oo0 + 695) hh0.2.2.2.2.2.2.2.1 pp1 400 σ19) (wG_V wm_19_17 wm_19_14 wm_19_15 wm_19_16 wm_1_16) rfl rfl rfl (by decide +kernel) ⟨Nat.le_of_ble_eq_true rfl, Nat.le_of_ble_eq_true rfl⟩ hh0.2.2.2.2.2.2.2.1.1.1 hh0.2.2.2.2.2.2.2.1.1.2 rfl (T := TX3) (C := RX3) rfl rfl rfl (Nat.le_of_ble_eq_true rfl) ⟨Nat.le_of_ble_eq_true rfl, Nat.le_of_ble_eq_true rfl⟩ dX5_ifHeld_83 (fun zz25 σ24 => ?_)
    exact xr_tiret (pc := 86) X (Nat.le_of_ble_eq_true rfl) (Nat.le_of_ble_eq_true rfl) dX5_ifHeld_86
  refine x_jn (fun (KK17 : xS → Option xR) => ∀ σ16, xM Γ D ad N Sh (xQT Γ D ad N Sh (xQcI D ad N Sh) 2 12) 2 12 (KK17 σ16) σ16 60 [(0, .ref (ad oo0)), (1, .int pp1), (2, .int pp2), (3, .int zz11)] [.int pp1, .int 3, .ref (ad (oo0 + 695))]) (fun σ16 => ?_) (fun KK17 hKK18 => ?_)
  · refine xr_iconst (pc := 60) X dX5_ifHeld_60 (v := 1) (by decide) ?_
    refine xr_goto (pc := 61) X 65 (by decide) dX5_ifHeld_61 ?_
    exact hKK15 _ _
  refine xr_if_eq (pc := 52) X 60 (by decide) dX5_ifHeld_52 (fun _ => ?_) (fun _ => ?_)
  · exact hKK18  _
  refine xr_iload_n (pc := 55) X (i := 2) 2 rfl rfl dX5_ifHeld_55 ?_
  refine xr_iconst (pc := 56) X dX5_ifHeld_56 (v := 2) (by decide) ?_
  refine xr_icmp_ne (pc := 57) X 64 (by decide) dX5_ifHeld_57 (fun _ => ?_) (fun _ => ?_)
  · refine xr_iconst (pc := 64) X dX5_ifHeld_64 (v := 0) (by decide) ?_
    exact hKK15 _ _
  exact hKK18  _
def L_X5_best_35 (oo0 : Nat) (pp1 : Int32) (pp2 : Int32) (KK14 : Int32 → xS → Option xR) : Nat → Int32 → Int32 → Int32 → xS → Option xR
  | 0, _, _, _, _ => none
  | nn_20 + 1, zz16, zz17, zz18, σ19 => if xin pp1 4 = true then (xlet (xF3 pp1.toNatClampNeg) (fun (zz24 : Int32) => if zz24 < zz18 then (KK14 zz16 σ19)
 else (if zz17 < 0 then (KK14 zz16 σ19)
 else (xbV (F_X3_copyFrom (oo0 + 695) (oo0 + 3) σ19) (fun (σ25 : xS) => if xin pp1 4 = true then (xlet (xu σ25 ((oo0 + 695) + 1) pp1.toNatClampNeg zz18) (fun (σ26 : xS) => xbI (F_X3_ticksUntilDone (oo0 + 695) pp2 zz17 σ26) (fun (zz28 : Int32) (σ27 : xS) => if zz28 = ((-1)) then (xlet (zz18 + 1) (fun (zz29 : Int32) => L_X5_best_35 oo0 pp1 pp2 KK14 nn_20 zz16 zz17 zz29 σ27))
 else (xlet (zz28 - 1) (fun (zz30 : Int32) => xlet (zz18 + 1) (fun (zz31 : Int32) => L_X5_best_35 oo0 pp1 pp2 KK14 nn_20 zz18 zz30 zz31 σ27)))))) else none))))) else none
def F_X5_best (oo0 : Nat) (pp1 : Int32) (pp2 : Int32) (σ : xS) : Option xR :=
  xbI (F_X3_faultOfWriter (oo0 + 3) pp2 σ) (fun (zz2 : Int32) (σ1 : xS) => xbT (F_X5_refuse zz2 σ1) (fun (zz4 : Int32) (σ3 : xS) => xbI (F_X5_isWithin pp1 1 2 σ3) (fun (zz6 : Int32) (σ5 : xS) => xbT (F_X5_demand zz6 2 σ5) (fun (zz8 : Int32) (σ7 : xS) => if xin pp1 4 = true then (xlet (xF2 pp1.toNatClampNeg) (fun (zz11 : Int32) => L_X5_best_35 oo0 pp1 pp2 (fun (zz12 : Int32) (σ13 : xS) => some (0, zz12, σ13)) 1000 ((-1)) 400 zz11 σ7)) else none))))
abbrev rm_X5_best : Room := { frames := 8, cells := 2, slots := 12, locals := 124 }
set_option maxHeartbeats 4000000 in
set_option maxRecDepth 100000 in
theorem c_X5_best (l : Launch) {D : va_G} {ad : Nat → Nat} {N : Nat} {Sh : xSh} (hI : ∀ i j, i < N → j < N → ad i = ad j → i = j) (hst : l.stackTraces = false) (oo0 : Nat) (hh0 : xIs5 D ad N Sh oo0) (pp1 : Int32) (pp2 : Int32) (σ : xS) : xKT l yX5_best (Cond.code yX5_best cX5_best 7 (some .int) :: wG) rm_X5_best 2 12 D ad N Sh (xQcI D ad N Sh) [.ref (ad oo0), .int pp1, .int pp2] σ (F_X5_best oo0 pp1 pp2 σ) := by
  refine x_startT (own := RX5) (maxL := 7) (by decide) rfl rfl (Nat.le_of_ble_eq_true rfl) rfl hI (fun Γ hl hnL hX X => ?_)
  subst hl
  unfold F_X5_best
  refine xr_aload_n (pc := 0) X (i := 0) 0 rfl rfl dX5_best_0 ?_
  refine xgX5 (pc := 1) X (oo0) hh0.1 1 wm_1_17 rfl rfl (by decide) rfl dX5_best_1 ?_
  refine xr_iload_n (pc := 4) X (i := 2) 2 rfl rfl dX5_best_4 ?_
  refine xr_callVI (na := 1) (pc := 5) X (oo0 + 3) [.int pp2] _ (c_X3_faultOfWriter Γ.2.1 hI (oo0 + 3) hh0.2.2.1 pp2 σ) (wG_V wm_9_20 wm_14_12 wm_9_18 wm_9_19 wm_1_16) rfl rfl rfl (by decide +kernel) ⟨Nat.le_of_ble_eq_true rfl, Nat.le_of_ble_eq_true rfl⟩ hh0.2.2.1.1.1 hh0.2.2.1.1.2 rfl (T := TX3) (C := RX3) rfl rfl rfl (Nat.le_of_ble_eq_true rfl) ⟨Nat.le_of_ble_eq_true rfl, Nat.le_of_ble_eq_true rfl⟩ dX5_best_5 (fun zz2 σ1 => ?_)
  refine xr_callTSV (na := 1) (pc := 8) X hX [.int zz2] (c_X5_refuse Γ.2.1 hI hst zz2 σ1) (wG_S wm_6_19 wm_6_17 wm_6_18 wm_1_2) rfl rfl rfl (by decide +kernel) ⟨Nat.le_of_ble_eq_true rfl, Nat.le_of_ble_eq_true rfl⟩ rfl rfl (Nat.le_of_ble_eq_true rfl) ⟨Nat.le_of_ble_eq_true rfl, Nat.le_of_ble_eq_true rfl⟩ ⟨Nat.le_of_ble_eq_true rfl, Nat.le_of_ble_eq_true rfl⟩ dX5_best_8 (fun zz4 σ3 => ?_)
  refine xr_iload_n (pc := 11) X (i := 1) 1 rfl rfl dX5_best_11 ?_
  refine xr_iconst (pc := 12) X dX5_best_12 (v := 1) (by decide) ?_
  refine xr_iconst (pc := 13) X dX5_best_13 (v := 2) (by decide) ?_
  refine xr_callSI (na := 3) (pc := 14) X [.int pp1, .int 1, .int 2] (c_X5_isWithin Γ.2.1 hI pp1 1 2 σ3) (wG_S wm_6_13 wm_6_11 wm_6_12 wm_1_2) rfl rfl rfl (by decide +kernel) ⟨Nat.le_of_ble_eq_true rfl, Nat.le_of_ble_eq_true rfl⟩ rfl rfl (Nat.le_of_ble_eq_true rfl) ⟨Nat.le_of_ble_eq_true rfl, Nat.le_of_ble_eq_true rfl⟩ dX5_best_14 (fun zz6 σ5 => ?_)
  refine xr_iconst (pc := 17) X dX5_best_17 (v := 2) (by decide) ?_
  refine xr_callTSV (na := 2) (pc := 18) X hX [.int zz6, .int 2] (c_X5_demand Γ.2.1 hI hst zz6 2 σ5) (wG_S wm_6_16 wm_6_14 wm_6_15 wm_1_2) rfl rfl rfl (by decide +kernel) ⟨Nat.le_of_ble_eq_true rfl, Nat.le_of_ble_eq_true rfl⟩ rfl rfl (Nat.le_of_ble_eq_true rfl) ⟨Nat.le_of_ble_eq_true rfl, Nat.le_of_ble_eq_true rfl⟩ ⟨Nat.le_of_ble_eq_true rfl, Nat.le_of_ble_eq_true rfl⟩ dX5_best_18 (fun zz8 σ7 => ?_)
  refine xr_iconst (pc := 21) X dX5_best_21 (v := (-1)) (by decide) ?_
  refine xr_istore_n (pc := 22) X (hf := rfl) (i := 3) (lv2 := [(0, .ref (ad oo0)), (1, .int pp1), (2, .int pp2), (3, .int ((-1)))]) [1, 2, 3, 0] (Nat.le_of_ble_eq_true rfl) hnL rfl dX5_best_22 ?_
  refine xr_sipush (pc := 23) X dX5_best_23 (v := 400) (by decide) ?_
  refine xr_istore (pc := 26) X (i := 4) (lv2 := [(0, .ref (ad oo0)), (1, .int pp1), (2, .int pp2), (3, .int ((-1))), (4, .int 400)]) [1, 2, 3, 4, 0] (Nat.le_of_ble_eq_true rfl) hnL rfl dX5_best_26 ?_
  refine xr_gets (pc := 28) X (f := xF2) (fun A U H h => h.2.1) (List.mem_cons_of_mem _ wm_21_4) rfl dX5_best_28 (fun aa_9 hTT10 => ?_)
  refine xr_iload_n (pc := 31) X (i := 1) 1 rfl rfl dX5_best_31 ?_
  refine xr_sald (pc := 32) X hTT10 dX5_best_32 (fun zz11 => ?_)
  refine xr_istore (pc := 33) X (i := 5) (lv2 := [(0, .ref (ad oo0)), (1, .int pp1), (2, .int pp2), (3, .int ((-1))), (4, .int 400), (5, .int zz11)]) [1, 2, 3, 4, 5, 0] (Nat.le_of_ble_eq_true rfl) hnL rfl dX5_best_33 ?_
  have hLL32 : ∀ (KK14 : Int32 → xS → Option xR) (hKK15 : ∀ zz12 σ13, xM Γ D ad N Sh (xQT Γ D ad N Sh (xQcI D ad N Sh) 2 12) 2 12 (KK14 zz12 σ13) σ13 105 [(3, .int zz12)] []), ∀ (nn_20 : Nat) zz16 zz17 zz18 σ19, xM Γ D ad N Sh (xQT Γ D ad N Sh (xQcI D ad N Sh) 2 12) 2 12 (L_X5_best_35 oo0 pp1 pp2 KK14 nn_20 zz16 zz17 zz18 σ19) σ19 35 [(0, .ref (ad oo0)), (1, .int pp1), (2, .int pp2), (3, .int zz16), (4, .int zz17), (5, .int zz18)] [] := by
    intro KK14 hKK15 nn_20
    induction nn_20 with
    | zero => intro zz16 zz17 zz18 σ19; exact xM_none
    | succ nn_20 ihh21 =>
      intro zz16 zz17 zz18 σ19
      rw [L_X5_best_35]
      refine xr_iload (pc := 35) X (i := 5) 5 rfl dX5_best_35 ?_
      refine xr_gets (pc := 37) X (f := xF3) (fun A U H h => h.2.2.1) (List.mem_cons_of_mem _ wm_21_5) rfl dX5_best_37 (fun aa_22 hTT23 => ?_)
      refine xr_iload_n (pc := 40) X (i := 1) 1 rfl rfl dX5_best_40 ?_
      refine xr_sald (pc := 41) X hTT23 dX5_best_41 (fun zz24 => ?_)
      refine xr_icmp_gt (pc := 42) X 105 (by decide) dX5_best_42 (fun _ => ?_) (fun _ => ?_)
      · exact x_sub [3] rfl (hKK15 _ _)
      refine xr_iload (pc := 45) X (i := 4) 4 rfl dX5_best_45 ?_
      refine xr_if_lt (pc := 47) X 105 (by decide) dX5_best_47 (fun _ => ?_) (fun _ => ?_)
      · exact x_sub [3] rfl (hKK15 _ _)
      refine xr_aload_n (pc := 50) X (i := 0) 0 rfl rfl dX5_best_50 ?_
      refine xgX5 (pc := 51) X (oo0) hh0.1 6 wm_2_2 rfl rfl (by decide) rfl dX5_best_51 ?_
      refine xr_aload_n (pc := 54) X (i := 0) 0 rfl rfl dX5_best_54 ?_
      refine xgX5 (pc := 55) X (oo0) hh0.1 1 wm_1_17 rfl rfl (by decide) rfl dX5_best_55 ?_
      refine xr_callVV (na := 1) (pc := 58) X (oo0 + 695) [.ref (ad (oo0 + 3))] _ (c_X3_copyFrom Γ.2.1 hI (oo0 + 695) hh0.2.2.2.2.2.2.2.1 (oo0 + 3) hh0.2.2.1 σ19) (wG_V wm_16_20 wm_19_13 wm_16_18 wm_16_19 wm_1_16) rfl rfl rfl (by decide +kernel) ⟨Nat.le_of_ble_eq_true rfl, Nat.le_of_ble_eq_true rfl⟩ hh0.2.2.2.2.2.2.2.1.1.1 hh0.2.2.2.2.2.2.2.1.1.2 rfl (T := TX3) (C := RX3) rfl rfl rfl (Nat.le_of_ble_eq_true rfl) ⟨Nat.le_of_ble_eq_true rfl, Nat.le_of_ble_eq_true rfl⟩ dX5_best_58 (fun σ25 => ?_)
      refine xr_aload_n (pc := 61) X (i := 0) 0 rfl rfl dX5_best_61 ?_
      refine xgX5 (pc := 62) X (oo0) hh0.1 6 wm_2_2 rfl rfl (by decide) rfl dX5_best_62 ?_
      refine xgNX3 (pc := 65) X (oo0 + 695) hh0.2.2.2.2.2.2.2.1.1 2 5 rfl rfl rfl (by decide) rfl dX5_best_65 ?_
      refine xr_iload_n (pc := 68) X (i := 1) 1 rfl rfl dX5_best_68 ?_
      refine xr_iload (pc := 69) X (i := 5) 5 rfl dX5_best_69 ?_
      refine xr_iast (pc := 71) X ((oo0 + 695) + 1) (4) hh0.2.2.2.2.2.2.2.1.2.1.1 hh0.2.2.2.2.2.2.2.1.2.1.2 dX5_best_71 (fun σ26 => ?_)
      refine xr_aload_n (pc := 72) X (i := 0) 0 rfl rfl dX5_best_72 ?_
      refine xgX5 (pc := 73) X (oo0) hh0.1 6 wm_2_2 rfl rfl (by decide) rfl dX5_best_73 ?_
      refine xr_iload_n (pc := 76) X (i := 2) 2 rfl rfl dX5_best_76 ?_
      refine xr_iload (pc := 77) X (i := 4) 4 rfl dX5_best_77 ?_
      refine xr_callVI (na := 2) (pc := 79) X (oo0 + 695) [.int pp2, .int zz17] _ (c_X3_ticksUntilDone Γ.2.1 hI (oo0 + 695) hh0.2.2.2.2.2.2.2.1 pp2 zz17 σ26) (wG_V wm_19_17 wm_19_14 wm_19_15 wm_19_16 wm_1_16) rfl rfl rfl (by decide +kernel) ⟨Nat.le_of_ble_eq_true rfl, Nat.le_of_ble_eq_true rfl⟩ hh0.2.2.2.2.2.2.2.1.1.1 hh0.2.2.2.2.2.2.2.1.1.2 rfl (T := TX3) (C := RX3) rfl rfl rfl (Nat.le_of_ble_eq_true rfl) ⟨Nat.le_of_ble_eq_true rfl, Nat.le_of_ble_eq_true rfl⟩ dX5_best_79 (fun zz28 σ27 => ?_)
      refine xr_istore (pc := 82) X (i := 6) (lv2 := [(0, .ref (ad oo0)), (1, .int pp1), (2, .int pp2), (3, .int zz16), (4, .int zz17), (5, .int zz18), (6, .int zz28)]) [1, 2, 3, 4, 5, 6, 0] (Nat.le_of_ble_eq_true rfl) hnL rfl dX5_best_82 ?_
      refine xr_iload (pc := 84) X (i := 6) 6 rfl dX5_best_84 ?_
      refine xr_iconst (pc := 86) X dX5_best_86 (v := (-1)) (by decide) ?_
      refine xr_icmp_eq (pc := 87) X 99 (by decide) dX5_best_87 (fun _ => ?_) (fun _ => ?_)
      · refine xr_iinc (pc := 99) X (i := 5) (j := 5) [1, 2, 3, 4, 5, 0, 6] (Nat.le_of_ble_eq_true rfl) hnL rfl rfl (fun zz29 => [(0, .ref (ad oo0)), (1, .int pp1), (2, .int pp2), (3, .int zz16), (4, .int zz17), (5, .int zz29), (6, .int zz28)]) (fun _ => rfl) dX5_best_99 (fun zz29 => ?_)
        refine xr_goto (pc := 102) X 35 (by decide) dX5_best_102 ?_
        exact x_sub [0, 1, 2, 3, 4, 5] rfl (ihh21 _ _ _ _)
      refine xr_iload (pc := 90) X (i := 5) 5 rfl dX5_best_90 ?_
      refine xr_istore_n (pc := 92) X (hf := rfl) (i := 3) (lv2 := [(0, .ref (ad oo0)), (1, .int pp1), (2, .int pp2), (3, .int zz18), (5, .int zz18), (6, .int zz28)]) [1, 2, 3, 0, 5, 6] (Nat.le_of_ble_eq_true rfl) hnL rfl dX5_best_92 ?_
      refine xr_iload (pc := 93) X (i := 6) 5 rfl dX5_best_93 ?_
      refine xr_iconst (pc := 95) X dX5_best_95 (v := 1) (by decide) ?_
      refine xr_isub (pc := 96) X dX5_best_96 ?_
      refine x_leti (fun zz30 => ?_)
      refine xr_istore (pc := 97) X (i := 4) (lv2 := [(0, .ref (ad oo0)), (1, .int pp1), (2, .int pp2), (3, .int zz18), (4, .int zz30), (5, .int zz18)]) [1, 2, 3, 4, 0, 5] (Nat.le_of_ble_eq_true rfl) hnL rfl dX5_best_97 ?_
      refine xr_iinc (pc := 99) X (i := 5) (j := 5) [1, 2, 3, 4, 5, 0] (Nat.le_of_ble_eq_true rfl) hnL rfl rfl (fun zz31 => [(0, .ref (ad oo0)), (1, .int pp1), (2, .int pp2), (3, .int zz18), (4, .int zz30), (5, .int zz31)]) (fun _ => rfl) dX5_best_99 (fun zz31 => ?_)
      refine xr_goto (pc := 102) X 35 (by decide) dX5_best_102 ?_
      exact ihh21 _ _ _ _
  refine hLL32 _ (fun zz12 σ13 => ?_) _ _ _ _ _
  refine xr_iload_n (pc := 105) X (i := 3) 0 rfl rfl dX5_best_105 ?_
  exact xr_tiret (pc := 106) X (Nat.le_of_ble_eq_true rfl) (Nat.le_of_ble_eq_true rfl) dX5_best_106
def L_X5_runScript_76 (oo0 : Nat) (pp1 : Int32) (pp2 : Int64) (KK19 : Int32 → xS → Option xR) (KK22 : xS → Option xR) : Nat → Int64 → Int32 → xS → Option xR
  | 0, _, _, _ => none
  | nn_27 + 1, zz24, zz25, σ26 => if pp1 ≤ zz25 then (KK22 σ26)
 else (if (lg_cmp zz24 0) ≤ 0 then (KK22 σ26)
 else (if ¬ zz24 = 0 then (xbI (F_X5_doesCommand oo0 (((pp2 / zz24) - (pp2 / zz24) / 100000 * 100000).toInt32) σ26) (fun (zz31 : Int32) (σ30 : xS) => if ¬ zz31 = 0 then (xlet (zz24 / 100000) (fun (zz32 : Int64) => xlet (zz25 + 1) (fun (zz33 : Int32) => L_X5_runScript_76 oo0 pp1 pp2 KK19 KK22 nn_27 zz32 zz33 σ30)))
 else (KK19 zz25 σ30))) else none))
def L_X5_runScript_16 (pp1 : Int32) (KK35 : Int64 → xS → Option xR) : Nat → Int64 → Int32 → xS → Option xR
  | 0, _, _, _ => none
  | nn_40 + 1, zz37, zz38, σ39 => if pp1 ≤ zz38 then (KK35 zz37 σ39)
 else (xlet (zz37 * 100000) (fun (zz42 : Int64) => xlet (zz38 + 1) (fun (zz43 : Int32) => L_X5_runScript_16 pp1 KK35 nn_40 zz42 zz43 σ39)))
def F_X5_runScript (oo0 : Nat) (pp1 : Int32) (pp2 : Int64) (σ : xS) : Option xR :=
  xbI (F_X5_isWithin pp1 1 3 σ) (fun (zz2 : Int32) (σ1 : xS) => xbT (F_X5_demand zz2 2 σ1) (fun (zz4 : Int32) (σ3 : xS) => L_X5_runScript_16 pp1 (fun (zz5 : Int64) (σ6 : xS) => xjn (fun (zz7 : Int32) (σ8 : xS) => xbT (F_X5_demand zz7 2 σ8) (fun (zz15 : Int32) (σ14 : xS) => xbV (F_X3_copyFrom (oo0 + 652) (oo0 + 3) σ14) (fun (σ16 : xS) => L_X5_runScript_76 oo0 pp1 pp2 (fun (zz17 : Int32) (σ18 : xS) => some (0, zz17, σ18)) (fun (σ21 : xS) => some (0, (-1 : Int32), σ21)) 1000 zz5 0 σ16)))
 (fun (KK9 : Int32 → xS → Option xR) => xjn (fun (σ11 : xS) => KK9 0 σ11)
 (fun (KK12 : xS → Option xR) => if (lg_cmp pp2 0) < 0 then (KK12 σ6)
 else (if 0 ≤ (lg_cmp pp2 (zz5 * 100000)) then (KK12 σ6)
 else (KK9 1 σ6))))) 1000 1 1 σ3))
abbrev rm_X5_runScript : Room := { frames := 8, cells := 2, slots := 12, locals := 152 }
set_option maxHeartbeats 4000000 in
set_option maxRecDepth 100000 in
theorem c_X5_runScript (l : Launch) {D : va_G} {ad : Nat → Nat} {N : Nat} {Sh : xSh} (hI : ∀ i j, i < N → j < N → ad i = ad j → i = j) (hst : l.stackTraces = false) (oo0 : Nat) (hh0 : xIs5 D ad N Sh oo0) (pp1 : Int32) (pp2 : Int64) (σ : xS) : xKT l yX5_runScript (Cond.code yX5_runScript cX5_runScript 7 (some .int) :: wG) rm_X5_runScript 2 12 D ad N Sh (xQcI D ad N Sh) [.ref (ad oo0), .int pp1, .long pp2] σ (F_X5_runScript oo0 pp1 pp2 σ) := by
  refine x_startT (own := RX5) (maxL := 7) (by decide) rfl rfl (Nat.le_of_ble_eq_true rfl) rfl hI (fun Γ hl hnL hX X => ?_)
  subst hl
  unfold F_X5_runScript
  refine xr_iload_n (pc := 0) X (i := 1) 1 rfl rfl dX5_runScript_0 ?_
  refine xr_iconst (pc := 1) X dX5_runScript_1 (v := 1) (by decide) ?_
  refine xr_iconst (pc := 2) X dX5_runScript_2 (v := 3) (by decide) ?_
  refine xr_callSI (na := 3) (pc := 3) X [.int pp1, .int 1, .int 3] (c_X5_isWithin Γ.2.1 hI pp1 1 3 σ) (wG_S wm_6_13 wm_6_11 wm_6_12 wm_1_2) rfl rfl rfl (by decide +kernel) ⟨Nat.le_of_ble_eq_true rfl, Nat.le_of_ble_eq_true rfl⟩ rfl rfl (Nat.le_of_ble_eq_true rfl) ⟨Nat.le_of_ble_eq_true rfl, Nat.le_of_ble_eq_true rfl⟩ dX5_runScript_3 (fun zz2 σ1 => ?_)
  refine xr_iconst (pc := 6) X dX5_runScript_6 (v := 2) (by decide) ?_
  refine xr_callTSV (na := 2) (pc := 7) X hX [.int zz2, .int 2] (c_X5_demand Γ.2.1 hI hst zz2 2 σ1) (wG_S wm_6_16 wm_6_14 wm_6_15 wm_1_2) rfl rfl rfl (by decide +kernel) ⟨Nat.le_of_ble_eq_true rfl, Nat.le_of_ble_eq_true rfl⟩ rfl rfl (Nat.le_of_ble_eq_true rfl) ⟨Nat.le_of_ble_eq_true rfl, Nat.le_of_ble_eq_true rfl⟩ ⟨Nat.le_of_ble_eq_true rfl, Nat.le_of_ble_eq_true rfl⟩ dX5_runScript_7 (fun zz4 σ3 => ?_)
  refine xr_lconst (pc := 10) X dX5_runScript_10 (v := 1) rfl ?_
  refine xr_lstore (pc := 11) X (i := 4) (lv2 := [(0, .ref (ad oo0)), (1, .int pp1), (2, .long pp2), (4, .long 1)]) [1, 2, 3, 0] (Nat.le_of_ble_eq_true rfl) hnL rfl dX5_runScript_11 ?_
  refine xr_iconst (pc := 13) X dX5_runScript_13 (v := 1) (by decide) ?_
  refine xr_istore (pc := 14) X (i := 6) (lv2 := [(0, .ref (ad oo0)), (1, .int pp1), (2, .long pp2), (4, .long 1), (6, .int 1)]) [1, 2, 3, 4, 0] (Nat.le_of_ble_eq_true rfl) hnL rfl dX5_runScript_14 ?_
  have hLL44 : ∀ (KK35 : Int64 → xS → Option xR) (hKK36 : ∀ zz5 σ6, xM Γ D ad N Sh (xQT Γ D ad N Sh (xQcI D ad N Sh) 2 12) 1 6 (KK35 zz5 σ6) σ6 36 [(0, .ref (ad oo0)), (1, .int pp1), (2, .long pp2), (4, .long zz5)] []), ∀ (nn_40 : Nat) zz37 zz38 σ39, xM Γ D ad N Sh (xQT Γ D ad N Sh (xQcI D ad N Sh) 2 12) 1 6 (L_X5_runScript_16 pp1 KK35 nn_40 zz37 zz38 σ39) σ39 16 [(0, .ref (ad oo0)), (1, .int pp1), (2, .long pp2), (4, .long zz37), (6, .int zz38)] [] := by
    intro KK35 hKK36 nn_40
    induction nn_40 with
    | zero => intro zz37 zz38 σ39; exact xM_none
    | succ nn_40 ihh41 =>
      intro zz37 zz38 σ39
      rw [L_X5_runScript_16]
      refine xr_iload (pc := 16) X (i := 6) 4 rfl dX5_runScript_16 ?_
      refine xr_iload_n (pc := 18) X (i := 1) 1 rfl rfl dX5_runScript_18 ?_
      refine xr_icmp_ge (pc := 19) X 36 (by decide) dX5_runScript_19 (fun _ => ?_) (fun _ => ?_)
      · exact x_sub [0, 1, 2, 3] rfl (hKK36 _ _)
      refine xr_lload (pc := 22) X (i := 4) 3 rfl dX5_runScript_22 ?_
      refine xr_ldc2 (pc := 24) X dX5_runScript_24 (List.mem_cons_of_mem _ wm_22_14) ?_
      refine xr_lmul (pc := 27) X dX5_runScript_27 ?_
      refine x_letl (fun zz42 => ?_)
      refine xr_lstore (pc := 28) X (i := 4) (lv2 := [(0, .ref (ad oo0)), (1, .int pp1), (2, .long pp2), (4, .long zz42), (6, .int zz38)]) [1, 2, 3, 0, 4] (Nat.le_of_ble_eq_true rfl) hnL rfl dX5_runScript_28 ?_
      refine xr_iinc (pc := 30) X (i := 6) (j := 4) [1, 2, 3, 4, 0] (Nat.le_of_ble_eq_true rfl) hnL rfl rfl (fun zz43 => [(0, .ref (ad oo0)), (1, .int pp1), (2, .long pp2), (4, .long zz42), (6, .int zz43)]) (fun _ => rfl) dX5_runScript_30 (fun zz43 => ?_)
      refine xr_goto (pc := 33) X 16 (by decide) dX5_runScript_33 ?_
      exact ihh41 _ _ _
  refine hLL44 _ (fun zz5 σ6 => ?_) _ _ _ _
  refine xr_lload_n (pc := 36) X (i := 2) 2 rfl rfl dX5_runScript_36 ?_
  refine xr_lconst (pc := 37) X dX5_runScript_37 (v := 0) rfl ?_
  refine xr_lcmp (pc := 38) X dX5_runScript_38 ?_
  refine x_jn (fun (KK9 : Int32 → xS → Option xR) => ∀ zz7 σ8, xM Γ D ad N Sh (xQT Γ D ad N Sh (xQcI D ad N Sh) 2 12) 1 6 (KK9 zz7 σ8) σ8 58 [(0, .ref (ad oo0)), (1, .int pp1), (2, .long pp2), (4, .long zz5)] [.int zz7]) (fun zz7 σ8 => ?_) (fun KK9 hKK10 => ?_)
  · refine xr_iconst (pc := 58) X dX5_runScript_58 (v := 2) (by decide) ?_
    refine xr_callTSV (na := 2) (pc := 59) X hX [.int zz7, .int 2] (c_X5_demand Γ.2.1 hI hst zz7 2 σ8) (wG_S wm_6_16 wm_6_14 wm_6_15 wm_1_2) rfl rfl rfl (by decide +kernel) ⟨Nat.le_of_ble_eq_true rfl, Nat.le_of_ble_eq_true rfl⟩ rfl rfl (Nat.le_of_ble_eq_true rfl) ⟨Nat.le_of_ble_eq_true rfl, Nat.le_of_ble_eq_true rfl⟩ ⟨Nat.le_of_ble_eq_true rfl, Nat.le_of_ble_eq_true rfl⟩ dX5_runScript_59 (fun zz15 σ14 => ?_)
    refine xr_aload_n (pc := 62) X (i := 0) 0 rfl rfl dX5_runScript_62 ?_
    refine xgX5 (pc := 63) X (oo0) hh0.1 5 wm_2_1 rfl rfl (by decide) rfl dX5_runScript_63 ?_
    refine xr_aload_n (pc := 66) X (i := 0) 0 rfl rfl dX5_runScript_66 ?_
    refine xgX5 (pc := 67) X (oo0) hh0.1 1 wm_1_17 rfl rfl (by decide) rfl dX5_runScript_67 ?_
    refine xr_callVV (na := 1) (pc := 70) X (oo0 + 652) [.ref (ad (oo0 + 3))] _ (c_X3_copyFrom Γ.2.1 hI (oo0 + 652) hh0.2.2.2.2.2.2.1 (oo0 + 3) hh0.2.2.1 σ14) (wG_V wm_16_20 wm_19_13 wm_16_18 wm_16_19 wm_1_16) rfl rfl rfl (by decide +kernel) ⟨Nat.le_of_ble_eq_true rfl, Nat.le_of_ble_eq_true rfl⟩ hh0.2.2.2.2.2.2.1.1.1 hh0.2.2.2.2.2.2.1.1.2 rfl (T := TX3) (C := RX3) rfl rfl rfl (Nat.le_of_ble_eq_true rfl) ⟨Nat.le_of_ble_eq_true rfl, Nat.le_of_ble_eq_true rfl⟩ dX5_runScript_70 (fun σ16 => ?_)
    refine xr_iconst (pc := 73) X dX5_runScript_73 (v := 0) (by decide) ?_
    refine xr_istore (pc := 74) X (i := 6) (lv2 := [(0, .ref (ad oo0)), (1, .int pp1), (2, .long pp2), (4, .long zz5), (6, .int 0)]) [1, 2, 3, 4, 0] (Nat.le_of_ble_eq_true rfl) hnL rfl dX5_runScript_74 ?_
    have hLL34 : ∀ (KK19 : Int32 → xS → Option xR) (KK22 : xS → Option xR) (hKK20 : ∀ zz17 σ18, xM Γ D ad N Sh (xQT Γ D ad N Sh (xQcI D ad N Sh) 2 12) 2 12 (KK19 zz17 σ18) σ18 105 [(6, .int zz17)] []) (hKK23 : ∀ σ21, xM Γ D ad N Sh (xQT Γ D ad N Sh (xQcI D ad N Sh) 2 12) 2 12 (KK22 σ21) σ21 122 [] []), ∀ (nn_27 : Nat) zz24 zz25 σ26, xM Γ D ad N Sh (xQT Γ D ad N Sh (xQcI D ad N Sh) 2 12) 2 12 (L_X5_runScript_76 oo0 pp1 pp2 KK19 KK22 nn_27 zz24 zz25 σ26) σ26 76 [(0, .ref (ad oo0)), (1, .int pp1), (2, .long pp2), (4, .long zz24), (6, .int zz25)] [] := by
      intro KK19 KK22 hKK20 hKK23 nn_27
      induction nn_27 with
      | zero => intro zz24 zz25 σ26; exact xM_none
      | succ nn_27 ihh28 =>
        intro zz24 zz25 σ26
        rw [L_X5_runScript_76]
        refine xr_iload (pc := 76) X (i := 6) 4 rfl dX5_runScript_76 ?_
        refine xr_iload_n (pc := 78) X (i := 1) 1 rfl rfl dX5_runScript_78 ?_
        refine xr_icmp_ge (pc := 79) X 122 (by decide) dX5_runScript_79 (fun _ => ?_) (fun _ => ?_)
        · exact x_sub [] rfl (hKK23  _)
        refine xr_lload (pc := 82) X (i := 4) 3 rfl dX5_runScript_82 ?_
        refine xr_lconst (pc := 84) X dX5_runScript_84 (v := 0) rfl ?_
        refine xr_lcmp (pc := 85) X dX5_runScript_85 ?_
        refine xr_if_le (pc := 86) X 122 (by decide) dX5_runScript_86 (fun _ => ?_) (fun _ => ?_)
        · exact x_sub [] rfl (hKK23  _)
        refine xr_aload_n (pc := 89) X (i := 0) 0 rfl rfl dX5_runScript_89 ?_
        refine xr_lload_n (pc := 90) X (i := 2) 2 rfl rfl dX5_runScript_90 ?_
        refine xr_lload (pc := 91) X (i := 4) 3 rfl dX5_runScript_91 ?_
        refine x_gd (fun hzz29 => ?_)
        refine xr_ldiv (pc := 93) X hzz29 dX5_runScript_93 ?_
        refine xr_ldc2 (pc := 94) X dX5_runScript_94 (List.mem_cons_of_mem _ wm_22_14) ?_
        refine xr_lrem (pc := 97) X (by decide) dX5_runScript_97 ?_
        refine xr_l2i (pc := 98) X dX5_runScript_98 ?_
        refine xr_callVI (na := 1) (pc := 99) X (oo0) [.int (((pp2 / zz24) - (pp2 / zz24) / 100000 * 100000).toInt32)] _ (c_X5_doesCommand Γ.2.1 hI oo0 hh0 (((pp2 / zz24) - (pp2 / zz24) / 100000 * 100000).toInt32) σ26) (wG_V wm_22_18 wm_22_15 wm_22_16 wm_22_17 wm_1_2) rfl rfl rfl (by decide +kernel) ⟨Nat.le_of_ble_eq_true rfl, Nat.le_of_ble_eq_true rfl⟩ hh0.1.1 hh0.1.2 rfl (T := TX5) (C := RX5) rfl rfl rfl (Nat.le_of_ble_eq_true rfl) ⟨Nat.le_of_ble_eq_true rfl, Nat.le_of_ble_eq_true rfl⟩ dX5_runScript_99 (fun zz31 σ30 => ?_)
        refine xr_if_ne (pc := 102) X 108 (by decide) dX5_runScript_102 (fun _ => ?_) (fun _ => ?_)
        · refine xr_lload (pc := 108) X (i := 4) 3 rfl dX5_runScript_108 ?_
          refine xr_ldc2 (pc := 110) X dX5_runScript_110 (List.mem_cons_of_mem _ wm_22_14) ?_
          refine xr_ldiv (pc := 113) X (by decide) dX5_runScript_113 ?_
          refine x_letl (fun zz32 => ?_)
          refine xr_lstore (pc := 114) X (i := 4) (lv2 := [(0, .ref (ad oo0)), (1, .int pp1), (2, .long pp2), (4, .long zz32), (6, .int zz25)]) [1, 2, 3, 0, 4] (Nat.le_of_ble_eq_true rfl) hnL rfl dX5_runScript_114 ?_
          refine xr_iinc (pc := 116) X (i := 6) (j := 4) [1, 2, 3, 4, 0] (Nat.le_of_ble_eq_true rfl) hnL rfl rfl (fun zz33 => [(0, .ref (ad oo0)), (1, .int pp1), (2, .long pp2), (4, .long zz32), (6, .int zz33)]) (fun _ => rfl) dX5_runScript_116 (fun zz33 => ?_)
          refine xr_goto (pc := 119) X 76 (by decide) dX5_runScript_119 ?_
          exact ihh28 _ _ _
        exact x_sub [4] rfl (hKK20 _ _)
    refine hLL34 _ _ (fun zz17 σ18 => ?_) (fun σ21 => ?_) _ _ _ _
    · refine xr_iload (pc := 105) X (i := 6) 0 rfl dX5_runScript_105 ?_
      exact xr_tiret (pc := 107) X (Nat.le_of_ble_eq_true rfl) (Nat.le_of_ble_eq_true rfl) dX5_runScript_107
    refine xr_iconst (pc := 122) X dX5_runScript_122 (v := (-1)) (by decide) ?_
    exact xr_tiret (pc := 123) X (Nat.le_of_ble_eq_true rfl) (Nat.le_of_ble_eq_true rfl) dX5_runScript_123
  refine x_jn (fun (KK12 : xS → Option xR) => ∀ σ11, xM Γ D ad N Sh (xQT Γ D ad N Sh (xQcI D ad N Sh) 2 12) 1 6 (KK12 σ11) σ11 57 [(0, .ref (ad oo0)), (1, .int pp1), (2, .long pp2), (4, .long zz5)] []) (fun σ11 => ?_) (fun KK12 hKK13 => ?_)
  · refine xr_iconst (pc := 57) X dX5_runScript_57 (v := 0) (by decide) ?_
    exact hKK10 _ _
  refine xr_if_lt (pc := 39) X 57 (by decide) dX5_runScript_39 (fun _ => ?_) (fun _ => ?_)
  · exact hKK13  _
  refine xr_lload_n (pc := 42) X (i := 2) 2 rfl rfl dX5_runScript_42 ?_
  refine xr_lload (pc := 43) X (i := 4) 3 rfl dX5_runScript_43 ?_
  refine xr_ldc2 (pc := 45) X dX5_runScript_45 (List.mem_cons_of_mem _ wm_22_14) ?_
  refine xr_lmul (pc := 48) X dX5_runScript_48 ?_
  refine xr_lcmp (pc := 49) X dX5_runScript_49 ?_
  refine xr_if_ge (pc := 50) X 57 (by decide) dX5_runScript_50 (fun _ => ?_) (fun _ => ?_)
  · exact hKK13  _
  refine xr_iconst (pc := 53) X dX5_runScript_53 (v := 1) (by decide) ?_
  refine xr_goto (pc := 54) X 58 (by decide) dX5_runScript_54 ?_
  exact hKK10 _ _
def L_X5_simulate_28 (oo0 : Nat) (pp2 : Int32) (KK19 : xS → Option xR) : Nat → Int64 → Int32 → xS → Option xR
  | 0, _, _, _ => none
  | nn_24 + 1, zz21, zz22, σ23 => if pp2 ≤ zz22 then (KK19 σ23)
 else (xlet ((zz21 * 6364136223846793005) + 1442695040888963407) (fun (zz26 : Int64) => xbV (F_X5_takeTurn oo0 (((zz26.toUInt64 >>> ((33 : Int32).toInt64.toUInt64 &&& Int64.toUInt64 63)).toInt64).toInt32) σ23) (fun (σ27 : xS) => xlet (zz22 + 1) (fun (zz28 : Int32) => L_X5_simulate_28 oo0 pp2 KK19 nn_24 zz26 zz28 σ27))))
def F_X5_simulate (oo0 : Nat) (pp1 : Int64) (pp2 : Int32) (σ : xS) : Option xR :=
  xbI (F_X5_isWithin pp2 1 60 σ) (fun (zz2 : Int32) (σ1 : xS) => xbT (F_X5_demand zz2 2 σ1) (fun (zz4 : Int32) (σ3 : xS) => xbV (F_X3_copyFrom (oo0 + 652) (oo0 + 3) σ3) (fun (σ5 : xS) => L_X5_simulate_28 oo0 pp2 (fun (σ6 : xS) => xbI (F_X3_sumOfWriters (oo0 + 652) 4 σ6) (fun (zz8 : Int32) (σ7 : xS) => xbI (F_X3_sumOfWriters (oo0 + 3) 4 σ7) (fun (zz10 : Int32) (σ9 : xS) => xlet (zz8 - zz10) (fun (zz11 : Int32) => xbI (F_X3_sumOfWriters (oo0 + 652) 5 σ9) (fun (zz13 : Int32) (σ12 : xS) => xbI (F_X3_sumOfWriters (oo0 + 3) 5 σ12) (fun (zz15 : Int32) (σ14 : xS) => xlet (zz13 - zz15) (fun (zz16 : Int32) => xlet (if 999 < zz11 then 999 else zz11) (fun (zz17 : Int32) => xlet (if 9999 < zz16 then 9999 else zz16) (fun (zz18 : Int32) => some (0, ((10000 * zz17) + zz18), σ14)))))))))) 1000 pp1 0 σ5)))
abbrev rm_X5_simulate : Room := { frames := 8, cells := 1, slots := 6, locals := 148 }
set_option maxHeartbeats 4000000 in
set_option maxRecDepth 100000 in
theorem c_X5_simulate (l : Launch) {D : va_G} {ad : Nat → Nat} {N : Nat} {Sh : xSh} (hI : ∀ i j, i < N → j < N → ad i = ad j → i = j) (hst : l.stackTraces = false) (oo0 : Nat) (hh0 : xIs5 D ad N Sh oo0) (pp1 : Int64) (pp2 : Int32) (σ : xS) : xKT l yX5_simulate (Cond.code yX5_simulate cX5_simulate 8 (some .int) :: wG) rm_X5_simulate 1 6 D ad N Sh (xQcI D ad N Sh) [.ref (ad oo0), .long pp1, .int pp2] σ (F_X5_simulate oo0 pp1 pp2 σ) := by
  refine x_startT (own := RX5) (maxL := 8) (by decide) rfl rfl (Nat.le_of_ble_eq_true rfl) rfl hI (fun Γ hl hnL hX X => ?_)
  subst hl
  unfold F_X5_simulate
  refine xr_iload_n (pc := 0) X (i := 3) 2 rfl rfl dX5_simulate_0 ?_
  refine xr_iconst (pc := 1) X dX5_simulate_1 (v := 1) (by decide) ?_
  refine xr_bipush (pc := 2) X dX5_simulate_2 (v := 60) (by decide) ?_
  refine xr_callSI (na := 3) (pc := 4) X [.int pp2, .int 1, .int 60] (c_X5_isWithin Γ.2.1 hI pp2 1 60 σ) (wG_S wm_6_13 wm_6_11 wm_6_12 wm_1_2) rfl rfl rfl (by decide +kernel) ⟨Nat.le_of_ble_eq_true rfl, Nat.le_of_ble_eq_true rfl⟩ rfl rfl (Nat.le_of_ble_eq_true rfl) ⟨Nat.le_of_ble_eq_true rfl, Nat.le_of_ble_eq_true rfl⟩ dX5_simulate_4 (fun zz2 σ1 => ?_)
  refine xr_iconst (pc := 7) X dX5_simulate_7 (v := 2) (by decide) ?_
  refine xr_callTSV (na := 2) (pc := 8) X hX [.int zz2, .int 2] (c_X5_demand Γ.2.1 hI hst zz2 2 σ1) (wG_S wm_6_16 wm_6_14 wm_6_15 wm_1_2) rfl rfl rfl (by decide +kernel) ⟨Nat.le_of_ble_eq_true rfl, Nat.le_of_ble_eq_true rfl⟩ rfl rfl (Nat.le_of_ble_eq_true rfl) ⟨Nat.le_of_ble_eq_true rfl, Nat.le_of_ble_eq_true rfl⟩ ⟨Nat.le_of_ble_eq_true rfl, Nat.le_of_ble_eq_true rfl⟩ dX5_simulate_8 (fun zz4 σ3 => ?_)
  refine xr_aload_n (pc := 11) X (i := 0) 0 rfl rfl dX5_simulate_11 ?_
  refine xgX5 (pc := 12) X (oo0) hh0.1 5 wm_2_1 rfl rfl (by decide) rfl dX5_simulate_12 ?_
  refine xr_aload_n (pc := 15) X (i := 0) 0 rfl rfl dX5_simulate_15 ?_
  refine xgX5 (pc := 16) X (oo0) hh0.1 1 wm_1_17 rfl rfl (by decide) rfl dX5_simulate_16 ?_
  refine xr_callVV (na := 1) (pc := 19) X (oo0 + 652) [.ref (ad (oo0 + 3))] _ (c_X3_copyFrom Γ.2.1 hI (oo0 + 652) hh0.2.2.2.2.2.2.1 (oo0 + 3) hh0.2.2.1 σ3) (wG_V wm_16_20 wm_19_13 wm_16_18 wm_16_19 wm_1_16) rfl rfl rfl (by decide +kernel) ⟨Nat.le_of_ble_eq_true rfl, Nat.le_of_ble_eq_true rfl⟩ hh0.2.2.2.2.2.2.1.1.1 hh0.2.2.2.2.2.2.1.1.2 rfl (T := TX3) (C := RX3) rfl rfl rfl (Nat.le_of_ble_eq_true rfl) ⟨Nat.le_of_ble_eq_true rfl, Nat.le_of_ble_eq_true rfl⟩ dX5_simulate_19 (fun σ5 => ?_)
  refine xr_lload_n (pc := 22) X (i := 1) 1 rfl rfl dX5_simulate_22 ?_
  refine xr_lstore (pc := 23) X (i := 4) (lv2 := [(0, .ref (ad oo0)), (3, .int pp2), (4, .long pp1)]) [1, 3, 0] (Nat.le_of_ble_eq_true rfl) hnL rfl dX5_simulate_23 ?_
  refine xr_iconst (pc := 25) X dX5_simulate_25 (v := 0) (by decide) ?_
  refine xr_istore (pc := 26) X (i := 6) (lv2 := [(0, .ref (ad oo0)), (3, .int pp2), (4, .long pp1), (6, .int 0)]) [1, 2, 3, 0] (Nat.le_of_ble_eq_true rfl) hnL rfl dX5_simulate_26 ?_
  have hLL29 : ∀ (KK19 : xS → Option xR) (hKK20 : ∀ σ6, xM Γ D ad N Sh (xQT Γ D ad N Sh (xQcI D ad N Sh) 1 6) 1 6 (KK19 σ6) σ6 62 [(0, .ref (ad oo0))] []), ∀ (nn_24 : Nat) zz21 zz22 σ23, xM Γ D ad N Sh (xQT Γ D ad N Sh (xQcI D ad N Sh) 1 6) 1 6 (L_X5_simulate_28 oo0 pp2 KK19 nn_24 zz21 zz22 σ23) σ23 28 [(0, .ref (ad oo0)), (3, .int pp2), (4, .long zz21), (6, .int zz22)] [] := by
    intro KK19 hKK20 nn_24
    induction nn_24 with
    | zero => intro zz21 zz22 σ23; exact xM_none
    | succ nn_24 ihh25 =>
      intro zz21 zz22 σ23
      rw [L_X5_simulate_28]
      refine xr_iload (pc := 28) X (i := 6) 3 rfl dX5_simulate_28 ?_
      refine xr_iload_n (pc := 30) X (i := 3) 1 rfl rfl dX5_simulate_30 ?_
      refine xr_icmp_ge (pc := 31) X 62 (by decide) dX5_simulate_31 (fun _ => ?_) (fun _ => ?_)
      · exact x_sub [0] rfl (hKK20  _)
      refine xr_lload (pc := 34) X (i := 4) 2 rfl dX5_simulate_34 ?_
      refine xr_ldc2 (pc := 36) X dX5_simulate_36 (List.mem_cons_of_mem _ wm_23_3) ?_
      refine xr_lmul (pc := 39) X dX5_simulate_39 ?_
      refine xr_ldc2 (pc := 40) X dX5_simulate_40 (List.mem_cons_of_mem _ wm_23_4) ?_
      refine xr_ladd (pc := 43) X dX5_simulate_43 ?_
      refine x_letl (fun zz26 => ?_)
      refine xr_lstore (pc := 44) X (i := 4) (lv2 := [(0, .ref (ad oo0)), (3, .int pp2), (4, .long zz26), (6, .int zz22)]) [1, 2, 0, 3] (Nat.le_of_ble_eq_true rfl) hnL rfl dX5_simulate_44 ?_
      refine xr_aload_n (pc := 46) X (i := 0) 0 rfl rfl dX5_simulate_46 ?_
      refine xr_lload (pc := 47) X (i := 4) 2 rfl dX5_simulate_47 ?_
      refine xr_bipush (pc := 49) X dX5_simulate_49 (v := 33) (by decide) ?_
      refine xr_lushr (pc := 51) X dX5_simulate_51 ?_
      refine xr_l2i (pc := 52) X dX5_simulate_52 ?_
      refine xr_callVV (na := 1) (pc := 53) X (oo0) [.int (((zz26.toUInt64 >>> ((33 : Int32).toInt64.toUInt64 &&& Int64.toUInt64 63)).toInt64).toInt32)] _ (c_X5_takeTurn Γ.2.1 hI oo0 hh0 (((zz26.toUInt64 >>> ((33 : Int32).toInt64.toUInt64 &&& Int64.toUInt64 63)).toInt64).toInt32) σ23) (wG_V wm_23_8 wm_23_5 wm_23_6 wm_23_7 wm_1_2) rfl rfl rfl (by decide +kernel) ⟨Nat.le_of_ble_eq_true rfl, Nat.le_of_ble_eq_true rfl⟩ hh0.1.1 hh0.1.2 rfl (T := TX5) (C := RX5) rfl rfl rfl (Nat.le_of_ble_eq_true rfl) ⟨Nat.le_of_ble_eq_true rfl, Nat.le_of_ble_eq_true rfl⟩ dX5_simulate_53 (fun σ27 => ?_)
      refine xr_iinc (pc := 56) X (i := 6) (j := 3) [1, 2, 3, 0] (Nat.le_of_ble_eq_true rfl) hnL rfl rfl (fun zz28 => [(0, .ref (ad oo0)), (3, .int pp2), (4, .long zz26), (6, .int zz28)]) (fun _ => rfl) dX5_simulate_56 (fun zz28 => ?_)
      refine xr_goto (pc := 59) X 28 (by decide) dX5_simulate_59 ?_
      exact ihh25 _ _ _
  refine hLL29 _ (fun σ6 => ?_) _ _ _ _
  refine xr_aload_n (pc := 62) X (i := 0) 0 rfl rfl dX5_simulate_62 ?_
  refine xgX5 (pc := 63) X (oo0) hh0.1 5 wm_2_1 rfl rfl (by decide) rfl dX5_simulate_63 ?_
  refine xr_iconst (pc := 66) X dX5_simulate_66 (v := 4) (by decide) ?_
  refine xr_callVI (na := 1) (pc := 67) X (oo0 + 652) [.int 4] _ (c_X3_sumOfWriters Γ.2.1 hI (oo0 + 652) hh0.2.2.2.2.2.2.1 4 σ6) (wG_V wm_13_14 wm_13_11 wm_13_12 wm_13_13 wm_1_16) rfl rfl rfl (by decide +kernel) ⟨Nat.le_of_ble_eq_true rfl, Nat.le_of_ble_eq_true rfl⟩ hh0.2.2.2.2.2.2.1.1.1 hh0.2.2.2.2.2.2.1.1.2 rfl (T := TX3) (C := RX3) rfl rfl rfl (Nat.le_of_ble_eq_true rfl) ⟨Nat.le_of_ble_eq_true rfl, Nat.le_of_ble_eq_true rfl⟩ dX5_simulate_67 (fun zz8 σ7 => ?_)
  refine xr_aload_n (pc := 70) X (i := 0) 0 rfl rfl dX5_simulate_70 ?_
  refine xgX5 (pc := 71) X (oo0) hh0.1 1 wm_1_17 rfl rfl (by decide) rfl dX5_simulate_71 ?_
  refine xr_iconst (pc := 74) X dX5_simulate_74 (v := 4) (by decide) ?_
  refine xr_callVI (na := 1) (pc := 75) X (oo0 + 3) [.int 4] _ (c_X3_sumOfWriters Γ.2.1 hI (oo0 + 3) hh0.2.2.1 4 σ7) (wG_V wm_13_14 wm_13_11 wm_13_12 wm_13_13 wm_1_16) rfl rfl rfl (by decide +kernel) ⟨Nat.le_of_ble_eq_true rfl, Nat.le_of_ble_eq_true rfl⟩ hh0.2.2.1.1.1 hh0.2.2.1.1.2 rfl (T := TX3) (C := RX3) rfl rfl rfl (Nat.le_of_ble_eq_true rfl) ⟨Nat.le_of_ble_eq_true rfl, Nat.le_of_ble_eq_true rfl⟩ dX5_simulate_75 (fun zz10 σ9 => ?_)
  refine xr_isub (pc := 78) X dX5_simulate_78 ?_
  refine x_leti (fun zz11 => ?_)
  refine xr_istore (pc := 79) X (i := 6) (lv2 := [(0, .ref (ad oo0)), (6, .int zz11)]) [1, 0] (Nat.le_of_ble_eq_true rfl) hnL rfl dX5_simulate_79 ?_
  refine xr_aload_n (pc := 81) X (i := 0) 0 rfl rfl dX5_simulate_81 ?_
  refine xgX5 (pc := 82) X (oo0) hh0.1 5 wm_2_1 rfl rfl (by decide) rfl dX5_simulate_82 ?_
  refine xr_iconst (pc := 85) X dX5_simulate_85 (v := 5) (by decide) ?_
  refine xr_callVI (na := 1) (pc := 86) X (oo0 + 652) [.int 5] _ (c_X3_sumOfWriters Γ.2.1 hI (oo0 + 652) hh0.2.2.2.2.2.2.1 5 σ9) (wG_V wm_13_14 wm_13_11 wm_13_12 wm_13_13 wm_1_16) rfl rfl rfl (by decide +kernel) ⟨Nat.le_of_ble_eq_true rfl, Nat.le_of_ble_eq_true rfl⟩ hh0.2.2.2.2.2.2.1.1.1 hh0.2.2.2.2.2.2.1.1.2 rfl (T := TX3) (C := RX3) rfl rfl rfl (Nat.le_of_ble_eq_true rfl) ⟨Nat.le_of_ble_eq_true rfl, Nat.le_of_ble_eq_true rfl⟩ dX5_simulate_86 (fun zz13 σ12 => ?_)
  refine xr_aload_n (pc := 89) X (i := 0) 0 rfl rfl dX5_simulate_89 ?_
  refine xgX5 (pc := 90) X (oo0) hh0.1 1 wm_1_17 rfl rfl (by decide) rfl dX5_simulate_90 ?_
  refine xr_iconst (pc := 93) X dX5_simulate_93 (v := 5) (by decide) ?_
  refine xr_callVI (na := 1) (pc := 94) X (oo0 + 3) [.int 5] _ (c_X3_sumOfWriters Γ.2.1 hI (oo0 + 3) hh0.2.2.1 5 σ12) (wG_V wm_13_14 wm_13_11 wm_13_12 wm_13_13 wm_1_16) rfl rfl rfl (by decide +kernel) ⟨Nat.le_of_ble_eq_true rfl, Nat.le_of_ble_eq_true rfl⟩ hh0.2.2.1.1.1 hh0.2.2.1.1.2 rfl (T := TX3) (C := RX3) rfl rfl rfl (Nat.le_of_ble_eq_true rfl) ⟨Nat.le_of_ble_eq_true rfl, Nat.le_of_ble_eq_true rfl⟩ dX5_simulate_94 (fun zz15 σ14 => ?_)
  refine xr_isub (pc := 97) X dX5_simulate_97 ?_
  refine x_leti (fun zz16 => ?_)
  refine xr_istore (pc := 98) X (i := 7) (lv2 := [(6, .int zz11), (7, .int zz16)]) [2, 0] (Nat.le_of_ble_eq_true rfl) hnL rfl dX5_simulate_98 ?_
  refine xr_sipush (pc := 100) X dX5_simulate_100 (v := 10000) (by decide) ?_
  refine xr_iload (pc := 103) X (i := 6) 0 rfl dX5_simulate_103 ?_
  refine xr_sipush (pc := 105) X dX5_simulate_105 (v := 999) (by decide) ?_
  refine xr_min (pc := 108) X (List.mem_cons_of_mem _ wm_22_19) (List.mem_cons_of_mem _ wm_16_15) (List.mem_cons_of_mem _ wm_3_12) (List.mem_cons_of_mem _ wm_16_16) (Nat.le_of_ble_eq_true rfl) (Nat.le_of_ble_eq_true rfl) (Nat.le_of_ble_eq_true rfl) (Nat.le_of_ble_eq_true rfl) dX5_simulate_108 ?_
  refine x_leti (fun zz17 => ?_)
  refine xr_imul (pc := 111) X dX5_simulate_111 ?_
  refine xr_iload (pc := 112) X (i := 7) 1 rfl dX5_simulate_112 ?_
  refine xr_sipush (pc := 114) X dX5_simulate_114 (v := 9999) (by decide) ?_
  refine xr_min (pc := 117) X (List.mem_cons_of_mem _ wm_22_19) (List.mem_cons_of_mem _ wm_16_15) (List.mem_cons_of_mem _ wm_3_12) (List.mem_cons_of_mem _ wm_16_16) (Nat.le_of_ble_eq_true rfl) (Nat.le_of_ble_eq_true rfl) (Nat.le_of_ble_eq_true rfl) (Nat.le_of_ble_eq_true rfl) dX5_simulate_117 ?_
  refine x_leti (fun zz18 => ?_)
  refine xr_iadd (pc := 120) X dX5_simulate_120 ?_
  exact xr_tiret (pc := 121) X (Nat.le_of_ble_eq_true rfl) (Nat.le_of_ble_eq_true rfl) dX5_simulate_121
def F_X5_save (oo0 : Nat) (pp1 : Int32) (σ : xS) : Option xR :=
  xbI (F_X5_isWithin pp1 0 1 σ) (fun (zz2 : Int32) (σ1 : xS) => xbT (F_X5_demand zz2 1 σ1) (fun (zz4 : Int32) (σ3 : xS) => if xin pp1 2 = true then (xbV (F_X3_copyFrom (oo0 + 738 + 43 * pp1.toNatClampNeg) (oo0 + 3) σ3) (fun (σ6 : xS) => if xin pp1 2 = true then (xlet (xu σ6 (oo0 + 651) pp1.toNatClampNeg (vp_nar .boolean (1 : Int32))) (fun (σ7 : xS) => some (0, (σ7 (oo0 + 3) 1), σ7))) else none)) else none))
abbrev rm_X5_save : Room := { frames := 8, cells := 1, slots := 6, locals := 122 }
set_option maxHeartbeats 4000000 in
set_option maxRecDepth 100000 in
theorem c_X5_save (l : Launch) {D : va_G} {ad : Nat → Nat} {N : Nat} {Sh : xSh} (hI : ∀ i j, i < N → j < N → ad i = ad j → i = j) (hst : l.stackTraces = false) (oo0 : Nat) (hh0 : xIs5 D ad N Sh oo0) (pp1 : Int32) (σ : xS) : xKT l yX5_save (Cond.code yX5_save cX5_save 2 (some .int) :: wG) rm_X5_save 1 6 D ad N Sh (xQcI D ad N Sh) [.ref (ad oo0), .int pp1] σ (F_X5_save oo0 pp1 σ) := by
  refine x_startT (own := RX5) (maxL := 2) (by decide) rfl rfl (Nat.le_of_ble_eq_true rfl) rfl hI (fun Γ hl hnL hX X => ?_)
  subst hl
  unfold F_X5_save
  refine xr_iload_n (pc := 0) X (i := 1) 1 rfl rfl dX5_save_0 ?_
  refine xr_iconst (pc := 1) X dX5_save_1 (v := 0) (by decide) ?_
  refine xr_iconst (pc := 2) X dX5_save_2 (v := 1) (by decide) ?_
  refine xr_callSI (na := 3) (pc := 3) X [.int pp1, .int 0, .int 1] (c_X5_isWithin Γ.2.1 hI pp1 0 1 σ) (wG_S wm_6_13 wm_6_11 wm_6_12 wm_1_2) rfl rfl rfl (by decide +kernel) ⟨Nat.le_of_ble_eq_true rfl, Nat.le_of_ble_eq_true rfl⟩ rfl rfl (Nat.le_of_ble_eq_true rfl) ⟨Nat.le_of_ble_eq_true rfl, Nat.le_of_ble_eq_true rfl⟩ dX5_save_3 (fun zz2 σ1 => ?_)
  refine xr_iconst (pc := 6) X dX5_save_6 (v := 1) (by decide) ?_
  refine xr_callTSV (na := 2) (pc := 7) X hX [.int zz2, .int 1] (c_X5_demand Γ.2.1 hI hst zz2 1 σ1) (wG_S wm_6_16 wm_6_14 wm_6_15 wm_1_2) rfl rfl rfl (by decide +kernel) ⟨Nat.le_of_ble_eq_true rfl, Nat.le_of_ble_eq_true rfl⟩ rfl rfl (Nat.le_of_ble_eq_true rfl) ⟨Nat.le_of_ble_eq_true rfl, Nat.le_of_ble_eq_true rfl⟩ ⟨Nat.le_of_ble_eq_true rfl, Nat.le_of_ble_eq_true rfl⟩ dX5_save_7 (fun zz4 σ3 => ?_)
  refine xr_aload_n (pc := 10) X (i := 0) 0 rfl rfl dX5_save_10 ?_
  refine xgX5 (pc := 11) X (oo0) hh0.1 3 wm_1_22 rfl rfl (by decide) rfl dX5_save_11 ?_
  refine xr_iload_n (pc := 14) X (i := 1) 1 rfl rfl dX5_save_14 ?_
  refine xr_aldPost (pc := 15) X (oo0 + 650) 2 (fun j => oo0 + 738 + 43 * j) hh0.2.2.2.2.1.1 hh0.2.2.2.2.1.2 (fun _ hj => if_pos hj) dX5_save_15 (fun haa5 => ?_)
  refine xr_aload_n (pc := 16) X (i := 0) 0 rfl rfl dX5_save_16 ?_
  refine xgX5 (pc := 17) X (oo0) hh0.1 1 wm_1_17 rfl rfl (by decide) rfl dX5_save_17 ?_
  refine xr_callVV (na := 1) (pc := 20) X (oo0 + 738 + 43 * pp1.toNatClampNeg) [.ref (ad (oo0 + 3))] _ (c_X3_copyFrom Γ.2.1 hI (oo0 + 738 + 43 * pp1.toNatClampNeg) ((hh0.2.2.2.2.2.2.2.2 _ (xin_lt haa5))) (oo0 + 3) hh0.2.2.1 σ3) (wG_V wm_16_20 wm_19_13 wm_16_18 wm_16_19 wm_1_16) rfl rfl rfl (by decide +kernel) ⟨Nat.le_of_ble_eq_true rfl, Nat.le_of_ble_eq_true rfl⟩ (hh0.2.2.2.2.2.2.2.2 _ (xin_lt haa5)).1.1 (hh0.2.2.2.2.2.2.2.2 _ (xin_lt haa5)).1.2 rfl (T := TX3) (C := RX3) rfl rfl rfl (Nat.le_of_ble_eq_true rfl) ⟨Nat.le_of_ble_eq_true rfl, Nat.le_of_ble_eq_true rfl⟩ dX5_save_20 (fun σ6 => ?_)
  refine xr_aload_n (pc := 23) X (i := 0) 0 rfl rfl dX5_save_23 ?_
  refine xgX5 (pc := 24) X (oo0) hh0.1 4 wm_2_0 rfl rfl (by decide) rfl dX5_save_24 ?_
  refine xr_iload_n (pc := 27) X (i := 1) 1 rfl rfl dX5_save_27 ?_
  refine xr_iconst (pc := 28) X dX5_save_28 (v := 1) (by decide) ?_
  refine xr_zast (pc := 29) X (oo0 + 651) (2) hh0.2.2.2.2.2.1.1 hh0.2.2.2.2.2.1.2 dX5_save_29 (fun σ7 => ?_)
  refine xr_aload_n (pc := 30) X (i := 0) 0 rfl rfl dX5_save_30 ?_
  refine xgX5 (pc := 31) X (oo0) hh0.1 1 wm_1_17 rfl rfl (by decide) rfl dX5_save_31 ?_
  refine xgNX3 (pc := 34) X (oo0 + 3) hh0.2.2.1.1 1 0 rfl rfl rfl (by decide) rfl dX5_save_34 ?_
  exact xr_tiret (pc := 37) X (Nat.le_of_ble_eq_true rfl) (Nat.le_of_ble_eq_true rfl) dX5_save_37
def F_X5_restore (oo0 : Nat) (pp1 : Int32) (σ : xS) : Option xR :=
  xbI (F_X5_isWithin pp1 0 1 σ) (fun (zz2 : Int32) (σ1 : xS) => xbT (F_X5_demand zz2 1 σ1) (fun (zz4 : Int32) (σ3 : xS) => if xin pp1 2 = true then (xlet (σ3 (oo0 + 651) pp1.toNatClampNeg) (fun (zz5 : Int32) => xbT (F_X5_demand zz5 3 σ3) (fun (zz7 : Int32) (σ6 : xS) => if xin pp1 2 = true then (xbV (F_X3_copyFrom (oo0 + 3) (oo0 + 738 + 43 * pp1.toNatClampNeg) σ6) (fun (σ9 : xS) => xbV (F_X1_forgetAll (oo0 + 46) σ9) (fun (σ10 : xS) => some (0, (σ10 (oo0 + 3) 1), σ10)))) else none))) else none))
abbrev rm_X5_restore : Room := { frames := 8, cells := 2, slots := 12, locals := 122 }
set_option maxHeartbeats 4000000 in
set_option maxRecDepth 100000 in
theorem c_X5_restore (l : Launch) {D : va_G} {ad : Nat → Nat} {N : Nat} {Sh : xSh} (hI : ∀ i j, i < N → j < N → ad i = ad j → i = j) (hst : l.stackTraces = false) (oo0 : Nat) (hh0 : xIs5 D ad N Sh oo0) (pp1 : Int32) (σ : xS) : xKT l yX5_restore (Cond.code yX5_restore cX5_restore 2 (some .int) :: wG) rm_X5_restore 2 12 D ad N Sh (xQcI D ad N Sh) [.ref (ad oo0), .int pp1] σ (F_X5_restore oo0 pp1 σ) := by
  refine x_startT (own := RX5) (maxL := 2) (by decide) rfl rfl (Nat.le_of_ble_eq_true rfl) rfl hI (fun Γ hl hnL hX X => ?_)
  subst hl
  unfold F_X5_restore
  refine xr_iload_n (pc := 0) X (i := 1) 1 rfl rfl dX5_restore_0 ?_
  refine xr_iconst (pc := 1) X dX5_restore_1 (v := 0) (by decide) ?_
  refine xr_iconst (pc := 2) X dX5_restore_2 (v := 1) (by decide) ?_
  refine xr_callSI (na := 3) (pc := 3) X [.int pp1, .int 0, .int 1] (c_X5_isWithin Γ.2.1 hI pp1 0 1 σ) (wG_S wm_6_13 wm_6_11 wm_6_12 wm_1_2) rfl rfl rfl (by decide +kernel) ⟨Nat.le_of_ble_eq_true rfl, Nat.le_of_ble_eq_true rfl⟩ rfl rfl (Nat.le_of_ble_eq_true rfl) ⟨Nat.le_of_ble_eq_true rfl, Nat.le_of_ble_eq_true rfl⟩ dX5_restore_3 (fun zz2 σ1 => ?_)
  refine xr_iconst (pc := 6) X dX5_restore_6 (v := 1) (by decide) ?_
  refine xr_callTSV (na := 2) (pc := 7) X hX [.int zz2, .int 1] (c_X5_demand Γ.2.1 hI hst zz2 1 σ1) (wG_S wm_6_16 wm_6_14 wm_6_15 wm_1_2) rfl rfl rfl (by decide +kernel) ⟨Nat.le_of_ble_eq_true rfl, Nat.le_of_ble_eq_true rfl⟩ rfl rfl (Nat.le_of_ble_eq_true rfl) ⟨Nat.le_of_ble_eq_true rfl, Nat.le_of_ble_eq_true rfl⟩ ⟨Nat.le_of_ble_eq_true rfl, Nat.le_of_ble_eq_true rfl⟩ dX5_restore_7 (fun zz4 σ3 => ?_)
  refine xr_aload_n (pc := 10) X (i := 0) 0 rfl rfl dX5_restore_10 ?_
  refine xgX5 (pc := 11) X (oo0) hh0.1 4 wm_2_0 rfl rfl (by decide) rfl dX5_restore_11 ?_
  refine xr_iload_n (pc := 14) X (i := 1) 1 rfl rfl dX5_restore_14 ?_
  refine xr_zald (pc := 15) X (oo0 + 651) (2) hh0.2.2.2.2.2.1.1 hh0.2.2.2.2.2.1.2 dX5_restore_15 (fun zz5 => ?_)
  refine xr_iconst (pc := 16) X dX5_restore_16 (v := 3) (by decide) ?_
  refine xr_callTSV (na := 2) (pc := 17) X hX [.int zz5, .int 3] (c_X5_demand Γ.2.1 hI hst zz5 3 σ3) (wG_S wm_6_16 wm_6_14 wm_6_15 wm_1_2) rfl rfl rfl (by decide +kernel) ⟨Nat.le_of_ble_eq_true rfl, Nat.le_of_ble_eq_true rfl⟩ rfl rfl (Nat.le_of_ble_eq_true rfl) ⟨Nat.le_of_ble_eq_true rfl, Nat.le_of_ble_eq_true rfl⟩ ⟨Nat.le_of_ble_eq_true rfl, Nat.le_of_ble_eq_true rfl⟩ dX5_restore_17 (fun zz7 σ6 => ?_)
  refine xr_aload_n (pc := 20) X (i := 0) 0 rfl rfl dX5_restore_20 ?_
  refine xgX5 (pc := 21) X (oo0) hh0.1 1 wm_1_17 rfl rfl (by decide) rfl dX5_restore_21 ?_
  refine xr_aload_n (pc := 24) X (i := 0) 0 rfl rfl dX5_restore_24 ?_
  refine xgX5 (pc := 25) X (oo0) hh0.1 3 wm_1_22 rfl rfl (by decide) rfl dX5_restore_25 ?_
  refine xr_iload_n (pc := 28) X (i := 1) 1 rfl rfl dX5_restore_28 ?_
  refine xr_aldPost (pc := 29) X (oo0 + 650) 2 (fun j => oo0 + 738 + 43 * j) hh0.2.2.2.2.1.1 hh0.2.2.2.2.1.2 (fun _ hj => if_pos hj) dX5_restore_29 (fun haa8 => ?_)
  refine xr_callVV (na := 1) (pc := 30) X (oo0 + 3) [.ref (ad (oo0 + 738 + 43 * pp1.toNatClampNeg))] _ (c_X3_copyFrom Γ.2.1 hI (oo0 + 3) hh0.2.2.1 (oo0 + 738 + 43 * pp1.toNatClampNeg) ((hh0.2.2.2.2.2.2.2.2 _ (xin_lt haa8))) σ6) (wG_V wm_16_20 wm_19_13 wm_16_18 wm_16_19 wm_1_16) rfl rfl rfl (by decide +kernel) ⟨Nat.le_of_ble_eq_true rfl, Nat.le_of_ble_eq_true rfl⟩ hh0.2.2.1.1.1 hh0.2.2.1.1.2 rfl (T := TX3) (C := RX3) rfl rfl rfl (Nat.le_of_ble_eq_true rfl) ⟨Nat.le_of_ble_eq_true rfl, Nat.le_of_ble_eq_true rfl⟩ dX5_restore_30 (fun σ9 => ?_)
  refine xr_aload_n (pc := 33) X (i := 0) 0 rfl rfl dX5_restore_33 ?_
  refine xgX5 (pc := 34) X (oo0) hh0.1 2 wm_1_21 rfl rfl (by decide) rfl dX5_restore_34 ?_
  refine xr_callVV (na := 0) (pc := 37) X (oo0 + 46) [] _ (c_X1_forgetAll Γ.2.1 hI (oo0 + 46) hh0.2.2.2.1 σ9) (wG_V wm_13_3 wm_13_0 wm_13_1 wm_13_2 wm_1_20) rfl rfl rfl (by decide +kernel) ⟨Nat.le_of_ble_eq_true rfl, Nat.le_of_ble_eq_true rfl⟩ hh0.2.2.2.1.1.1 hh0.2.2.2.1.1.2 rfl (T := TX1) (C := RX1) rfl rfl rfl (Nat.le_of_ble_eq_true rfl) ⟨Nat.le_of_ble_eq_true rfl, Nat.le_of_ble_eq_true rfl⟩ dX5_restore_37 (fun σ10 => ?_)
  refine xr_aload_n (pc := 40) X (i := 0) 0 rfl rfl dX5_restore_40 ?_
  refine xgX5 (pc := 41) X (oo0) hh0.1 1 wm_1_17 rfl rfl (by decide) rfl dX5_restore_41 ?_
  refine xgNX3 (pc := 44) X (oo0 + 3) hh0.2.2.1.1 1 0 rfl rfl rfl (by decide) rfl dX5_restore_44 ?_
  exact xr_tiret (pc := 47) X (Nat.le_of_ble_eq_true rfl) (Nat.le_of_ble_eq_true rfl) dX5_restore_47
