def F_X2_begin (oo0 : Nat) (σ : xS) : Option xS :=
  xlet (xu σ (oo0 + 1) 3 0) (fun (σ1 : xS) => xlet (xu σ1 oo0 2 0) (fun (σ2 : xS) => xlet (xu σ2 oo0 3 1) (fun (σ3 : xS) => xlet (xu σ3 oo0 4 0) (fun (σ4 : xS) => xlet (xu σ4 oo0 5 0) (fun (σ5 : xS) => xlet (xu σ5 oo0 6 0) (fun (σ6 : xS) => xlet (xu σ6 oo0 7 0) (fun (σ7 : xS) => xlet (xu σ7 (oo0 + 5) 3 0) (fun (σ8 : xS) => xlet (xu σ8 oo0 9 0) (fun (σ9 : xS) => xlet (xu σ9 oo0 10 0) (fun (σ10 : xS) => xlet (xu σ10 oo0 11 0) (fun (σ11 : xS) => xlet (xu σ11 oo0 12 ((-1))) (fun (σ12 : xS) => xlet (xu σ12 oo0 13 0) (fun (σ13 : xS) => some σ13)))))))))))))
abbrev rm_X2_begin : Room := { frames := 0, cells := 0, slots := 0, locals := 0 }
set_option maxHeartbeats 4000000 in
set_option maxRecDepth 100000 in
theorem c_X2_begin (l : Launch) {D : va_G} {ad : Nat → Nat} {N : Nat} {Sh : xSh} (hI : ∀ i j, i < N → j < N → ad i = ad j → i = j) (oo0 : Nat) (hh0 : xIs2 D ad N Sh oo0) (σ : xS) : xKV l yX2_begin (Cond.code yX2_begin cX2_begin 1 none :: wG) rm_X2_begin 0 0 D ad N Sh [.ref (ad oo0)] σ (F_X2_begin oo0 σ) := by
  refine x_startV (own := RX2) (maxL := 1) (by decide) rfl rfl (Nat.le_of_ble_eq_true rfl) rfl hI (fun Γ hl hnL X => ?_)
  subst hl
  unfold F_X2_begin
  refine xr_aload_n (pc := 0) X (i := 0) 0 rfl rfl dX2_begin_0 ?_
  refine xgX2 (pc := 1) X (oo0) hh0.1 1 wm_3_22 rfl rfl (by decide) rfl dX2_begin_1 ?_
  refine xr_iconst (pc := 4) X dX2_begin_4 (v := 0) (by decide) ?_
  refine xpNX0 (pc := 5) X (oo0 + 1) hh0.2.1.1 3 16 rfl (ty := .int) rfl (fun _ => rfl) rfl (by decide +kernel) rfl rfl (Nat.le_of_ble_eq_true rfl) (by decide) rfl dX2_begin_5 (fun σ1 => ?_)
  refine xr_aload_n (pc := 8) X (i := 0) 0 rfl rfl dX2_begin_8 ?_
  refine xr_iconst (pc := 9) X dX2_begin_9 (v := 0) (by decide) ?_
  refine xpX2 (pc := 10) X (oo0) hh0.1 2 wm_4_16 (ty := .int) rfl (fun _ => rfl) rfl (by decide +kernel) rfl rfl (Nat.le_of_ble_eq_true rfl) (by decide) rfl dX2_begin_10 (fun σ2 => ?_)
  refine xr_aload_n (pc := 13) X (i := 0) 0 rfl rfl dX2_begin_13 ?_
  refine xr_iconst (pc := 14) X dX2_begin_14 (v := 1) (by decide) ?_
  refine xpX2 (pc := 15) X (oo0) hh0.1 3 wm_4_17 (ty := .boolean) rfl (fun _ => rfl) rfl (by decide +kernel) rfl rfl (Nat.le_of_ble_eq_true rfl) (by decide) rfl dX2_begin_15 (fun σ3 => ?_)
  refine xr_aload_n (pc := 18) X (i := 0) 0 rfl rfl dX2_begin_18 ?_
  refine xr_iconst (pc := 19) X dX2_begin_19 (v := 0) (by decide) ?_
  refine xpX2 (pc := 20) X (oo0) hh0.1 4 wm_4_18 (ty := .int) rfl (fun _ => rfl) rfl (by decide +kernel) rfl rfl (Nat.le_of_ble_eq_true rfl) (by decide) rfl dX2_begin_20 (fun σ4 => ?_)
  refine xr_aload_n (pc := 23) X (i := 0) 0 rfl rfl dX2_begin_23 ?_
  refine xr_iconst (pc := 24) X dX2_begin_24 (v := 0) (by decide) ?_
  refine xpX2 (pc := 25) X (oo0) hh0.1 5 wm_4_19 (ty := .int) rfl (fun _ => rfl) rfl (by decide +kernel) rfl rfl (Nat.le_of_ble_eq_true rfl) (by decide) rfl dX2_begin_25 (fun σ5 => ?_)
  refine xr_aload_n (pc := 28) X (i := 0) 0 rfl rfl dX2_begin_28 ?_
  refine xr_iconst (pc := 29) X dX2_begin_29 (v := 0) (by decide) ?_
  refine xpX2 (pc := 30) X (oo0) hh0.1 6 wm_4_20 (ty := .int) rfl (fun _ => rfl) rfl (by decide +kernel) rfl rfl (Nat.le_of_ble_eq_true rfl) (by decide) rfl dX2_begin_30 (fun σ6 => ?_)
  refine xr_aload_n (pc := 33) X (i := 0) 0 rfl rfl dX2_begin_33 ?_
  refine xr_iconst (pc := 34) X dX2_begin_34 (v := 0) (by decide) ?_
  refine xpX2 (pc := 35) X (oo0) hh0.1 7 wm_4_21 (ty := .int) rfl (fun _ => rfl) rfl (by decide +kernel) rfl rfl (Nat.le_of_ble_eq_true rfl) (by decide) rfl dX2_begin_35 (fun σ7 => ?_)
  refine xr_aload_n (pc := 38) X (i := 0) 0 rfl rfl dX2_begin_38 ?_
  refine xgX2 (pc := 39) X (oo0) hh0.1 8 wm_3_23 rfl rfl (by decide) rfl dX2_begin_39 ?_
  refine xr_iconst (pc := 42) X dX2_begin_42 (v := 0) (by decide) ?_
  refine xpNX0 (pc := 43) X (oo0 + 5) hh0.2.2.1 3 16 rfl (ty := .int) rfl (fun _ => rfl) rfl (by decide +kernel) rfl rfl (Nat.le_of_ble_eq_true rfl) (by decide) rfl dX2_begin_43 (fun σ8 => ?_)
  refine xr_aload_n (pc := 46) X (i := 0) 0 rfl rfl dX2_begin_46 ?_
  refine xr_iconst (pc := 47) X dX2_begin_47 (v := 0) (by decide) ?_
  refine xpX2 (pc := 48) X (oo0) hh0.1 9 wm_4_22 (ty := .int) rfl (fun _ => rfl) rfl (by decide +kernel) rfl rfl (Nat.le_of_ble_eq_true rfl) (by decide) rfl dX2_begin_48 (fun σ9 => ?_)
  refine xr_aload_n (pc := 51) X (i := 0) 0 rfl rfl dX2_begin_51 ?_
  refine xr_iconst (pc := 52) X dX2_begin_52 (v := 0) (by decide) ?_
  refine xpX2 (pc := 53) X (oo0) hh0.1 10 wm_4_23 (ty := .int) rfl (fun _ => rfl) rfl (by decide +kernel) rfl rfl (Nat.le_of_ble_eq_true rfl) (by decide) rfl dX2_begin_53 (fun σ10 => ?_)
  refine xr_aload_n (pc := 56) X (i := 0) 0 rfl rfl dX2_begin_56 ?_
  refine xr_iconst (pc := 57) X dX2_begin_57 (v := 0) (by decide) ?_
  refine xpX2 (pc := 58) X (oo0) hh0.1 11 wm_5_0 (ty := .int) rfl (fun _ => rfl) rfl (by decide +kernel) rfl rfl (Nat.le_of_ble_eq_true rfl) (by decide) rfl dX2_begin_58 (fun σ11 => ?_)
  refine xr_aload_n (pc := 61) X (i := 0) 0 rfl rfl dX2_begin_61 ?_
  refine xr_iconst (pc := 62) X dX2_begin_62 (v := (-1)) (by decide) ?_
  refine xpX2 (pc := 63) X (oo0) hh0.1 12 wm_5_1 (ty := .int) rfl (fun _ => rfl) rfl (by decide +kernel) rfl rfl (Nat.le_of_ble_eq_true rfl) (by decide) rfl dX2_begin_63 (fun σ12 => ?_)
  refine xr_aload_n (pc := 66) X (i := 0) 0 rfl rfl dX2_begin_66 ?_
  refine xr_iconst (pc := 67) X dX2_begin_67 (v := 0) (by decide) ?_
  refine xpX2 (pc := 68) X (oo0) hh0.1 13 wm_5_2 (ty := .int) rfl (fun _ => rfl) rfl (by decide +kernel) rfl rfl (Nat.le_of_ble_eq_true rfl) (by decide) rfl dX2_begin_68 (fun σ13 => ?_)
  exact xr_vret (pc := 71) X (Nat.le_refl _) (Nat.le_refl _) dX2_begin_71
def F_X2_copyFrom (oo0 : Nat) (oo1 : Nat) (σ : xS) : Option xS :=
  xbV (F_X0_copyFrom 6 (oo0 + 1) 6 (oo1 + 1) σ) (fun (σ1 : xS) => xlet (xu σ1 oo0 2 (σ1 oo1 2)) (fun (σ2 : xS) => if vp_nar .boolean (σ2 oo1 3) = (σ2 oo1 3) then (xlet (xu σ2 oo0 3 (σ2 oo1 3)) (fun (σ3 : xS) => xlet (xu σ3 oo0 4 (σ3 oo1 4)) (fun (σ4 : xS) => xlet (xu σ4 oo0 5 (σ4 oo1 5)) (fun (σ5 : xS) => xlet (xu σ5 oo0 6 (σ5 oo1 6)) (fun (σ6 : xS) => xlet (xu σ6 oo0 7 (σ6 oo1 7)) (fun (σ7 : xS) => xbV (F_X0_copyFrom 6 (oo0 + 5) 6 (oo1 + 5) σ7) (fun (σ8 : xS) => xlet (xu σ8 oo0 9 (σ8 oo1 9)) (fun (σ9 : xS) => xlet (xu σ9 oo0 10 (σ9 oo1 10)) (fun (σ10 : xS) => xlet (xu σ10 oo0 11 (σ10 oo1 11)) (fun (σ11 : xS) => xlet (xu σ11 oo0 12 (σ11 oo1 12)) (fun (σ12 : xS) => xlet (xu σ12 oo0 13 (σ12 oo1 13)) (fun (σ13 : xS) => some σ13)))))))))))) else none))
abbrev rm_X2_copyFrom : Room := { frames := 2, cells := 0, slots := 0, locals := 43 }
set_option maxHeartbeats 4000000 in
set_option maxRecDepth 100000 in
theorem c_X2_copyFrom (l : Launch) {D : va_G} {ad : Nat → Nat} {N : Nat} {Sh : xSh} (hI : ∀ i j, i < N → j < N → ad i = ad j → i = j) (oo0 : Nat) (hh0 : xIs2 D ad N Sh oo0) (oo1 : Nat) (hh1 : xIs2 D ad N Sh oo1) (σ : xS) : xKV l yX2_copyFrom (Cond.code yX2_copyFrom cX2_copyFrom 2 none :: wG) rm_X2_copyFrom 0 0 D ad N Sh [.ref (ad oo0), .ref (ad oo1)] σ (F_X2_copyFrom oo0 oo1 σ) := by
  refine x_startV (own := RX2) (maxL := 2) (by decide) rfl rfl (Nat.le_of_ble_eq_true rfl) rfl hI (fun Γ hl hnL X => ?_)
  subst hl
  unfold F_X2_copyFrom
  refine xr_aload_n (pc := 0) X (i := 0) 0 rfl rfl dX2_copyFrom_0 ?_
  refine xgX2 (pc := 1) X (oo0) hh0.1 1 wm_3_22 rfl rfl (by decide) rfl dX2_copyFrom_1 ?_
  refine xr_aload_n (pc := 4) X (i := 1) 1 rfl rfl dX2_copyFrom_4 ?_
  refine xgX2 (pc := 5) X (oo1) hh1.1 1 wm_3_22 rfl rfl (by decide) rfl dX2_copyFrom_5 ?_
  refine xr_callVV (na := 1) (pc := 8) X (oo0 + 1) [.ref (ad (oo1 + 1))] _ (c_X0_copyFrom Γ.2.1 hI 6 (oo0 + 1) hh0.2.1 6 (oo1 + 1) hh1.2.1 σ) (wG_V wm_17_0 wm_17_6 wm_16_22 wm_16_23 wm_2_23) rfl rfl rfl (by decide +kernel) ⟨Nat.le_of_ble_eq_true rfl, Nat.le_of_ble_eq_true rfl⟩ hh0.2.1.1.1 hh0.2.1.1.2 rfl (T := TX0) (C := RX0) rfl rfl rfl (Nat.le_of_ble_eq_true rfl) ⟨Nat.le_of_ble_eq_true rfl, Nat.le_of_ble_eq_true rfl⟩ dX2_copyFrom_8 (fun σ1 => ?_)
  refine xr_aload_n (pc := 11) X (i := 0) 0 rfl rfl dX2_copyFrom_11 ?_
  refine xr_aload_n (pc := 12) X (i := 1) 1 rfl rfl dX2_copyFrom_12 ?_
  refine xgX2 (pc := 13) X (oo1) hh1.1 2 wm_4_16 rfl rfl (by decide) rfl dX2_copyFrom_13 ?_
  refine xpX2 (pc := 16) X (oo0) hh0.1 2 wm_4_16 (ty := .int) rfl (fun _ => rfl) rfl (by decide +kernel) rfl rfl (Nat.le_of_ble_eq_true rfl) (by decide) rfl dX2_copyFrom_16 (fun σ2 => ?_)
  refine xr_aload_n (pc := 19) X (i := 0) 0 rfl rfl dX2_copyFrom_19 ?_
  refine xr_aload_n (pc := 20) X (i := 1) 1 rfl rfl dX2_copyFrom_20 ?_
  refine xgX2 (pc := 21) X (oo1) hh1.1 3 wm_4_17 rfl rfl (by decide) rfl dX2_copyFrom_21 ?_
  refine x_gd (fun hzz14 => ?_)
  refine xpX2 (pc := 24) X (oo0) hh0.1 3 wm_4_17 (ty := .boolean) rfl (fun _ => rfl) rfl (by decide +kernel) (congrArg Value.int hzz14) (xfitZ hzz14) (Nat.le_of_ble_eq_true rfl) (by decide) rfl dX2_copyFrom_24 (fun σ3 => ?_)
  refine xr_aload_n (pc := 27) X (i := 0) 0 rfl rfl dX2_copyFrom_27 ?_
  refine xr_aload_n (pc := 28) X (i := 1) 1 rfl rfl dX2_copyFrom_28 ?_
  refine xgX2 (pc := 29) X (oo1) hh1.1 4 wm_4_18 rfl rfl (by decide) rfl dX2_copyFrom_29 ?_
  refine xpX2 (pc := 32) X (oo0) hh0.1 4 wm_4_18 (ty := .int) rfl (fun _ => rfl) rfl (by decide +kernel) rfl rfl (Nat.le_of_ble_eq_true rfl) (by decide) rfl dX2_copyFrom_32 (fun σ4 => ?_)
  refine xr_aload_n (pc := 35) X (i := 0) 0 rfl rfl dX2_copyFrom_35 ?_
  refine xr_aload_n (pc := 36) X (i := 1) 1 rfl rfl dX2_copyFrom_36 ?_
  refine xgX2 (pc := 37) X (oo1) hh1.1 5 wm_4_19 rfl rfl (by decide) rfl dX2_copyFrom_37 ?_
  refine xpX2 (pc := 40) X (oo0) hh0.1 5 wm_4_19 (ty := .int) rfl (fun _ => rfl) rfl (by decide +kernel) rfl rfl (Nat.le_of_ble_eq_true rfl) (by decide) rfl dX2_copyFrom_40 (fun σ5 => ?_)
  refine xr_aload_n (pc := 43) X (i := 0) 0 rfl rfl dX2_copyFrom_43 ?_
  refine xr_aload_n (pc := 44) X (i := 1) 1 rfl rfl dX2_copyFrom_44 ?_
  refine xgX2 (pc := 45) X (oo1) hh1.1 6 wm_4_20 rfl rfl (by decide) rfl dX2_copyFrom_45 ?_
  refine xpX2 (pc := 48) X (oo0) hh0.1 6 wm_4_20 (ty := .int) rfl (fun _ => rfl) rfl (by decide +kernel) rfl rfl (Nat.le_of_ble_eq_true rfl) (by decide) rfl dX2_copyFrom_48 (fun σ6 => ?_)
  refine xr_aload_n (pc := 51) X (i := 0) 0 rfl rfl dX2_copyFrom_51 ?_
  refine xr_aload_n (pc := 52) X (i := 1) 1 rfl rfl dX2_copyFrom_52 ?_
  refine xgX2 (pc := 53) X (oo1) hh1.1 7 wm_4_21 rfl rfl (by decide) rfl dX2_copyFrom_53 ?_
  refine xpX2 (pc := 56) X (oo0) hh0.1 7 wm_4_21 (ty := .int) rfl (fun _ => rfl) rfl (by decide +kernel) rfl rfl (Nat.le_of_ble_eq_true rfl) (by decide) rfl dX2_copyFrom_56 (fun σ7 => ?_)
  refine xr_aload_n (pc := 59) X (i := 0) 0 rfl rfl dX2_copyFrom_59 ?_
  refine xgX2 (pc := 60) X (oo0) hh0.1 8 wm_3_23 rfl rfl (by decide) rfl dX2_copyFrom_60 ?_
  refine xr_aload_n (pc := 63) X (i := 1) 1 rfl rfl dX2_copyFrom_63 ?_
  refine xgX2 (pc := 64) X (oo1) hh1.1 8 wm_3_23 rfl rfl (by decide) rfl dX2_copyFrom_64 ?_
  refine xr_callVV (na := 1) (pc := 67) X (oo0 + 5) [.ref (ad (oo1 + 5))] _ (c_X0_copyFrom Γ.2.1 hI 6 (oo0 + 5) hh0.2.2 6 (oo1 + 5) hh1.2.2 σ7) (wG_V wm_17_0 wm_17_6 wm_16_22 wm_16_23 wm_2_23) rfl rfl rfl (by decide +kernel) ⟨Nat.le_of_ble_eq_true rfl, Nat.le_of_ble_eq_true rfl⟩ hh0.2.2.1.1 hh0.2.2.1.2 rfl (T := TX0) (C := RX0) rfl rfl rfl (Nat.le_of_ble_eq_true rfl) ⟨Nat.le_of_ble_eq_true rfl, Nat.le_of_ble_eq_true rfl⟩ dX2_copyFrom_67 (fun σ8 => ?_)
  refine xr_aload_n (pc := 70) X (i := 0) 0 rfl rfl dX2_copyFrom_70 ?_
  refine xr_aload_n (pc := 71) X (i := 1) 1 rfl rfl dX2_copyFrom_71 ?_
  refine xgX2 (pc := 72) X (oo1) hh1.1 9 wm_4_22 rfl rfl (by decide) rfl dX2_copyFrom_72 ?_
  refine xpX2 (pc := 75) X (oo0) hh0.1 9 wm_4_22 (ty := .int) rfl (fun _ => rfl) rfl (by decide +kernel) rfl rfl (Nat.le_of_ble_eq_true rfl) (by decide) rfl dX2_copyFrom_75 (fun σ9 => ?_)
  refine xr_aload_n (pc := 78) X (i := 0) 0 rfl rfl dX2_copyFrom_78 ?_
  refine xr_aload_n (pc := 79) X (i := 1) 1 rfl rfl dX2_copyFrom_79 ?_
  refine xgX2 (pc := 80) X (oo1) hh1.1 10 wm_4_23 rfl rfl (by decide) rfl dX2_copyFrom_80 ?_
  refine xpX2 (pc := 83) X (oo0) hh0.1 10 wm_4_23 (ty := .int) rfl (fun _ => rfl) rfl (by decide +kernel) rfl rfl (Nat.le_of_ble_eq_true rfl) (by decide) rfl dX2_copyFrom_83 (fun σ10 => ?_)
  refine xr_aload_n (pc := 86) X (i := 0) 0 rfl rfl dX2_copyFrom_86 ?_
  refine xr_aload_n (pc := 87) X (i := 1) 1 rfl rfl dX2_copyFrom_87 ?_
  refine xgX2 (pc := 88) X (oo1) hh1.1 11 wm_5_0 rfl rfl (by decide) rfl dX2_copyFrom_88 ?_
  refine xpX2 (pc := 91) X (oo0) hh0.1 11 wm_5_0 (ty := .int) rfl (fun _ => rfl) rfl (by decide +kernel) rfl rfl (Nat.le_of_ble_eq_true rfl) (by decide) rfl dX2_copyFrom_91 (fun σ11 => ?_)
  refine xr_aload_n (pc := 94) X (i := 0) 0 rfl rfl dX2_copyFrom_94 ?_
  refine xr_aload_n (pc := 95) X (i := 1) 1 rfl rfl dX2_copyFrom_95 ?_
  refine xgX2 (pc := 96) X (oo1) hh1.1 12 wm_5_1 rfl rfl (by decide) rfl dX2_copyFrom_96 ?_
  refine xpX2 (pc := 99) X (oo0) hh0.1 12 wm_5_1 (ty := .int) rfl (fun _ => rfl) rfl (by decide +kernel) rfl rfl (Nat.le_of_ble_eq_true rfl) (by decide) rfl dX2_copyFrom_99 (fun σ12 => ?_)
  refine xr_aload_n (pc := 102) X (i := 0) 0 rfl rfl dX2_copyFrom_102 ?_
  refine xr_aload_n (pc := 103) X (i := 1) 1 rfl rfl dX2_copyFrom_103 ?_
  refine xgX2 (pc := 104) X (oo1) hh1.1 13 wm_5_2 rfl rfl (by decide) rfl dX2_copyFrom_104 ?_
  refine xpX2 (pc := 107) X (oo0) hh0.1 13 wm_5_2 (ty := .int) rfl (fun _ => rfl) rfl (by decide +kernel) rfl rfl (Nat.le_of_ble_eq_true rfl) (by decide) rfl dX2_copyFrom_107 (fun σ13 => ?_)
  exact xr_vret (pc := 110) X (Nat.le_refl _) (Nat.le_refl _) dX2_copyFrom_110
def F_X2_numberOfWriter (oo0 : Nat) (pp1 : Int32) (σ : xS) : Option (Int32 × xS) :=
  if pp1 = 0 then (some ((σ oo0 2), σ))
 else (if pp1 = 1 then (some ((σ (oo0 + 1) 3), σ))
 else (if pp1 = 2 then (if (σ oo0 3) = 0 then (some ((0 : Int32), σ))
 else (some ((1 : Int32), σ)))
 else (if pp1 = 3 then (some ((σ oo0 4), σ))
 else (if pp1 = 4 then (some ((σ oo0 5), σ))
 else (if pp1 = 5 then (some ((σ oo0 7), σ))
 else (some ((σ oo0 6), σ)))))))
abbrev rm_X2_numberOfWriter : Room := { frames := 0, cells := 0, slots := 0, locals := 0 }
set_option maxHeartbeats 4000000 in
set_option maxRecDepth 100000 in
theorem c_X2_numberOfWriter (l : Launch) {D : va_G} {ad : Nat → Nat} {N : Nat} {Sh : xSh} (hI : ∀ i j, i < N → j < N → ad i = ad j → i = j) (oo0 : Nat) (hh0 : xIs2 D ad N Sh oo0) (pp1 : Int32) (σ : xS) : xKI l yX2_numberOfWriter (Cond.code yX2_numberOfWriter cX2_numberOfWriter 2 (some .int) :: wG) rm_X2_numberOfWriter 0 0 D ad N Sh [.ref (ad oo0), .int pp1] σ (F_X2_numberOfWriter oo0 pp1 σ) := by
  refine x_startI (own := RX2) (maxL := 2) (by decide) rfl rfl (Nat.le_of_ble_eq_true rfl) rfl hI (fun Γ hl hnL X => ?_)
  subst hl
  unfold F_X2_numberOfWriter
  refine xr_iload_n (pc := 0) X (i := 1) 1 rfl rfl dX2_numberOfWriter_0 ?_
  refine x_if (fun hcc1 => ?_) (fun hcc1 => ?_)
  · refine xr_tin (off := 39) (pc := 1) X 40 dX2_numberOfWriter_1 (by rw [hcc1]; decide) (by rw [hcc1]; decide) (by rw [hcc1]; rfl) (by decide) ?_
    refine xr_aload_n (pc := 40) X (i := 0) 0 rfl rfl dX2_numberOfWriter_40 ?_
    refine xgX2 (pc := 41) X (oo0) hh0.1 2 wm_4_16 rfl rfl (by decide) rfl dX2_numberOfWriter_41 ?_
    exact xr_iret (pc := 44) X (Nat.le_of_ble_eq_true rfl) (Nat.le_of_ble_eq_true rfl) dX2_numberOfWriter_44
  refine x_if (fun hcc2 => ?_) (fun hcc2 => ?_)
  · refine xr_tin (off := 44) (pc := 1) X 45 dX2_numberOfWriter_1 (by rw [hcc2]; decide) (by rw [hcc2]; decide) (by rw [hcc2]; rfl) (by decide) ?_
    refine xr_aload_n (pc := 45) X (i := 0) 0 rfl rfl dX2_numberOfWriter_45 ?_
    refine xgX2 (pc := 46) X (oo0) hh0.1 1 wm_3_22 rfl rfl (by decide) rfl dX2_numberOfWriter_46 ?_
    refine xgNX0 (pc := 49) X (oo0 + 1) hh0.2.1.1 3 16 rfl rfl rfl (by decide) rfl dX2_numberOfWriter_49 ?_
    exact xr_iret (pc := 52) X (Nat.le_of_ble_eq_true rfl) (Nat.le_of_ble_eq_true rfl) dX2_numberOfWriter_52
  refine x_if (fun hcc3 => ?_) (fun hcc3 => ?_)
  · refine xr_tin (off := 52) (pc := 1) X 53 dX2_numberOfWriter_1 (by rw [hcc3]; decide) (by rw [hcc3]; decide) (by rw [hcc3]; rfl) (by decide) ?_
    refine xr_aload_n (pc := 53) X (i := 0) 0 rfl rfl dX2_numberOfWriter_53 ?_
    refine xgX2 (pc := 54) X (oo0) hh0.1 3 wm_4_17 rfl rfl (by decide) rfl dX2_numberOfWriter_54 ?_
    refine xr_if_eq (pc := 57) X 64 (by decide) dX2_numberOfWriter_57 (fun _ => ?_) (fun _ => ?_)
    · refine xr_iconst (pc := 64) X dX2_numberOfWriter_64 (v := 0) (by decide) ?_
      exact xr_iret (pc := 65) X (Nat.le_of_ble_eq_true rfl) (Nat.le_of_ble_eq_true rfl) dX2_numberOfWriter_65
    refine xr_iconst (pc := 60) X dX2_numberOfWriter_60 (v := 1) (by decide) ?_
    refine xr_goto (pc := 61) X 65 (by decide) dX2_numberOfWriter_61 ?_
    exact xr_iret (pc := 65) X (Nat.le_of_ble_eq_true rfl) (Nat.le_of_ble_eq_true rfl) dX2_numberOfWriter_65
  refine x_if (fun hcc4 => ?_) (fun hcc4 => ?_)
  · refine xr_tin (off := 65) (pc := 1) X 66 dX2_numberOfWriter_1 (by rw [hcc4]; decide) (by rw [hcc4]; decide) (by rw [hcc4]; rfl) (by decide) ?_
    refine xr_aload_n (pc := 66) X (i := 0) 0 rfl rfl dX2_numberOfWriter_66 ?_
    refine xgX2 (pc := 67) X (oo0) hh0.1 4 wm_4_18 rfl rfl (by decide) rfl dX2_numberOfWriter_67 ?_
    exact xr_iret (pc := 70) X (Nat.le_of_ble_eq_true rfl) (Nat.le_of_ble_eq_true rfl) dX2_numberOfWriter_70
  refine x_if (fun hcc5 => ?_) (fun hcc5 => ?_)
  · refine xr_tin (off := 70) (pc := 1) X 71 dX2_numberOfWriter_1 (by rw [hcc5]; decide) (by rw [hcc5]; decide) (by rw [hcc5]; rfl) (by decide) ?_
    refine xr_aload_n (pc := 71) X (i := 0) 0 rfl rfl dX2_numberOfWriter_71 ?_
    refine xgX2 (pc := 72) X (oo0) hh0.1 5 wm_4_19 rfl rfl (by decide) rfl dX2_numberOfWriter_72 ?_
    exact xr_iret (pc := 75) X (Nat.le_of_ble_eq_true rfl) (Nat.le_of_ble_eq_true rfl) dX2_numberOfWriter_75
  refine x_if (fun hcc6 => ?_) (fun hcc6 => ?_)
  · refine xr_tin (off := 75) (pc := 1) X 76 dX2_numberOfWriter_1 (by rw [hcc6]; decide) (by rw [hcc6]; decide) (by rw [hcc6]; rfl) (by decide) ?_
    refine xr_aload_n (pc := 76) X (i := 0) 0 rfl rfl dX2_numberOfWriter_76 ?_
    refine xgX2 (pc := 77) X (oo0) hh0.1 7 wm_4_21 rfl rfl (by decide) rfl dX2_numberOfWriter_77 ?_
    exact xr_iret (pc := 80) X (Nat.le_of_ble_eq_true rfl) (Nat.le_of_ble_eq_true rfl) dX2_numberOfWriter_80
  refine xr_tout (pc := 1) X 81 dX2_numberOfWriter_1 (by have g0 := xne hcc1 (j := 0) (by decide); have g1 := xne hcc2 (j := 1) (by decide); have g2 := xne hcc3 (j := 2) (by decide); have g3 := xne hcc4 (j := 3) (by decide); have g4 := xne hcc5 (j := 4) (by decide); have g5 := xne hcc6 (j := 5) (by decide); omega) (by decide) ?_
  refine xr_aload_n (pc := 81) X (i := 0) 0 rfl rfl dX2_numberOfWriter_81 ?_
  refine xgX2 (pc := 82) X (oo0) hh0.1 6 wm_4_20 rfl rfl (by decide) rfl dX2_numberOfWriter_82 ?_
  exact xr_iret (pc := 85) X (Nat.le_of_ble_eq_true rfl) (Nat.le_of_ble_eq_true rfl) dX2_numberOfWriter_85
def F_X2_numberOfDesk (oo0 : Nat) (pp1 : Int32) (σ : xS) : Option (Int32 × xS) :=
  if pp1 = 0 then (some ((σ oo0 9), σ))
 else (if pp1 = 1 then (some ((σ oo0 10), σ))
 else (if pp1 = 2 then (some ((σ oo0 11), σ))
 else (if pp1 = 3 then (some ((σ oo0 12), σ))
 else (if pp1 = 4 then (some ((σ oo0 13), σ))
 else (some ((σ (oo0 + 5) 3), σ))))))
abbrev rm_X2_numberOfDesk : Room := { frames := 0, cells := 0, slots := 0, locals := 0 }
set_option maxHeartbeats 4000000 in
set_option maxRecDepth 100000 in
theorem c_X2_numberOfDesk (l : Launch) {D : va_G} {ad : Nat → Nat} {N : Nat} {Sh : xSh} (hI : ∀ i j, i < N → j < N → ad i = ad j → i = j) (oo0 : Nat) (hh0 : xIs2 D ad N Sh oo0) (pp1 : Int32) (σ : xS) : xKI l yX2_numberOfDesk (Cond.code yX2_numberOfDesk cX2_numberOfDesk 2 (some .int) :: wG) rm_X2_numberOfDesk 0 0 D ad N Sh [.ref (ad oo0), .int pp1] σ (F_X2_numberOfDesk oo0 pp1 σ) := by
  refine x_startI (own := RX2) (maxL := 2) (by decide) rfl rfl (Nat.le_of_ble_eq_true rfl) rfl hI (fun Γ hl hnL X => ?_)
  subst hl
  unfold F_X2_numberOfDesk
  refine xr_iload_n (pc := 0) X (i := 1) 1 rfl rfl dX2_numberOfDesk_0 ?_
  refine x_if (fun hcc1 => ?_) (fun hcc1 => ?_)
  · refine xr_tin (off := 35) (pc := 1) X 36 dX2_numberOfDesk_1 (by rw [hcc1]; decide) (by rw [hcc1]; decide) (by rw [hcc1]; rfl) (by decide) ?_
    refine xr_aload_n (pc := 36) X (i := 0) 0 rfl rfl dX2_numberOfDesk_36 ?_
    refine xgX2 (pc := 37) X (oo0) hh0.1 9 wm_4_22 rfl rfl (by decide) rfl dX2_numberOfDesk_37 ?_
    exact xr_iret (pc := 40) X (Nat.le_of_ble_eq_true rfl) (Nat.le_of_ble_eq_true rfl) dX2_numberOfDesk_40
  refine x_if (fun hcc2 => ?_) (fun hcc2 => ?_)
  · refine xr_tin (off := 40) (pc := 1) X 41 dX2_numberOfDesk_1 (by rw [hcc2]; decide) (by rw [hcc2]; decide) (by rw [hcc2]; rfl) (by decide) ?_
    refine xr_aload_n (pc := 41) X (i := 0) 0 rfl rfl dX2_numberOfDesk_41 ?_
    refine xgX2 (pc := 42) X (oo0) hh0.1 10 wm_4_23 rfl rfl (by decide) rfl dX2_numberOfDesk_42 ?_
    exact xr_iret (pc := 45) X (Nat.le_of_ble_eq_true rfl) (Nat.le_of_ble_eq_true rfl) dX2_numberOfDesk_45
  refine x_if (fun hcc3 => ?_) (fun hcc3 => ?_)
  · refine xr_tin (off := 45) (pc := 1) X 46 dX2_numberOfDesk_1 (by rw [hcc3]; decide) (by rw [hcc3]; decide) (by rw [hcc3]; rfl) (by decide) ?_
    refine xr_aload_n (pc := 46) X (i := 0) 0 rfl rfl dX2_numberOfDesk_46 ?_
    refine xgX2 (pc := 47) X (oo0) hh0.1 11 wm_5_0 rfl rfl (by decide) rfl dX2_numberOfDesk_47 ?_
    exact xr_iret (pc := 50) X (Nat.le_of_ble_eq_true rfl) (Nat.le_of_ble_eq_true rfl) dX2_numberOfDesk_50
  refine x_if (fun hcc4 => ?_) (fun hcc4 => ?_)
  · refine xr_tin (off := 50) (pc := 1) X 51 dX2_numberOfDesk_1 (by rw [hcc4]; decide) (by rw [hcc4]; decide) (by rw [hcc4]; rfl) (by decide) ?_
    refine xr_aload_n (pc := 51) X (i := 0) 0 rfl rfl dX2_numberOfDesk_51 ?_
    refine xgX2 (pc := 52) X (oo0) hh0.1 12 wm_5_1 rfl rfl (by decide) rfl dX2_numberOfDesk_52 ?_
    exact xr_iret (pc := 55) X (Nat.le_of_ble_eq_true rfl) (Nat.le_of_ble_eq_true rfl) dX2_numberOfDesk_55
  refine x_if (fun hcc5 => ?_) (fun hcc5 => ?_)
  · refine xr_tin (off := 55) (pc := 1) X 56 dX2_numberOfDesk_1 (by rw [hcc5]; decide) (by rw [hcc5]; decide) (by rw [hcc5]; rfl) (by decide) ?_
    refine xr_aload_n (pc := 56) X (i := 0) 0 rfl rfl dX2_numberOfDesk_56 ?_
    refine xgX2 (pc := 57) X (oo0) hh0.1 13 wm_5_2 rfl rfl (by decide) rfl dX2_numberOfDesk_57 ?_
    exact xr_iret (pc := 60) X (Nat.le_of_ble_eq_true rfl) (Nat.le_of_ble_eq_true rfl) dX2_numberOfDesk_60
  refine xr_tout (pc := 1) X 61 dX2_numberOfDesk_1 (by have g0 := xne hcc1 (j := 0) (by decide); have g1 := xne hcc2 (j := 1) (by decide); have g2 := xne hcc3 (j := 2) (by decide); have g3 := xne hcc4 (j := 3) (by decide); have g4 := xne hcc5 (j := 4) (by decide); omega) (by decide) ?_
  refine xr_aload_n (pc := 61) X (i := 0) 0 rfl rfl dX2_numberOfDesk_61 ?_
  refine xgX2 (pc := 62) X (oo0) hh0.1 8 wm_3_23 rfl rfl (by decide) rfl dX2_numberOfDesk_62 ?_
  refine xgNX0 (pc := 65) X (oo0 + 5) hh0.2.2.1 3 16 rfl rfl rfl (by decide) rfl dX2_numberOfDesk_65 ?_
  exact xr_iret (pc := 68) X (Nat.le_of_ble_eq_true rfl) (Nat.le_of_ble_eq_true rfl) dX2_numberOfDesk_68
def F_X2_hasRoomFor (oo0 : Nat) (pp1 : Int32) (σ : xS) : Option (Int32 × xS) :=
  if 9999 < ((σ oo0 2) + pp1) then (some ((0 : Int32), σ))
 else (some ((1 : Int32), σ))
abbrev rm_X2_hasRoomFor : Room := { frames := 0, cells := 0, slots := 0, locals := 0 }
set_option maxHeartbeats 4000000 in
set_option maxRecDepth 100000 in
theorem c_X2_hasRoomFor (l : Launch) {D : va_G} {ad : Nat → Nat} {N : Nat} {Sh : xSh} (hI : ∀ i j, i < N → j < N → ad i = ad j → i = j) (oo0 : Nat) (hh0 : xIs2 D ad N Sh oo0) (pp1 : Int32) (σ : xS) : xKI l yX2_hasRoomFor (Cond.code yX2_hasRoomFor cX2_hasRoomFor 2 (some .boolean) :: wG) rm_X2_hasRoomFor 0 0 D ad N Sh [.ref (ad oo0), .int pp1] σ (F_X2_hasRoomFor oo0 pp1 σ) := by
  refine x_startI (own := RX2) (maxL := 2) (by decide) rfl rfl (Nat.le_of_ble_eq_true rfl) rfl hI (fun Γ hl hnL X => ?_)
  subst hl
  unfold F_X2_hasRoomFor
  refine xr_aload_n (pc := 0) X (i := 0) 0 rfl rfl dX2_hasRoomFor_0 ?_
  refine xgX2 (pc := 1) X (oo0) hh0.1 2 wm_4_16 rfl rfl (by decide) rfl dX2_hasRoomFor_1 ?_
  refine xr_iload_n (pc := 4) X (i := 1) 1 rfl rfl dX2_hasRoomFor_4 ?_
  refine xr_iadd (pc := 5) X dX2_hasRoomFor_5 ?_
  refine xr_sipush (pc := 6) X dX2_hasRoomFor_6 (v := 9999) (by decide) ?_
  refine xr_icmp_gt (pc := 9) X 16 (by decide) dX2_hasRoomFor_9 (fun _ => ?_) (fun _ => ?_)
  · refine xr_iconst (pc := 16) X dX2_hasRoomFor_16 (v := 0) (by decide) ?_
    exact xr_zret (pc := 17) X rfl (Nat.le_of_ble_eq_true rfl) (Nat.le_of_ble_eq_true rfl) dX2_hasRoomFor_17
  refine xr_iconst (pc := 12) X dX2_hasRoomFor_12 (v := 1) (by decide) ?_
  refine xr_goto (pc := 13) X 17 (by decide) dX2_hasRoomFor_13 ?_
  exact xr_zret (pc := 17) X rfl (Nat.le_of_ble_eq_true rfl) (Nat.le_of_ble_eq_true rfl) dX2_hasRoomFor_17
def F_X2_addNote (oo0 : Nat) (pp1 : Int32) (σ : xS) : Option xS :=
  xlet (xu σ oo0 2 ((σ oo0 2) + pp1)) (fun (σ1 : xS) => xlet (xu σ1 oo0 4 ((σ1 oo0 4) + pp1)) (fun (σ2 : xS) => some σ2))
abbrev rm_X2_addNote : Room := { frames := 0, cells := 0, slots := 0, locals := 0 }
set_option maxHeartbeats 4000000 in
set_option maxRecDepth 100000 in
theorem c_X2_addNote (l : Launch) {D : va_G} {ad : Nat → Nat} {N : Nat} {Sh : xSh} (hI : ∀ i j, i < N → j < N → ad i = ad j → i = j) (oo0 : Nat) (hh0 : xIs2 D ad N Sh oo0) (pp1 : Int32) (σ : xS) : xKV l yX2_addNote (Cond.code yX2_addNote cX2_addNote 2 none :: wG) rm_X2_addNote 0 0 D ad N Sh [.ref (ad oo0), .int pp1] σ (F_X2_addNote oo0 pp1 σ) := by
  refine x_startV (own := RX2) (maxL := 2) (by decide) rfl rfl (Nat.le_of_ble_eq_true rfl) rfl hI (fun Γ hl hnL X => ?_)
  subst hl
  unfold F_X2_addNote
  refine xr_aload_n (pc := 0) X (i := 0) 0 rfl rfl dX2_addNote_0 ?_
  refine xr_dup (pc := 1) X rfl dX2_addNote_1 ?_
  refine xgX2 (pc := 2) X (oo0) hh0.1 2 wm_4_16 rfl rfl (by decide) rfl dX2_addNote_2 ?_
  refine xr_iload_n (pc := 5) X (i := 1) 1 rfl rfl dX2_addNote_5 ?_
  refine xr_iadd (pc := 6) X dX2_addNote_6 ?_
  refine xpX2 (pc := 7) X (oo0) hh0.1 2 wm_4_16 (ty := .int) rfl (fun _ => rfl) rfl (by decide +kernel) rfl rfl (Nat.le_of_ble_eq_true rfl) (by decide) rfl dX2_addNote_7 (fun σ1 => ?_)
  refine xr_aload_n (pc := 10) X (i := 0) 0 rfl rfl dX2_addNote_10 ?_
  refine xr_dup (pc := 11) X rfl dX2_addNote_11 ?_
  refine xgX2 (pc := 12) X (oo0) hh0.1 4 wm_4_18 rfl rfl (by decide) rfl dX2_addNote_12 ?_
  refine xr_iload_n (pc := 15) X (i := 1) 1 rfl rfl dX2_addNote_15 ?_
  refine xr_iadd (pc := 16) X dX2_addNote_16 ?_
  refine xpX2 (pc := 17) X (oo0) hh0.1 4 wm_4_18 (ty := .int) rfl (fun _ => rfl) rfl (by decide +kernel) rfl rfl (Nat.le_of_ble_eq_true rfl) (by decide) rfl dX2_addNote_17 (fun σ2 => ?_)
  exact xr_vret (pc := 20) X (Nat.le_refl _) (Nat.le_refl _) dX2_addNote_20
def F_X2_signsOfNextLetter (oo0 : Nat) (pp1 : Int32) (pp2 : Int32) (σ : xS) : Option (Int32 × xS) :=
  if (σ oo0 2) < pp1 then (if pp2 = 0 then (some ((σ oo0 2), σ))
 else (if ¬ (σ (oo0 + 1) 3) = 0 then (some ((0 : Int32), σ))
 else (some ((σ oo0 2), σ))))
 else (some (pp1, σ))
abbrev rm_X2_signsOfNextLetter : Room := { frames := 0, cells := 0, slots := 0, locals := 0 }
set_option maxHeartbeats 4000000 in
set_option maxRecDepth 100000 in
theorem c_X2_signsOfNextLetter (l : Launch) {D : va_G} {ad : Nat → Nat} {N : Nat} {Sh : xSh} (hI : ∀ i j, i < N → j < N → ad i = ad j → i = j) (oo0 : Nat) (hh0 : xIs2 D ad N Sh oo0) (pp1 : Int32) (pp2 : Int32) (σ : xS) : xKI l yX2_signsOfNextLetter (Cond.code yX2_signsOfNextLetter cX2_signsOfNextLetter 3 (some .int) :: wG) rm_X2_signsOfNextLetter 0 0 D ad N Sh [.ref (ad oo0), .int pp1, .int pp2] σ (F_X2_signsOfNextLetter oo0 pp1 pp2 σ) := by
  refine x_startI (own := RX2) (maxL := 3) (by decide) rfl rfl (Nat.le_of_ble_eq_true rfl) rfl hI (fun Γ hl hnL X => ?_)
  subst hl
  unfold F_X2_signsOfNextLetter
  refine xr_aload_n (pc := 0) X (i := 0) 0 rfl rfl dX2_signsOfNextLetter_0 ?_
  refine xgX2 (pc := 1) X (oo0) hh0.1 2 wm_4_16 rfl rfl (by decide) rfl dX2_signsOfNextLetter_1 ?_
  refine xr_iload_n (pc := 4) X (i := 1) 1 rfl rfl dX2_signsOfNextLetter_4 ?_
  refine xr_icmp_lt (pc := 5) X 10 (by decide) dX2_signsOfNextLetter_5 (fun _ => ?_) (fun _ => ?_)
  · refine xr_iload_n (pc := 10) X (i := 2) 2 rfl rfl dX2_signsOfNextLetter_10 ?_
    refine xr_if_eq (pc := 11) X 24 (by decide) dX2_signsOfNextLetter_11 (fun _ => ?_) (fun _ => ?_)
    · refine xr_aload_n (pc := 24) X (i := 0) 0 rfl rfl dX2_signsOfNextLetter_24 ?_
      refine xgX2 (pc := 25) X (oo0) hh0.1 2 wm_4_16 rfl rfl (by decide) rfl dX2_signsOfNextLetter_25 ?_
      refine xr_goto (pc := 28) X 32 (by decide) dX2_signsOfNextLetter_28 ?_
      exact xr_iret (pc := 32) X (Nat.le_of_ble_eq_true rfl) (Nat.le_of_ble_eq_true rfl) dX2_signsOfNextLetter_32
    refine xr_aload_n (pc := 14) X (i := 0) 0 rfl rfl dX2_signsOfNextLetter_14 ?_
    refine xgX2 (pc := 15) X (oo0) hh0.1 1 wm_3_22 rfl rfl (by decide) rfl dX2_signsOfNextLetter_15 ?_
    refine xgNX0 (pc := 18) X (oo0 + 1) hh0.2.1.1 3 16 rfl rfl rfl (by decide) rfl dX2_signsOfNextLetter_18 ?_
    refine xr_if_ne (pc := 21) X 31 (by decide) dX2_signsOfNextLetter_21 (fun _ => ?_) (fun _ => ?_)
    · refine xr_iconst (pc := 31) X dX2_signsOfNextLetter_31 (v := 0) (by decide) ?_
      exact xr_iret (pc := 32) X (Nat.le_of_ble_eq_true rfl) (Nat.le_of_ble_eq_true rfl) dX2_signsOfNextLetter_32
    refine xr_aload_n (pc := 24) X (i := 0) 0 rfl rfl dX2_signsOfNextLetter_24 ?_
    refine xgX2 (pc := 25) X (oo0) hh0.1 2 wm_4_16 rfl rfl (by decide) rfl dX2_signsOfNextLetter_25 ?_
    refine xr_goto (pc := 28) X 32 (by decide) dX2_signsOfNextLetter_28 ?_
    exact xr_iret (pc := 32) X (Nat.le_of_ble_eq_true rfl) (Nat.le_of_ble_eq_true rfl) dX2_signsOfNextLetter_32
  refine xr_iload_n (pc := 8) X (i := 1) 1 rfl rfl dX2_signsOfNextLetter_8 ?_
  exact xr_iret (pc := 9) X (Nat.le_of_ble_eq_true rfl) (Nat.le_of_ble_eq_true rfl) dX2_signsOfNextLetter_9
def L_X2_sendLetters_19 (oo0 : Nat) (pp1 : Int32) (nn2 : Nat) (aa2 : Nat) (pp3 : Int32) (KK5 : xS → Option (Int32 × xS)) : Nat → Int32 → xS → Option (Int32 × xS)
  | 0, _, _ => none
  | nn_9 + 1, zz7, σ8 => if zz7 ≤ 0 then (KK5 σ8)
 else (if xin (2 : Int32) nn2 = true then (xlet (σ8 aa2 (2 : Int32).toNatClampNeg) (fun (zz11 : Int32) => xbI (F_X2_signsOfNextLetter oo0 zz11 pp3 σ8) (fun (zz13 : Int32) (σ12 : xS) => if ¬ zz13 = 0 then (xbI (F_X0_timeAt 6 (oo0 + 1) ((σ12 (oo0 + 1) 3) - 1) σ12) (fun (zz15 : Int32) (σ14 : xS) => if xin (0 : Int32) nn2 = true then (xlet (σ14 aa2 (0 : Int32).toNatClampNeg) (fun (zz16 : Int32) => xlet (if (pp1 + zz16) < zz15 then zz15 else (pp1 + zz16)) (fun (zz17 : Int32) => xbV (F_X0_addLast 6 (oo0 + 1) zz17 (σ14 oo0 0) zz13 σ14) (fun (σ18 : xS) => xlet (xu σ18 oo0 2 ((σ18 oo0 2) - zz13)) (fun (σ19 : xS) => xlet (xu σ19 oo0 5 ((σ19 oo0 5) + 1)) (fun (σ20 : xS) => xlet (zz7 + (-1)) (fun (zz21 : Int32) => L_X2_sendLetters_19 oo0 pp1 nn2 aa2 pp3 KK5 nn_9 zz21 σ20))))))) else none))
 else (KK5 σ12)))) else none)
def F_X2_sendLetters (oo0 : Nat) (pp1 : Int32) (nn2 aa2 : Nat) (pp3 : Int32) (σ : xS) : Option (Int32 × xS) :=
  xlet (σ oo0 5) (fun (zz1 : Int32) => if xin (3 : Int32) nn2 = true then (xlet (σ aa2 (3 : Int32).toNatClampNeg) (fun (zz2 : Int32) => xlet (zz2 - (σ (oo0 + 1) 3)) (fun (zz3 : Int32) => L_X2_sendLetters_19 oo0 pp1 nn2 aa2 pp3 (fun (σ4 : xS) => some (((σ4 oo0 5) - zz1), σ4)) 1000 zz3 σ))) else none)
abbrev rm_X2_sendLetters : Room := { frames := 1, cells := 0, slots := 0, locals := 23 }
set_option maxHeartbeats 4000000 in
set_option maxRecDepth 100000 in
theorem c_X2_sendLetters (l : Launch) {D : va_G} {ad : Nat → Nat} {N : Nat} {Sh : xSh} (hI : ∀ i j, i < N → j < N → ad i = ad j → i = j) (oo0 : Nat) (hh0 : xIs2 D ad N Sh oo0) (pp1 : Int32) (nn2 aa2 : Nat) (hh2 : xHas N Sh aa2 (shI D nn2)) (pp3 : Int32) (σ : xS) : xKI l yX2_sendLetters (Cond.code yX2_sendLetters cX2_sendLetters 8 (some .int) :: wG) rm_X2_sendLetters 0 0 D ad N Sh [.ref (ad oo0), .int pp1, .ref (ad aa2), .int pp3] σ (F_X2_sendLetters oo0 pp1 nn2 aa2 pp3 σ) := by
  refine x_startI (own := RX2) (maxL := 8) (by decide) rfl rfl (Nat.le_of_ble_eq_true rfl) rfl hI (fun Γ hl hnL X => ?_)
  subst hl
  unfold F_X2_sendLetters
  refine xr_aload_n (pc := 0) X (i := 0) 0 rfl rfl dX2_sendLetters_0 ?_
  refine xgX2 (pc := 1) X (oo0) hh0.1 5 wm_4_19 rfl rfl (by decide) rfl dX2_sendLetters_1 ?_
  refine x_leti (fun zz1 => ?_)
  refine xr_istore (pc := 4) X (i := 4) (lv2 := [(0, .ref (ad oo0)), (1, .int pp1), (2, .ref (ad aa2)), (3, .int pp3), (4, .int zz1)]) [1, 2, 3, 4, 0] (Nat.le_of_ble_eq_true rfl) hnL rfl dX2_sendLetters_4 ?_
  refine xr_aload_n (pc := 6) X (i := 2) 2 rfl rfl dX2_sendLetters_6 ?_
  refine xr_iconst (pc := 7) X dX2_sendLetters_7 (v := 3) (by decide) ?_
  refine xr_iald (pc := 8) X (aa2) (nn2) hh2.1 hh2.2 dX2_sendLetters_8 (fun zz2 => ?_)
  refine xr_aload_n (pc := 9) X (i := 0) 0 rfl rfl dX2_sendLetters_9 ?_
  refine xgX2 (pc := 10) X (oo0) hh0.1 1 wm_3_22 rfl rfl (by decide) rfl dX2_sendLetters_10 ?_
  refine xgNX0 (pc := 13) X (oo0 + 1) hh0.2.1.1 3 16 rfl rfl rfl (by decide) rfl dX2_sendLetters_13 ?_
  refine xr_isub (pc := 16) X dX2_sendLetters_16 ?_
  refine x_leti (fun zz3 => ?_)
  refine xr_istore (pc := 17) X (i := 5) (lv2 := [(0, .ref (ad oo0)), (1, .int pp1), (2, .ref (ad aa2)), (3, .int pp3), (4, .int zz1), (5, .int zz3)]) [1, 2, 3, 4, 5, 0] (Nat.le_of_ble_eq_true rfl) hnL rfl dX2_sendLetters_17 ?_
  have hLL22 : ∀ (KK5 : xS → Option (Int32 × xS)) (hKK6 : ∀ σ4, xM Γ D ad N Sh (xQI Γ D ad N Sh 0 0) 0 0 (KK5 σ4) σ4 110 [(0, .ref (ad oo0)), (4, .int zz1)] []), ∀ (nn_9 : Nat) zz7 σ8, xM Γ D ad N Sh (xQI Γ D ad N Sh 0 0) 0 0 (L_X2_sendLetters_19 oo0 pp1 nn2 aa2 pp3 KK5 nn_9 zz7 σ8) σ8 19 [(0, .ref (ad oo0)), (1, .int pp1), (2, .ref (ad aa2)), (3, .int pp3), (4, .int zz1), (5, .int zz7)] [] := by
    intro KK5 hKK6 nn_9
    induction nn_9 with
    | zero => intro zz7 σ8; exact xM_none
    | succ nn_9 ihh10 =>
      intro zz7 σ8
      rw [L_X2_sendLetters_19]
      refine xr_iload (pc := 19) X (i := 5) 5 rfl dX2_sendLetters_19 ?_
      refine xr_if_le (pc := 21) X 110 (by decide) dX2_sendLetters_21 (fun _ => ?_) (fun _ => ?_)
      · exact x_sub [0, 4] rfl (hKK6  _)
      refine xr_aload_n (pc := 24) X (i := 0) 0 rfl rfl dX2_sendLetters_24 ?_
      refine xr_aload_n (pc := 25) X (i := 2) 2 rfl rfl dX2_sendLetters_25 ?_
      refine xr_iconst (pc := 26) X dX2_sendLetters_26 (v := 2) (by decide) ?_
      refine xr_iald (pc := 27) X (aa2) (nn2) hh2.1 hh2.2 dX2_sendLetters_27 (fun zz11 => ?_)
      refine xr_iload_n (pc := 28) X (i := 3) 3 rfl rfl dX2_sendLetters_28 ?_
      refine xr_callVI (na := 2) (pc := 29) X (oo0) [.int zz11, .int pp3] _ (c_X2_signsOfNextLetter Γ.2.1 hI oo0 hh0 zz11 pp3 σ8) (wG_V wm_10_21 wm_10_18 wm_10_19 wm_10_20 wm_3_4) rfl rfl rfl (by decide +kernel) ⟨Nat.le_of_ble_eq_true rfl, Nat.le_of_ble_eq_true rfl⟩ hh0.1.1 hh0.1.2 rfl (T := TX2) (C := RX2) rfl rfl rfl (Nat.le_of_ble_eq_true rfl) ⟨Nat.le_of_ble_eq_true rfl, Nat.le_of_ble_eq_true rfl⟩ dX2_sendLetters_29 (fun zz13 σ12 => ?_)
      refine xr_istore (pc := 32) X (i := 6) (lv2 := [(0, .ref (ad oo0)), (1, .int pp1), (2, .ref (ad aa2)), (3, .int pp3), (4, .int zz1), (5, .int zz7), (6, .int zz13)]) [1, 2, 3, 4, 5, 6, 0] (Nat.le_of_ble_eq_true rfl) hnL rfl dX2_sendLetters_32 ?_
      refine xr_iload (pc := 34) X (i := 6) 6 rfl dX2_sendLetters_34 ?_
      refine xr_if_ne (pc := 36) X 42 (by decide) dX2_sendLetters_36 (fun _ => ?_) (fun _ => ?_)
      · refine xr_aload_n (pc := 42) X (i := 0) 0 rfl rfl dX2_sendLetters_42 ?_
        refine xgX2 (pc := 43) X (oo0) hh0.1 1 wm_3_22 rfl rfl (by decide) rfl dX2_sendLetters_43 ?_
        refine xr_aload_n (pc := 46) X (i := 0) 0 rfl rfl dX2_sendLetters_46 ?_
        refine xgX2 (pc := 47) X (oo0) hh0.1 1 wm_3_22 rfl rfl (by decide) rfl dX2_sendLetters_47 ?_
        refine xgNX0 (pc := 50) X (oo0 + 1) hh0.2.1.1 3 16 rfl rfl rfl (by decide) rfl dX2_sendLetters_50 ?_
        refine xr_iconst (pc := 53) X dX2_sendLetters_53 (v := 1) (by decide) ?_
        refine xr_isub (pc := 54) X dX2_sendLetters_54 ?_
        refine xr_callVI (na := 1) (pc := 55) X (oo0 + 1) [.int ((σ12 (oo0 + 1) 3) - 1)] _ (c_X0_timeAt Γ.2.1 hI 6 (oo0 + 1) hh0.2.1 ((σ12 (oo0 + 1) 3) - 1) σ12) (wG_V wm_11_1 wm_10_22 wm_10_23 wm_11_0 wm_2_23) rfl rfl rfl (by decide +kernel) ⟨Nat.le_of_ble_eq_true rfl, Nat.le_of_ble_eq_true rfl⟩ hh0.2.1.1.1 hh0.2.1.1.2 rfl (T := TX0) (C := RX0) rfl rfl rfl (Nat.le_of_ble_eq_true rfl) ⟨Nat.le_of_ble_eq_true rfl, Nat.le_of_ble_eq_true rfl⟩ dX2_sendLetters_55 (fun zz15 σ14 => ?_)
        refine xr_istore (pc := 58) X (i := 7) (lv2 := [(0, .ref (ad oo0)), (1, .int pp1), (2, .ref (ad aa2)), (3, .int pp3), (4, .int zz1), (5, .int zz7), (6, .int zz13), (7, .int zz15)]) [1, 2, 3, 4, 5, 6, 7, 0] (Nat.le_of_ble_eq_true rfl) hnL rfl dX2_sendLetters_58 ?_
        refine xr_aload_n (pc := 60) X (i := 0) 0 rfl rfl dX2_sendLetters_60 ?_
        refine xgX2 (pc := 61) X (oo0) hh0.1 1 wm_3_22 rfl rfl (by decide) rfl dX2_sendLetters_61 ?_
        refine xr_iload_n (pc := 64) X (i := 1) 1 rfl rfl dX2_sendLetters_64 ?_
        refine xr_aload_n (pc := 65) X (i := 2) 2 rfl rfl dX2_sendLetters_65 ?_
        refine xr_iconst (pc := 66) X dX2_sendLetters_66 (v := 0) (by decide) ?_
        refine xr_iald (pc := 67) X (aa2) (nn2) hh2.1 hh2.2 dX2_sendLetters_67 (fun zz16 => ?_)
        refine xr_iadd (pc := 68) X dX2_sendLetters_68 ?_
        refine xr_iload (pc := 69) X (i := 7) 7 rfl dX2_sendLetters_69 ?_
        refine xr_max (pc := 71) X (List.mem_cons_of_mem _ wm_10_17) (List.mem_cons_of_mem _ wm_3_11) (List.mem_cons_of_mem _ wm_3_12) (List.mem_cons_of_mem _ wm_3_13) (Nat.le_of_ble_eq_true rfl) (Nat.le_of_ble_eq_true rfl) (Nat.le_of_ble_eq_true rfl) (Nat.le_of_ble_eq_true rfl) dX2_sendLetters_71 ?_
        refine x_leti (fun zz17 => ?_)
        refine xr_aload_n (pc := 74) X (i := 0) 0 rfl rfl dX2_sendLetters_74 ?_
        refine xgX2 (pc := 75) X (oo0) hh0.1 0 wm_4_0 rfl rfl (by decide) rfl dX2_sendLetters_75 ?_
        refine xr_iload (pc := 78) X (i := 6) 6 rfl dX2_sendLetters_78 ?_
        refine xr_callVV (na := 3) (pc := 80) X (oo0 + 1) [.int zz17, .int (σ14 oo0 0), .int zz13] _ (c_X0_addLast Γ.2.1 hI 6 (oo0 + 1) hh0.2.1 zz17 (σ14 oo0 0) zz13 σ14) (wG_V wm_11_5 wm_11_2 wm_11_3 wm_11_4 wm_2_23) rfl rfl rfl (by decide +kernel) ⟨Nat.le_of_ble_eq_true rfl, Nat.le_of_ble_eq_true rfl⟩ hh0.2.1.1.1 hh0.2.1.1.2 rfl (T := TX0) (C := RX0) rfl rfl rfl (Nat.le_of_ble_eq_true rfl) ⟨Nat.le_of_ble_eq_true rfl, Nat.le_of_ble_eq_true rfl⟩ dX2_sendLetters_80 (fun σ18 => ?_)
        refine xr_aload_n (pc := 83) X (i := 0) 0 rfl rfl dX2_sendLetters_83 ?_
        refine xr_dup (pc := 84) X rfl dX2_sendLetters_84 ?_
        refine xgX2 (pc := 85) X (oo0) hh0.1 2 wm_4_16 rfl rfl (by decide) rfl dX2_sendLetters_85 ?_
        refine xr_iload (pc := 88) X (i := 6) 6 rfl dX2_sendLetters_88 ?_
        refine xr_isub (pc := 90) X dX2_sendLetters_90 ?_
        refine xpX2 (pc := 91) X (oo0) hh0.1 2 wm_4_16 (ty := .int) rfl (fun _ => rfl) rfl (by decide +kernel) rfl rfl (Nat.le_of_ble_eq_true rfl) (by decide) rfl dX2_sendLetters_91 (fun σ19 => ?_)
        refine xr_aload_n (pc := 94) X (i := 0) 0 rfl rfl dX2_sendLetters_94 ?_
        refine xr_dup (pc := 95) X rfl dX2_sendLetters_95 ?_
        refine xgX2 (pc := 96) X (oo0) hh0.1 5 wm_4_19 rfl rfl (by decide) rfl dX2_sendLetters_96 ?_
        refine xr_iconst (pc := 99) X dX2_sendLetters_99 (v := 1) (by decide) ?_
        refine xr_iadd (pc := 100) X dX2_sendLetters_100 ?_
        refine xpX2 (pc := 101) X (oo0) hh0.1 5 wm_4_19 (ty := .int) rfl (fun _ => rfl) rfl (by decide +kernel) rfl rfl (Nat.le_of_ble_eq_true rfl) (by decide) rfl dX2_sendLetters_101 (fun σ20 => ?_)
        refine xr_iinc (pc := 104) X (i := 5) (j := 5) [1, 2, 3, 4, 5, 0, 6, 7] (Nat.le_of_ble_eq_true rfl) hnL rfl (congrArg (fun w => zz7 + w) (show Int32.ofInt (-1) = (-1 : Int32) by decide)) (fun zz21 => [(0, .ref (ad oo0)), (1, .int pp1), (2, .ref (ad aa2)), (3, .int pp3), (4, .int zz1), (5, .int zz21), (6, .int zz13), (7, .int zz15)]) (fun _ => rfl) dX2_sendLetters_104 (fun zz21 => ?_)
        refine xr_goto (pc := 107) X 19 (by decide) dX2_sendLetters_107 ?_
        exact x_sub [0, 1, 2, 3, 4, 5] rfl (ihh10 _ _)
      refine xr_goto (pc := 39) X 110 (by decide) dX2_sendLetters_39 ?_
      exact x_sub [0, 4] rfl (hKK6  _)
  refine hLL22 _ (fun σ4 => ?_) _ _ _
  refine xr_aload_n (pc := 110) X (i := 0) 0 rfl rfl dX2_sendLetters_110 ?_
  refine xgX2 (pc := 111) X (oo0) hh0.1 5 wm_4_19 rfl rfl (by decide) rfl dX2_sendLetters_111 ?_
  refine xr_iload (pc := 114) X (i := 4) 1 rfl dX2_sendLetters_114 ?_
  refine xr_isub (pc := 116) X dX2_sendLetters_116 ?_
  exact xr_iret (pc := 117) X (Nat.le_of_ble_eq_true rfl) (Nat.le_of_ble_eq_true rfl) dX2_sendLetters_117
def F_X2_sendAnswer (oo0 : Nat) (pp1 : Int32) (pp2 : Int32) (σ : xS) : Option xS :=
  xbI (F_X0_timeAt 6 (oo0 + 5) ((σ (oo0 + 5) 3) - 1) σ) (fun (zz2 : Int32) (σ1 : xS) => xlet (if (pp1 + pp2) < zz2 then zz2 else (pp1 + pp2)) (fun (zz3 : Int32) => xbV (F_X0_addLast 6 (oo0 + 5) zz3 (σ1 oo0 0) (σ1 oo0 10) σ1) (fun (σ4 : xS) => xlet (xu σ4 oo0 13 ((σ4 oo0 13) + 1)) (fun (σ5 : xS) => xlet (xu σ5 oo0 11 0) (fun (σ6 : xS) => xlet (xu σ6 oo0 12 ((-1))) (fun (σ7 : xS) => some σ7))))))
abbrev rm_X2_sendAnswer : Room := { frames := 1, cells := 0, slots := 0, locals := 23 }
set_option maxHeartbeats 4000000 in
set_option maxRecDepth 100000 in
theorem c_X2_sendAnswer (l : Launch) {D : va_G} {ad : Nat → Nat} {N : Nat} {Sh : xSh} (hI : ∀ i j, i < N → j < N → ad i = ad j → i = j) (oo0 : Nat) (hh0 : xIs2 D ad N Sh oo0) (pp1 : Int32) (pp2 : Int32) (σ : xS) : xKV l yX2_sendAnswer (Cond.code yX2_sendAnswer cX2_sendAnswer 4 none :: wG) rm_X2_sendAnswer 0 0 D ad N Sh [.ref (ad oo0), .int pp1, .int pp2] σ (F_X2_sendAnswer oo0 pp1 pp2 σ) := by
  refine x_startV (own := RX2) (maxL := 4) (by decide) rfl rfl (Nat.le_of_ble_eq_true rfl) rfl hI (fun Γ hl hnL X => ?_)
  subst hl
  unfold F_X2_sendAnswer
  refine xr_aload_n (pc := 0) X (i := 0) 0 rfl rfl dX2_sendAnswer_0 ?_
  refine xgX2 (pc := 1) X (oo0) hh0.1 8 wm_3_23 rfl rfl (by decide) rfl dX2_sendAnswer_1 ?_
  refine xr_aload_n (pc := 4) X (i := 0) 0 rfl rfl dX2_sendAnswer_4 ?_
  refine xgX2 (pc := 5) X (oo0) hh0.1 8 wm_3_23 rfl rfl (by decide) rfl dX2_sendAnswer_5 ?_
  refine xgNX0 (pc := 8) X (oo0 + 5) hh0.2.2.1 3 16 rfl rfl rfl (by decide) rfl dX2_sendAnswer_8 ?_
  refine xr_iconst (pc := 11) X dX2_sendAnswer_11 (v := 1) (by decide) ?_
  refine xr_isub (pc := 12) X dX2_sendAnswer_12 ?_
  refine xr_callVI (na := 1) (pc := 13) X (oo0 + 5) [.int ((σ (oo0 + 5) 3) - 1)] _ (c_X0_timeAt Γ.2.1 hI 6 (oo0 + 5) hh0.2.2 ((σ (oo0 + 5) 3) - 1) σ) (wG_V wm_11_1 wm_10_22 wm_10_23 wm_11_0 wm_2_23) rfl rfl rfl (by decide +kernel) ⟨Nat.le_of_ble_eq_true rfl, Nat.le_of_ble_eq_true rfl⟩ hh0.2.2.1.1 hh0.2.2.1.2 rfl (T := TX0) (C := RX0) rfl rfl rfl (Nat.le_of_ble_eq_true rfl) ⟨Nat.le_of_ble_eq_true rfl, Nat.le_of_ble_eq_true rfl⟩ dX2_sendAnswer_13 (fun zz2 σ1 => ?_)
  refine xr_istore_n (pc := 16) X (hf := rfl) (i := 3) (lv2 := [(0, .ref (ad oo0)), (1, .int pp1), (2, .int pp2), (3, .int zz2)]) [1, 2, 3, 0] (Nat.le_of_ble_eq_true rfl) hnL rfl dX2_sendAnswer_16 ?_
  refine xr_aload_n (pc := 17) X (i := 0) 0 rfl rfl dX2_sendAnswer_17 ?_
  refine xgX2 (pc := 18) X (oo0) hh0.1 8 wm_3_23 rfl rfl (by decide) rfl dX2_sendAnswer_18 ?_
  refine xr_iload_n (pc := 21) X (i := 1) 1 rfl rfl dX2_sendAnswer_21 ?_
  refine xr_iload_n (pc := 22) X (i := 2) 2 rfl rfl dX2_sendAnswer_22 ?_
  refine xr_iadd (pc := 23) X dX2_sendAnswer_23 ?_
  refine xr_iload_n (pc := 24) X (i := 3) 3 rfl rfl dX2_sendAnswer_24 ?_
  refine xr_max (pc := 25) X (List.mem_cons_of_mem _ wm_10_17) (List.mem_cons_of_mem _ wm_3_11) (List.mem_cons_of_mem _ wm_3_12) (List.mem_cons_of_mem _ wm_3_13) (Nat.le_of_ble_eq_true rfl) (Nat.le_of_ble_eq_true rfl) (Nat.le_of_ble_eq_true rfl) (Nat.le_of_ble_eq_true rfl) dX2_sendAnswer_25 ?_
  refine x_leti (fun zz3 => ?_)
  refine xr_aload_n (pc := 28) X (i := 0) 0 rfl rfl dX2_sendAnswer_28 ?_
  refine xgX2 (pc := 29) X (oo0) hh0.1 0 wm_4_0 rfl rfl (by decide) rfl dX2_sendAnswer_29 ?_
  refine xr_aload_n (pc := 32) X (i := 0) 0 rfl rfl dX2_sendAnswer_32 ?_
  refine xgX2 (pc := 33) X (oo0) hh0.1 10 wm_4_23 rfl rfl (by decide) rfl dX2_sendAnswer_33 ?_
  refine xr_callVV (na := 3) (pc := 36) X (oo0 + 5) [.int zz3, .int (σ1 oo0 0), .int (σ1 oo0 10)] _ (c_X0_addLast Γ.2.1 hI 6 (oo0 + 5) hh0.2.2 zz3 (σ1 oo0 0) (σ1 oo0 10) σ1) (wG_V wm_11_5 wm_11_2 wm_11_3 wm_11_4 wm_2_23) rfl rfl rfl (by decide +kernel) ⟨Nat.le_of_ble_eq_true rfl, Nat.le_of_ble_eq_true rfl⟩ hh0.2.2.1.1 hh0.2.2.1.2 rfl (T := TX0) (C := RX0) rfl rfl rfl (Nat.le_of_ble_eq_true rfl) ⟨Nat.le_of_ble_eq_true rfl, Nat.le_of_ble_eq_true rfl⟩ dX2_sendAnswer_36 (fun σ4 => ?_)
  refine xr_aload_n (pc := 39) X (i := 0) 0 rfl rfl dX2_sendAnswer_39 ?_
  refine xr_dup (pc := 40) X rfl dX2_sendAnswer_40 ?_
  refine xgX2 (pc := 41) X (oo0) hh0.1 13 wm_5_2 rfl rfl (by decide) rfl dX2_sendAnswer_41 ?_
  refine xr_iconst (pc := 44) X dX2_sendAnswer_44 (v := 1) (by decide) ?_
  refine xr_iadd (pc := 45) X dX2_sendAnswer_45 ?_
  refine xpX2 (pc := 46) X (oo0) hh0.1 13 wm_5_2 (ty := .int) rfl (fun _ => rfl) rfl (by decide +kernel) rfl rfl (Nat.le_of_ble_eq_true rfl) (by decide) rfl dX2_sendAnswer_46 (fun σ5 => ?_)
  refine xr_aload_n (pc := 49) X (i := 0) 0 rfl rfl dX2_sendAnswer_49 ?_
  refine xr_iconst (pc := 50) X dX2_sendAnswer_50 (v := 0) (by decide) ?_
  refine xpX2 (pc := 51) X (oo0) hh0.1 11 wm_5_0 (ty := .int) rfl (fun _ => rfl) rfl (by decide +kernel) rfl rfl (Nat.le_of_ble_eq_true rfl) (by decide) rfl dX2_sendAnswer_51 (fun σ6 => ?_)
  refine xr_aload_n (pc := 54) X (i := 0) 0 rfl rfl dX2_sendAnswer_54 ?_
  refine xr_iconst (pc := 55) X dX2_sendAnswer_55 (v := (-1)) (by decide) ?_
  refine xpX2 (pc := 56) X (oo0) hh0.1 12 wm_5_1 (ty := .int) rfl (fun _ => rfl) rfl (by decide +kernel) rfl rfl (Nat.le_of_ble_eq_true rfl) (by decide) rfl dX2_sendAnswer_56 (fun σ7 => ?_)
  exact xr_vret (pc := 59) X (Nat.le_refl _) (Nat.le_refl _) dX2_sendAnswer_59
def L_X2_receiveLetters_16 (oo0 : Nat) (pp1 : Int32) (nn2 : Nat) (aa2 : Nat) (KK4 : xS → Option (Int32 × xS)) : Nat → Int32 → xS → Option (Int32 × xS)
  | 0, _, _ => none
  | nn_8 + 1, zz6, σ7 => if (σ7 (oo0 + 1) 3) ≤ zz6 then (KK4 σ7)
 else (xbI (F_X0_timeAt 6 (oo0 + 1) zz6 σ7) (fun (zz11 : Int32) (σ10 : xS) => if ¬ zz11 = pp1 then (KK4 σ10)
 else (xbI (F_X0_numberAt 6 (oo0 + 1) zz6 σ10) (fun (zz13 : Int32) (σ12 : xS) => xlet (xu σ12 oo0 9 ((σ10 oo0 9) + zz13)) (fun (σ14 : xS) => xlet (xu σ14 oo0 10 ((σ14 oo0 10) + 1)) (fun (σ15 : xS) => xlet (xu σ15 oo0 11 ((σ15 oo0 11) + 1)) (fun (σ16 : xS) => xjn (fun (σ17 : xS) => if xin (0 : Int32) nn2 = true then (xlet (σ17 aa2 (0 : Int32).toNatClampNeg) (fun (zz25 : Int32) => xbV (F_X2_sendAnswer oo0 pp1 zz25 σ17) (fun (σ26 : xS) => xlet (zz6 + 1) (fun (zz27 : Int32) => L_X2_receiveLetters_16 oo0 pp1 nn2 aa2 KK4 nn_8 zz27 σ26)))) else none)
 (fun (KK18 : xS → Option (Int32 × xS)) => if (σ16 oo0 11) = 2 then (KK18 σ16)
 else (if xin (1 : Int32) nn2 = true then (xlet (σ16 aa2 (1 : Int32).toNatClampNeg) (fun (zz20 : Int32) => if ¬ zz20 = 0 then (if ¬ (σ16 oo0 12) = ((-1)) then (xlet (zz6 + 1) (fun (zz21 : Int32) => L_X2_receiveLetters_16 oo0 pp1 nn2 aa2 KK4 nn_8 zz21 σ16))
 else (if xin (1 : Int32) nn2 = true then (xlet (σ16 aa2 (1 : Int32).toNatClampNeg) (fun (zz22 : Int32) => xlet (xu σ16 oo0 12 (pp1 + zz22)) (fun (σ23 : xS) => xlet (zz6 + 1) (fun (zz24 : Int32) => L_X2_receiveLetters_16 oo0 pp1 nn2 aa2 KK4 nn_8 zz24 σ23)))) else none))
 else (KK18 σ16))) else none)))))))))
def F_X2_receiveLetters (oo0 : Nat) (pp1 : Int32) (nn2 aa2 : Nat) (σ : xS) : Option (Int32 × xS) :=
  xlet (σ oo0 9) (fun (zz1 : Int32) => xlet ((σ oo0 10) - (σ oo0 6)) (fun (zz2 : Int32) => L_X2_receiveLetters_16 oo0 pp1 nn2 aa2 (fun (σ3 : xS) => some (((σ3 oo0 9) - zz1), σ3)) 1000 zz2 σ))
abbrev rm_X2_receiveLetters : Room := { frames := 2, cells := 0, slots := 0, locals := 46 }
set_option maxHeartbeats 4000000 in
set_option maxRecDepth 100000 in
theorem c_X2_receiveLetters (l : Launch) {D : va_G} {ad : Nat → Nat} {N : Nat} {Sh : xSh} (hI : ∀ i j, i < N → j < N → ad i = ad j → i = j) (oo0 : Nat) (hh0 : xIs2 D ad N Sh oo0) (pp1 : Int32) (nn2 aa2 : Nat) (hh2 : xHas N Sh aa2 (shI D nn2)) (σ : xS) : xKI l yX2_receiveLetters (Cond.code yX2_receiveLetters cX2_receiveLetters 5 (some .int) :: wG) rm_X2_receiveLetters 0 0 D ad N Sh [.ref (ad oo0), .int pp1, .ref (ad aa2)] σ (F_X2_receiveLetters oo0 pp1 nn2 aa2 σ) := by
  refine x_startI (own := RX2) (maxL := 5) (by decide) rfl rfl (Nat.le_of_ble_eq_true rfl) rfl hI (fun Γ hl hnL X => ?_)
  subst hl
  unfold F_X2_receiveLetters
  refine xr_aload_n (pc := 0) X (i := 0) 0 rfl rfl dX2_receiveLetters_0 ?_
  refine xgX2 (pc := 1) X (oo0) hh0.1 9 wm_4_22 rfl rfl (by decide) rfl dX2_receiveLetters_1 ?_
  refine x_leti (fun zz1 => ?_)
  refine xr_istore_n (pc := 4) X (hf := rfl) (i := 3) (lv2 := [(0, .ref (ad oo0)), (1, .int pp1), (2, .ref (ad aa2)), (3, .int zz1)]) [1, 2, 3, 0] (Nat.le_of_ble_eq_true rfl) hnL rfl dX2_receiveLetters_4 ?_
  refine xr_aload_n (pc := 5) X (i := 0) 0 rfl rfl dX2_receiveLetters_5 ?_
  refine xgX2 (pc := 6) X (oo0) hh0.1 10 wm_4_23 rfl rfl (by decide) rfl dX2_receiveLetters_6 ?_
  refine xr_aload_n (pc := 9) X (i := 0) 0 rfl rfl dX2_receiveLetters_9 ?_
  refine xgX2 (pc := 10) X (oo0) hh0.1 6 wm_4_20 rfl rfl (by decide) rfl dX2_receiveLetters_10 ?_
  refine xr_isub (pc := 13) X dX2_receiveLetters_13 ?_
  refine x_leti (fun zz2 => ?_)
  refine xr_istore (pc := 14) X (i := 4) (lv2 := [(0, .ref (ad oo0)), (1, .int pp1), (2, .ref (ad aa2)), (3, .int zz1), (4, .int zz2)]) [1, 2, 3, 4, 0] (Nat.le_of_ble_eq_true rfl) hnL rfl dX2_receiveLetters_14 ?_
  have hLL28 : ∀ (KK4 : xS → Option (Int32 × xS)) (hKK5 : ∀ σ3, xM Γ D ad N Sh (xQI Γ D ad N Sh 0 0) 0 0 (KK4 σ3) σ3 127 [(0, .ref (ad oo0)), (3, .int zz1)] []), ∀ (nn_8 : Nat) zz6 σ7, xM Γ D ad N Sh (xQI Γ D ad N Sh 0 0) 0 0 (L_X2_receiveLetters_16 oo0 pp1 nn2 aa2 KK4 nn_8 zz6 σ7) σ7 16 [(0, .ref (ad oo0)), (1, .int pp1), (2, .ref (ad aa2)), (3, .int zz1), (4, .int zz6)] [] := by
    intro KK4 hKK5 nn_8
    induction nn_8 with
    | zero => intro zz6 σ7; exact xM_none
    | succ nn_8 ihh9 =>
      intro zz6 σ7
      rw [L_X2_receiveLetters_16]
      refine xr_iload (pc := 16) X (i := 4) 4 rfl dX2_receiveLetters_16 ?_
      refine xr_aload_n (pc := 18) X (i := 0) 0 rfl rfl dX2_receiveLetters_18 ?_
      refine xgX2 (pc := 19) X (oo0) hh0.1 1 wm_3_22 rfl rfl (by decide) rfl dX2_receiveLetters_19 ?_
      refine xgNX0 (pc := 22) X (oo0 + 1) hh0.2.1.1 3 16 rfl rfl rfl (by decide) rfl dX2_receiveLetters_22 ?_
      refine xr_icmp_ge (pc := 25) X 127 (by decide) dX2_receiveLetters_25 (fun _ => ?_) (fun _ => ?_)
      · exact x_sub [0, 3] rfl (hKK5  _)
      refine xr_aload_n (pc := 28) X (i := 0) 0 rfl rfl dX2_receiveLetters_28 ?_
      refine xgX2 (pc := 29) X (oo0) hh0.1 1 wm_3_22 rfl rfl (by decide) rfl dX2_receiveLetters_29 ?_
      refine xr_iload (pc := 32) X (i := 4) 4 rfl dX2_receiveLetters_32 ?_
      refine xr_callVI (na := 1) (pc := 34) X (oo0 + 1) [.int zz6] _ (c_X0_timeAt Γ.2.1 hI 6 (oo0 + 1) hh0.2.1 zz6 σ7) (wG_V wm_11_1 wm_10_22 wm_10_23 wm_11_0 wm_2_23) rfl rfl rfl (by decide +kernel) ⟨Nat.le_of_ble_eq_true rfl, Nat.le_of_ble_eq_true rfl⟩ hh0.2.1.1.1 hh0.2.1.1.2 rfl (T := TX0) (C := RX0) rfl rfl rfl (Nat.le_of_ble_eq_true rfl) ⟨Nat.le_of_ble_eq_true rfl, Nat.le_of_ble_eq_true rfl⟩ dX2_receiveLetters_34 (fun zz11 σ10 => ?_)
      refine xr_iload_n (pc := 37) X (i := 1) 1 rfl rfl dX2_receiveLetters_37 ?_
      refine xr_icmp_ne (pc := 38) X 127 (by decide) dX2_receiveLetters_38 (fun _ => ?_) (fun _ => ?_)
      · exact x_sub [0, 3] rfl (hKK5  _)
      refine xr_aload_n (pc := 41) X (i := 0) 0 rfl rfl dX2_receiveLetters_41 ?_
      refine xr_dup (pc := 42) X rfl dX2_receiveLetters_42 ?_
      refine xgX2 (pc := 43) X (oo0) hh0.1 9 wm_4_22 rfl rfl (by decide) rfl dX2_receiveLetters_43 ?_
      refine xr_aload_n (pc := 46) X (i := 0) 0 rfl rfl dX2_receiveLetters_46 ?_
      refine xgX2 (pc := 47) X (oo0) hh0.1 1 wm_3_22 rfl rfl (by decide) rfl dX2_receiveLetters_47 ?_
      refine xr_iload (pc := 50) X (i := 4) 4 rfl dX2_receiveLetters_50 ?_
      refine xr_callVI (na := 1) (pc := 52) X (oo0 + 1) [.int zz6] _ (c_X0_numberAt Γ.2.1 hI 6 (oo0 + 1) hh0.2.1 zz6 σ10) (wG_V wm_12_0 wm_12_9 wm_11_22 wm_11_23 wm_2_23) rfl rfl rfl (by decide +kernel) ⟨Nat.le_of_ble_eq_true rfl, Nat.le_of_ble_eq_true rfl⟩ hh0.2.1.1.1 hh0.2.1.1.2 rfl (T := TX0) (C := RX0) rfl rfl rfl (Nat.le_of_ble_eq_true rfl) ⟨Nat.le_of_ble_eq_true rfl, Nat.le_of_ble_eq_true rfl⟩ dX2_receiveLetters_52 (fun zz13 σ12 => ?_)
      refine xr_iadd (pc := 55) X dX2_receiveLetters_55 ?_
      refine xpX2 (pc := 56) X (oo0) hh0.1 9 wm_4_22 (ty := .int) rfl (fun _ => rfl) rfl (by decide +kernel) rfl rfl (Nat.le_of_ble_eq_true rfl) (by decide) rfl dX2_receiveLetters_56 (fun σ14 => ?_)
      refine xr_aload_n (pc := 59) X (i := 0) 0 rfl rfl dX2_receiveLetters_59 ?_
      refine xr_dup (pc := 60) X rfl dX2_receiveLetters_60 ?_
      refine xgX2 (pc := 61) X (oo0) hh0.1 10 wm_4_23 rfl rfl (by decide) rfl dX2_receiveLetters_61 ?_
      refine xr_iconst (pc := 64) X dX2_receiveLetters_64 (v := 1) (by decide) ?_
      refine xr_iadd (pc := 65) X dX2_receiveLetters_65 ?_
      refine xpX2 (pc := 66) X (oo0) hh0.1 10 wm_4_23 (ty := .int) rfl (fun _ => rfl) rfl (by decide +kernel) rfl rfl (Nat.le_of_ble_eq_true rfl) (by decide) rfl dX2_receiveLetters_66 (fun σ15 => ?_)
      refine xr_aload_n (pc := 69) X (i := 0) 0 rfl rfl dX2_receiveLetters_69 ?_
      refine xr_dup (pc := 70) X rfl dX2_receiveLetters_70 ?_
      refine xgX2 (pc := 71) X (oo0) hh0.1 11 wm_5_0 rfl rfl (by decide) rfl dX2_receiveLetters_71 ?_
      refine xr_iconst (pc := 74) X dX2_receiveLetters_74 (v := 1) (by decide) ?_
      refine xr_iadd (pc := 75) X dX2_receiveLetters_75 ?_
      refine xpX2 (pc := 76) X (oo0) hh0.1 11 wm_5_0 (ty := .int) rfl (fun _ => rfl) rfl (by decide +kernel) rfl rfl (Nat.le_of_ble_eq_true rfl) (by decide) rfl dX2_receiveLetters_76 (fun σ16 => ?_)
      refine xr_aload_n (pc := 79) X (i := 0) 0 rfl rfl dX2_receiveLetters_79 ?_
      refine xgX2 (pc := 80) X (oo0) hh0.1 11 wm_5_0 rfl rfl (by decide) rfl dX2_receiveLetters_80 ?_
      refine xr_iconst (pc := 83) X dX2_receiveLetters_83 (v := 2) (by decide) ?_
      refine x_jn (fun (KK18 : xS → Option (Int32 × xS)) => ∀ σ17, xM Γ D ad N Sh (xQI Γ D ad N Sh 0 0) 0 0 (KK18 σ17) σ17 93 [(0, .ref (ad oo0)), (1, .int pp1), (2, .ref (ad aa2)), (3, .int zz1), (4, .int zz6)] []) (fun σ17 => ?_) (fun KK18 hKK19 => ?_)
      · refine xr_aload_n (pc := 93) X (i := 0) 0 rfl rfl dX2_receiveLetters_93 ?_
        refine xr_iload_n (pc := 94) X (i := 1) 1 rfl rfl dX2_receiveLetters_94 ?_
        refine xr_aload_n (pc := 95) X (i := 2) 2 rfl rfl dX2_receiveLetters_95 ?_
        refine xr_iconst (pc := 96) X dX2_receiveLetters_96 (v := 0) (by decide) ?_
        refine xr_iald (pc := 97) X (aa2) (nn2) hh2.1 hh2.2 dX2_receiveLetters_97 (fun zz25 => ?_)
        refine xr_callVV (na := 2) (pc := 98) X (oo0) [.int pp1, .int zz25] _ (c_X2_sendAnswer Γ.2.1 hI oo0 hh0 pp1 zz25 σ17) (wG_V wm_12_13 wm_12_10 wm_12_11 wm_12_12 wm_3_4) rfl rfl rfl (by decide +kernel) ⟨Nat.le_of_ble_eq_true rfl, Nat.le_of_ble_eq_true rfl⟩ hh0.1.1 hh0.1.2 rfl (T := TX2) (C := RX2) rfl rfl rfl (Nat.le_of_ble_eq_true rfl) ⟨Nat.le_of_ble_eq_true rfl, Nat.le_of_ble_eq_true rfl⟩ dX2_receiveLetters_98 (fun σ26 => ?_)
        refine xr_goto (pc := 101) X 121 (by decide) dX2_receiveLetters_101 ?_
        refine xr_iinc (pc := 121) X (i := 4) (j := 4) [1, 2, 3, 4, 0] (Nat.le_of_ble_eq_true rfl) hnL rfl rfl (fun zz27 => [(0, .ref (ad oo0)), (1, .int pp1), (2, .ref (ad aa2)), (3, .int zz1), (4, .int zz27)]) (fun _ => rfl) dX2_receiveLetters_121 (fun zz27 => ?_)
        refine xr_goto (pc := 124) X 16 (by decide) dX2_receiveLetters_124 ?_
        exact ihh9 _ _
      refine xr_icmp_eq (pc := 84) X 93 (by decide) dX2_receiveLetters_84 (fun _ => ?_) (fun _ => ?_)
      · exact hKK19  _
      refine xr_aload_n (pc := 87) X (i := 2) 2 rfl rfl dX2_receiveLetters_87 ?_
      refine xr_iconst (pc := 88) X dX2_receiveLetters_88 (v := 1) (by decide) ?_
      refine xr_iald (pc := 89) X (aa2) (nn2) hh2.1 hh2.2 dX2_receiveLetters_89 (fun zz20 => ?_)
      refine xr_if_ne (pc := 90) X 104 (by decide) dX2_receiveLetters_90 (fun _ => ?_) (fun _ => ?_)
      · refine xr_aload_n (pc := 104) X (i := 0) 0 rfl rfl dX2_receiveLetters_104 ?_
        refine xgX2 (pc := 105) X (oo0) hh0.1 12 wm_5_1 rfl rfl (by decide) rfl dX2_receiveLetters_105 ?_
        refine xr_iconst (pc := 108) X dX2_receiveLetters_108 (v := (-1)) (by decide) ?_
        refine xr_icmp_ne (pc := 109) X 121 (by decide) dX2_receiveLetters_109 (fun _ => ?_) (fun _ => ?_)
        · refine xr_iinc (pc := 121) X (i := 4) (j := 4) [1, 2, 3, 4, 0] (Nat.le_of_ble_eq_true rfl) hnL rfl rfl (fun zz21 => [(0, .ref (ad oo0)), (1, .int pp1), (2, .ref (ad aa2)), (3, .int zz1), (4, .int zz21)]) (fun _ => rfl) dX2_receiveLetters_121 (fun zz21 => ?_)
          refine xr_goto (pc := 124) X 16 (by decide) dX2_receiveLetters_124 ?_
          exact ihh9 _ _
        refine xr_aload_n (pc := 112) X (i := 0) 0 rfl rfl dX2_receiveLetters_112 ?_
        refine xr_iload_n (pc := 113) X (i := 1) 1 rfl rfl dX2_receiveLetters_113 ?_
        refine xr_aload_n (pc := 114) X (i := 2) 2 rfl rfl dX2_receiveLetters_114 ?_
        refine xr_iconst (pc := 115) X dX2_receiveLetters_115 (v := 1) (by decide) ?_
        refine xr_iald (pc := 116) X (aa2) (nn2) hh2.1 hh2.2 dX2_receiveLetters_116 (fun zz22 => ?_)
        refine xr_iadd (pc := 117) X dX2_receiveLetters_117 ?_
        refine xpX2 (pc := 118) X (oo0) hh0.1 12 wm_5_1 (ty := .int) rfl (fun _ => rfl) rfl (by decide +kernel) rfl rfl (Nat.le_of_ble_eq_true rfl) (by decide) rfl dX2_receiveLetters_118 (fun σ23 => ?_)
        refine xr_iinc (pc := 121) X (i := 4) (j := 4) [1, 2, 3, 4, 0] (Nat.le_of_ble_eq_true rfl) hnL rfl rfl (fun zz24 => [(0, .ref (ad oo0)), (1, .int pp1), (2, .ref (ad aa2)), (3, .int zz1), (4, .int zz24)]) (fun _ => rfl) dX2_receiveLetters_121 (fun zz24 => ?_)
        refine xr_goto (pc := 124) X 16 (by decide) dX2_receiveLetters_124 ?_
        exact ihh9 _ _
      exact hKK19  _
  refine hLL28 _ (fun σ3 => ?_) _ _ _
  refine xr_aload_n (pc := 127) X (i := 0) 0 rfl rfl dX2_receiveLetters_127 ?_
  refine xgX2 (pc := 128) X (oo0) hh0.1 9 wm_4_22 rfl rfl (by decide) rfl dX2_receiveLetters_128 ?_
  refine xr_iload_n (pc := 131) X (i := 3) 1 rfl rfl dX2_receiveLetters_131 ?_
  refine xr_isub (pc := 132) X dX2_receiveLetters_132 ?_
  exact xr_iret (pc := 133) X (Nat.le_of_ble_eq_true rfl) (Nat.le_of_ble_eq_true rfl) dX2_receiveLetters_133
def L_X2_receiveAnswers_36 (oo0 : Nat) (zz14 : Int32) (KK18 : xS → Option (Int32 × xS)) : Nat → xS → Option (Int32 × xS)
  | 0, _ => none
  | nn_21 + 1, σ20 => if zz14 ≤ (σ20 oo0 6) then (KK18 σ20)
 else (xbV (F_X0_dropAt 6 (oo0 + 1) 0 σ20) (fun (σ23 : xS) => xlet (xu σ23 oo0 6 ((σ23 oo0 6) + 1)) (fun (σ24 : xS) => L_X2_receiveAnswers_36 oo0 zz14 KK18 nn_21 σ24)))
def L_X2_receiveAnswers_10 (oo0 : Nat) (pp1 : Int32) (KK4 : Int32 → xS → Option (Int32 × xS)) : Nat → Int32 → Int32 → xS → Option (Int32 × xS)
  | 0, _, _, _ => none
  | nn_9 + 1, zz6, zz7, σ8 => if zz7 ≤ 0 then (KK4 zz6 σ8)
 else (xbI (F_X0_timeAt 6 (oo0 + 5) 0 σ8) (fun (zz12 : Int32) (σ11 : xS) => if ¬ zz12 = pp1 then (KK4 zz6 σ11)
 else (xbI (F_X0_numberAt 6 (oo0 + 5) 0 σ11) (fun (zz14 : Int32) (σ13 : xS) => L_X2_receiveAnswers_36 oo0 zz14 (fun (σ15 : xS) => xbV (F_X0_dropAt 6 (oo0 + 5) 0 σ15) (fun (σ16 : xS) => xlet (zz7 + (-1)) (fun (zz17 : Int32) => L_X2_receiveAnswers_10 oo0 pp1 KK4 nn_9 1 zz17 σ16))) 1000  σ13))))
def F_X2_receiveAnswers (oo0 : Nat) (pp1 : Int32) (σ : xS) : Option (Int32 × xS) :=
  xlet (σ (oo0 + 5) 3) (fun (zz1 : Int32) => L_X2_receiveAnswers_10 oo0 pp1 (fun (zz2 : Int32) (σ3 : xS) => if vp_nar .boolean zz2 = zz2 then some (zz2, σ3) else none) 1000 0 zz1 σ)
abbrev rm_X2_receiveAnswers : Room := { frames := 1, cells := 0, slots := 0, locals := 22 }
set_option maxHeartbeats 4000000 in
set_option maxRecDepth 100000 in
theorem c_X2_receiveAnswers (l : Launch) {D : va_G} {ad : Nat → Nat} {N : Nat} {Sh : xSh} (hI : ∀ i j, i < N → j < N → ad i = ad j → i = j) (oo0 : Nat) (hh0 : xIs2 D ad N Sh oo0) (pp1 : Int32) (σ : xS) : xKI l yX2_receiveAnswers (Cond.code yX2_receiveAnswers cX2_receiveAnswers 5 (some .boolean) :: wG) rm_X2_receiveAnswers 0 0 D ad N Sh [.ref (ad oo0), .int pp1] σ (F_X2_receiveAnswers oo0 pp1 σ) := by
  refine x_startI (own := RX2) (maxL := 5) (by decide) rfl rfl (Nat.le_of_ble_eq_true rfl) rfl hI (fun Γ hl hnL X => ?_)
  subst hl
  unfold F_X2_receiveAnswers
  refine xr_iconst (pc := 0) X dX2_receiveAnswers_0 (v := 0) (by decide) ?_
  refine xr_istore_n (pc := 1) X (hf := rfl) (i := 2) (lv2 := [(0, .ref (ad oo0)), (1, .int pp1), (2, .int 0)]) [1, 2, 0] (Nat.le_of_ble_eq_true rfl) hnL rfl dX2_receiveAnswers_1 ?_
  refine xr_aload_n (pc := 2) X (i := 0) 0 rfl rfl dX2_receiveAnswers_2 ?_
  refine xgX2 (pc := 3) X (oo0) hh0.1 8 wm_3_23 rfl rfl (by decide) rfl dX2_receiveAnswers_3 ?_
  refine xgNX0 (pc := 6) X (oo0 + 5) hh0.2.2.1 3 16 rfl rfl rfl (by decide) rfl dX2_receiveAnswers_6 ?_
  refine x_leti (fun zz1 => ?_)
  refine xr_istore_n (pc := 9) X (hf := rfl) (i := 3) (lv2 := [(0, .ref (ad oo0)), (1, .int pp1), (2, .int 0), (3, .int zz1)]) [1, 2, 3, 0] (Nat.le_of_ble_eq_true rfl) hnL rfl dX2_receiveAnswers_9 ?_
  have hLL26 : ∀ (KK4 : Int32 → xS → Option (Int32 × xS)) (hKK5 : ∀ zz2 σ3, xM Γ D ad N Sh (xQI Γ D ad N Sh 0 0) 0 0 (KK4 zz2 σ3) σ3 82 [(2, .int zz2)] []), ∀ (nn_9 : Nat) zz6 zz7 σ8, xM Γ D ad N Sh (xQI Γ D ad N Sh 0 0) 0 0 (L_X2_receiveAnswers_10 oo0 pp1 KK4 nn_9 zz6 zz7 σ8) σ8 10 [(0, .ref (ad oo0)), (1, .int pp1), (2, .int zz6), (3, .int zz7)] [] := by
    intro KK4 hKK5 nn_9
    induction nn_9 with
    | zero => intro zz6 zz7 σ8; exact xM_none
    | succ nn_9 ihh10 =>
      intro zz6 zz7 σ8
      rw [L_X2_receiveAnswers_10]
      refine xr_iload_n (pc := 10) X (i := 3) 3 rfl rfl dX2_receiveAnswers_10 ?_
      refine xr_if_le (pc := 11) X 82 (by decide) dX2_receiveAnswers_11 (fun _ => ?_) (fun _ => ?_)
      · exact x_sub [2] rfl (hKK5 _ _)
      refine xr_aload_n (pc := 14) X (i := 0) 0 rfl rfl dX2_receiveAnswers_14 ?_
      refine xgX2 (pc := 15) X (oo0) hh0.1 8 wm_3_23 rfl rfl (by decide) rfl dX2_receiveAnswers_15 ?_
      refine xr_iconst (pc := 18) X dX2_receiveAnswers_18 (v := 0) (by decide) ?_
      refine xr_callVI (na := 1) (pc := 19) X (oo0 + 5) [.int 0] _ (c_X0_timeAt Γ.2.1 hI 6 (oo0 + 5) hh0.2.2 0 σ8) (wG_V wm_11_1 wm_10_22 wm_10_23 wm_11_0 wm_2_23) rfl rfl rfl (by decide +kernel) ⟨Nat.le_of_ble_eq_true rfl, Nat.le_of_ble_eq_true rfl⟩ hh0.2.2.1.1 hh0.2.2.1.2 rfl (T := TX0) (C := RX0) rfl rfl rfl (Nat.le_of_ble_eq_true rfl) ⟨Nat.le_of_ble_eq_true rfl, Nat.le_of_ble_eq_true rfl⟩ dX2_receiveAnswers_19 (fun zz12 σ11 => ?_)
      refine xr_iload_n (pc := 22) X (i := 1) 1 rfl rfl dX2_receiveAnswers_22 ?_
      refine xr_icmp_ne (pc := 23) X 82 (by decide) dX2_receiveAnswers_23 (fun _ => ?_) (fun _ => ?_)
      · exact x_sub [2] rfl (hKK5 _ _)
      refine xr_aload_n (pc := 26) X (i := 0) 0 rfl rfl dX2_receiveAnswers_26 ?_
      refine xgX2 (pc := 27) X (oo0) hh0.1 8 wm_3_23 rfl rfl (by decide) rfl dX2_receiveAnswers_27 ?_
      refine xr_iconst (pc := 30) X dX2_receiveAnswers_30 (v := 0) (by decide) ?_
      refine xr_callVI (na := 1) (pc := 31) X (oo0 + 5) [.int 0] _ (c_X0_numberAt Γ.2.1 hI 6 (oo0 + 5) hh0.2.2 0 σ11) (wG_V wm_12_0 wm_12_9 wm_11_22 wm_11_23 wm_2_23) rfl rfl rfl (by decide +kernel) ⟨Nat.le_of_ble_eq_true rfl, Nat.le_of_ble_eq_true rfl⟩ hh0.2.2.1.1 hh0.2.2.1.2 rfl (T := TX0) (C := RX0) rfl rfl rfl (Nat.le_of_ble_eq_true rfl) ⟨Nat.le_of_ble_eq_true rfl, Nat.le_of_ble_eq_true rfl⟩ dX2_receiveAnswers_31 (fun zz14 σ13 => ?_)
      refine xr_istore (pc := 34) X (i := 4) (lv2 := [(0, .ref (ad oo0)), (1, .int pp1), (3, .int zz7), (4, .int zz14)]) [1, 2, 4, 0] (Nat.le_of_ble_eq_true rfl) hnL rfl dX2_receiveAnswers_34 ?_
      have hLL25 : ∀ (KK18 : xS → Option (Int32 × xS)) (hKK19 : ∀ σ15, xM Γ D ad N Sh (xQI Γ D ad N Sh 0 0) 0 0 (KK18 σ15) σ15 66 [(0, .ref (ad oo0)), (1, .int pp1), (3, .int zz7)] []), ∀ (nn_21 : Nat) σ20, xM Γ D ad N Sh (xQI Γ D ad N Sh 0 0) 0 0 (L_X2_receiveAnswers_36 oo0 zz14 KK18 nn_21 σ20) σ20 36 [(0, .ref (ad oo0)), (1, .int pp1), (3, .int zz7), (4, .int zz14)] [] := by
        intro KK18 hKK19 nn_21
        induction nn_21 with
        | zero => intro σ20; exact xM_none
        | succ nn_21 ihh22 =>
          intro σ20
          rw [L_X2_receiveAnswers_36]
          refine xr_aload_n (pc := 36) X (i := 0) 0 rfl rfl dX2_receiveAnswers_36 ?_
          refine xgX2 (pc := 37) X (oo0) hh0.1 6 wm_4_20 rfl rfl (by decide) rfl dX2_receiveAnswers_37 ?_
          refine xr_iload (pc := 40) X (i := 4) 3 rfl dX2_receiveAnswers_40 ?_
          refine xr_icmp_ge (pc := 42) X 66 (by decide) dX2_receiveAnswers_42 (fun _ => ?_) (fun _ => ?_)
          · exact x_sub [0, 1, 2] rfl (hKK19  _)
          refine xr_aload_n (pc := 45) X (i := 0) 0 rfl rfl dX2_receiveAnswers_45 ?_
          refine xgX2 (pc := 46) X (oo0) hh0.1 1 wm_3_22 rfl rfl (by decide) rfl dX2_receiveAnswers_46 ?_
          refine xr_iconst (pc := 49) X dX2_receiveAnswers_49 (v := 0) (by decide) ?_
          refine xr_callVV (na := 1) (pc := 50) X (oo0 + 1) [.int 0] _ (c_X0_dropAt Γ.2.1 hI 6 (oo0 + 1) hh0.2.1 0 σ20) (wG_V wm_12_4 wm_12_19 wm_12_2 wm_12_3 wm_2_23) rfl rfl rfl (by decide +kernel) ⟨Nat.le_of_ble_eq_true rfl, Nat.le_of_ble_eq_true rfl⟩ hh0.2.1.1.1 hh0.2.1.1.2 rfl (T := TX0) (C := RX0) rfl rfl rfl (Nat.le_of_ble_eq_true rfl) ⟨Nat.le_of_ble_eq_true rfl, Nat.le_of_ble_eq_true rfl⟩ dX2_receiveAnswers_50 (fun σ23 => ?_)
          refine xr_aload_n (pc := 53) X (i := 0) 0 rfl rfl dX2_receiveAnswers_53 ?_
          refine xr_dup (pc := 54) X rfl dX2_receiveAnswers_54 ?_
          refine xgX2 (pc := 55) X (oo0) hh0.1 6 wm_4_20 rfl rfl (by decide) rfl dX2_receiveAnswers_55 ?_
          refine xr_iconst (pc := 58) X dX2_receiveAnswers_58 (v := 1) (by decide) ?_
          refine xr_iadd (pc := 59) X dX2_receiveAnswers_59 ?_
          refine xpX2 (pc := 60) X (oo0) hh0.1 6 wm_4_20 (ty := .int) rfl (fun _ => rfl) rfl (by decide +kernel) rfl rfl (Nat.le_of_ble_eq_true rfl) (by decide) rfl dX2_receiveAnswers_60 (fun σ24 => ?_)
          refine xr_goto (pc := 63) X 36 (by decide) dX2_receiveAnswers_63 ?_
          exact ihh22  _
      refine hLL25 _ (fun σ15 => ?_) _ _
      refine xr_aload_n (pc := 66) X (i := 0) 0 rfl rfl dX2_receiveAnswers_66 ?_
      refine xgX2 (pc := 67) X (oo0) hh0.1 8 wm_3_23 rfl rfl (by decide) rfl dX2_receiveAnswers_67 ?_
      refine xr_iconst (pc := 70) X dX2_receiveAnswers_70 (v := 0) (by decide) ?_
      refine xr_callVV (na := 1) (pc := 71) X (oo0 + 5) [.int 0] _ (c_X0_dropAt Γ.2.1 hI 6 (oo0 + 5) hh0.2.2 0 σ15) (wG_V wm_12_4 wm_12_19 wm_12_2 wm_12_3 wm_2_23) rfl rfl rfl (by decide +kernel) ⟨Nat.le_of_ble_eq_true rfl, Nat.le_of_ble_eq_true rfl⟩ hh0.2.2.1.1 hh0.2.2.1.2 rfl (T := TX0) (C := RX0) rfl rfl rfl (Nat.le_of_ble_eq_true rfl) ⟨Nat.le_of_ble_eq_true rfl, Nat.le_of_ble_eq_true rfl⟩ dX2_receiveAnswers_71 (fun σ16 => ?_)
      refine xr_iconst (pc := 74) X dX2_receiveAnswers_74 (v := 1) (by decide) ?_
      refine xr_istore_n (pc := 75) X (hf := rfl) (i := 2) (lv2 := [(0, .ref (ad oo0)), (1, .int pp1), (2, .int 1), (3, .int zz7)]) [1, 2, 0, 3] (Nat.le_of_ble_eq_true rfl) hnL rfl dX2_receiveAnswers_75 ?_
      refine xr_iinc (pc := 76) X (i := 3) (j := 3) [1, 2, 3, 0] (Nat.le_of_ble_eq_true rfl) hnL rfl (congrArg (fun w => zz7 + w) (show Int32.ofInt (-1) = (-1 : Int32) by decide)) (fun zz17 => [(0, .ref (ad oo0)), (1, .int pp1), (2, .int 1), (3, .int zz17)]) (fun _ => rfl) dX2_receiveAnswers_76 (fun zz17 => ?_)
      refine xr_goto (pc := 79) X 10 (by decide) dX2_receiveAnswers_79 ?_
      exact ihh10 _ _ _
  refine hLL26 _ (fun zz2 σ3 => ?_) _ _ _ _
  refine xr_iload_n (pc := 82) X (i := 2) 0 rfl rfl dX2_receiveAnswers_82 ?_
  exact xr_zretG (pc := 83) X (Nat.le_of_ble_eq_true rfl) (Nat.le_of_ble_eq_true rfl) dX2_receiveAnswers_83
