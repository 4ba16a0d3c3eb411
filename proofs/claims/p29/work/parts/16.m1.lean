def F_X1_remember (oo0 : Nat) (oo1 : Nat) (σ : xS) : Option xS :=
  xjn (fun (σ1 : xS) => xlet (xu σ1 oo0 1 (((σ1 oo0 1) + 1) - ((σ1 oo0 1) + 1) / 14 * 14)) (fun (σ6 : xS) => xlet (if 14 < ((σ6 oo0 2) + 1) then 14 else ((σ6 oo0 2) + 1)) (fun (zz7 : Int32) => xlet (xu σ6 oo0 2 zz7) (fun (σ8 : xS) => some σ8))))
 (fun (KK2 : xS → Option xS) => if (σ oo0 1) < 0 then (KK2 σ)
 else (if (nI 14) ≤ (σ oo0 1) then (KK2 σ)
 else (if xin (σ oo0 1) 14 = true then (xbV (F_X3_copyFrom (oo0 + 2 + 43 * (σ oo0 1).toNatClampNeg) oo1 σ) (fun (σ5 : xS) => KK2 σ5)) else none)))
abbrev rm_X1_remember : Room := { frames := 4, cells := 0, slots := 0, locals := 86 }
set_option maxHeartbeats 4000000 in
set_option maxRecDepth 100000 in
theorem c_X1_remember (l : Launch) {D : va_G} {ad : Nat → Nat} {N : Nat} {Sh : xSh} (hI : ∀ i j, i < N → j < N → ad i = ad j → i = j) (oo0 : Nat) (hh0 : xIs1 D ad N Sh oo0) (oo1 : Nat) (hh1 : xIs3 D ad N Sh oo1) (σ : xS) : xKV l yX1_remember (Cond.code yX1_remember cX1_remember 2 none :: wG) rm_X1_remember 0 0 D ad N Sh [.ref (ad oo0), .ref (ad oo1)] σ (F_X1_remember oo0 oo1 σ) := by
  refine x_startV (own := RX1) (maxL := 2) (by decide) rfl rfl (Nat.le_of_ble_eq_true rfl) rfl hI (fun Γ hl hnL X => ?_)
  subst hl
  unfold F_X1_remember
  refine xr_aload_n (pc := 0) X (i := 0) 0 rfl rfl dX1_remember_0 ?_
  refine xgX1 (pc := 1) X (oo0) hh0.1 1 wm_5_9 rfl rfl (by decide) rfl dX1_remember_1 ?_
  refine x_jn (fun (KK2 : xS → Option xS) => ∀ σ1, xM Γ D ad N Sh (xQV Γ D ad N Sh 0 0) 0 0 (KK2 σ1) σ1 32 [(0, .ref (ad oo0))] []) (fun σ1 => ?_) (fun KK2 hKK3 => ?_)
  · refine xr_aload_n (pc := 32) X (i := 0) 0 rfl rfl dX1_remember_32 ?_
    refine xr_aload_n (pc := 33) X (i := 0) 0 rfl rfl dX1_remember_33 ?_
    refine xgX1 (pc := 34) X (oo0) hh0.1 1 wm_5_9 rfl rfl (by decide) rfl dX1_remember_34 ?_
    refine xr_iconst (pc := 37) X dX1_remember_37 (v := 1) (by decide) ?_
    refine xr_iadd (pc := 38) X dX1_remember_38 ?_
    refine xr_bipush (pc := 39) X dX1_remember_39 (v := 14) (by decide) ?_
    refine xr_irem (pc := 41) X (by decide) dX1_remember_41 ?_
    refine xpX1 (pc := 42) X (oo0) hh0.1 1 wm_5_9 (ty := .int) rfl (fun _ => rfl) rfl (by decide +kernel) rfl rfl (Nat.le_of_ble_eq_true rfl) (by decide) rfl dX1_remember_42 (fun σ6 => ?_)
    refine xr_aload_n (pc := 45) X (i := 0) 0 rfl rfl dX1_remember_45 ?_
    refine xr_aload_n (pc := 46) X (i := 0) 0 rfl rfl dX1_remember_46 ?_
    refine xgX1 (pc := 47) X (oo0) hh0.1 2 wm_5_10 rfl rfl (by decide) rfl dX1_remember_47 ?_
    refine xr_iconst (pc := 50) X dX1_remember_50 (v := 1) (by decide) ?_
    refine xr_iadd (pc := 51) X dX1_remember_51 ?_
    refine xr_bipush (pc := 52) X dX1_remember_52 (v := 14) (by decide) ?_
    refine xr_min (pc := 54) X (List.mem_cons_of_mem _ wm_16_14) (List.mem_cons_of_mem _ wm_16_15) (List.mem_cons_of_mem _ wm_3_12) (List.mem_cons_of_mem _ wm_16_16) (Nat.le_of_ble_eq_true rfl) (Nat.le_of_ble_eq_true rfl) (Nat.le_of_ble_eq_true rfl) (Nat.le_of_ble_eq_true rfl) dX1_remember_54 ?_
    refine x_leti (fun zz7 => ?_)
    refine xpX1 (pc := 57) X (oo0) hh0.1 2 wm_5_10 (ty := .int) rfl (fun _ => rfl) rfl (by decide +kernel) rfl rfl (Nat.le_of_ble_eq_true rfl) (by decide) rfl dX1_remember_57 (fun σ8 => ?_)
    exact xr_vret (pc := 60) X (Nat.le_refl _) (Nat.le_refl _) dX1_remember_60
  refine xr_if_lt (pc := 4) X 32 (by decide) dX1_remember_4 (fun _ => ?_) (fun _ => ?_)
  · exact x_sub [0] rfl (hKK3  _)
  refine xr_aload_n (pc := 7) X (i := 0) 0 rfl rfl dX1_remember_7 ?_
  refine xgX1 (pc := 8) X (oo0) hh0.1 1 wm_5_9 rfl rfl (by decide) rfl dX1_remember_8 ?_
  refine xr_aload_n (pc := 11) X (i := 0) 0 rfl rfl dX1_remember_11 ?_
  refine xgX1 (pc := 12) X (oo0) hh0.1 0 wm_5_8 rfl rfl (by decide) rfl dX1_remember_12 ?_
  refine xr_alenO (pc := 15) X (oo0 + 1) 14 hh0.2.1.1 hh0.2.1.2 dX1_remember_15 ?_
  refine xr_icmp_ge (pc := 16) X 32 (by decide) dX1_remember_16 (fun _ => ?_) (fun _ => ?_)
  · exact x_sub [0] rfl (hKK3  _)
  refine xr_aload_n (pc := 19) X (i := 0) 0 rfl rfl dX1_remember_19 ?_
  refine xgX1 (pc := 20) X (oo0) hh0.1 0 wm_5_8 rfl rfl (by decide) rfl dX1_remember_20 ?_
  refine xr_aload_n (pc := 23) X (i := 0) 0 rfl rfl dX1_remember_23 ?_
  refine xgX1 (pc := 24) X (oo0) hh0.1 1 wm_5_9 rfl rfl (by decide) rfl dX1_remember_24 ?_
  refine xr_aldPost (pc := 27) X (oo0 + 1) 14 (fun j => oo0 + 2 + 43 * j) hh0.2.1.1 hh0.2.1.2 (fun _ hj => if_pos hj) dX1_remember_27 (fun haa4 => ?_)
  refine xr_aload_n (pc := 28) X (i := 1) 1 rfl rfl dX1_remember_28 ?_
  refine xr_callVV (na := 1) (pc := 29) X (oo0 + 2 + 43 * (σ oo0 1).toNatClampNeg) [.ref (ad oo1)] _ (c_X3_copyFrom Γ.2.1 hI (oo0 + 2 + 43 * (σ oo0 1).toNatClampNeg) ((hh0.2.2 _ (xin_lt haa4))) oo1 hh1 σ) (wG_V wm_16_20 wm_16_17 wm_16_18 wm_16_19 wm_1_16) rfl rfl rfl (by decide +kernel) ⟨Nat.le_of_ble_eq_true rfl, Nat.le_of_ble_eq_true rfl⟩ (hh0.2.2 _ (xin_lt haa4)).1.1 (hh0.2.2 _ (xin_lt haa4)).1.2 rfl (T := TX3) (C := RX3) rfl rfl rfl (Nat.le_of_ble_eq_true rfl) ⟨Nat.le_of_ble_eq_true rfl, Nat.le_of_ble_eq_true rfl⟩ dX1_remember_29 (fun σ5 => ?_)
  exact x_sub [0] rfl (hKK3  _)
def F_X1_takeBack (oo0 : Nat) (oo1 : Nat) (σ : xS) : Option xS :=
  if (σ oo0 2) ≤ 0 then (some σ)
 else (xlet (xu σ oo0 1 ((((σ oo0 1) + 14) - 1) - (((σ oo0 1) + 14) - 1) / 14 * 14)) (fun (σ1 : xS) => xlet (xu σ1 oo0 2 ((σ1 oo0 2) - 1)) (fun (σ2 : xS) => if (σ2 oo0 1) < 0 then (some σ2)
 else (if (nI 14) ≤ (σ2 oo0 1) then (some σ2)
 else (if xin (σ2 oo0 1) 14 = true then (xbV (F_X3_copyFrom oo1 (oo0 + 2 + 43 * (σ2 oo0 1).toNatClampNeg) σ2) (fun (σ4 : xS) => some σ4)) else none)))))
abbrev rm_X1_takeBack : Room := { frames := 4, cells := 0, slots := 0, locals := 86 }
set_option maxHeartbeats 4000000 in
set_option maxRecDepth 100000 in
theorem c_X1_takeBack (l : Launch) {D : va_G} {ad : Nat → Nat} {N : Nat} {Sh : xSh} (hI : ∀ i j, i < N → j < N → ad i = ad j → i = j) (oo0 : Nat) (hh0 : xIs1 D ad N Sh oo0) (oo1 : Nat) (hh1 : xIs3 D ad N Sh oo1) (σ : xS) : xKV l yX1_takeBack (Cond.code yX1_takeBack cX1_takeBack 2 none :: wG) rm_X1_takeBack 0 0 D ad N Sh [.ref (ad oo0), .ref (ad oo1)] σ (F_X1_takeBack oo0 oo1 σ) := by
  refine x_startV (own := RX1) (maxL := 2) (by decide) rfl rfl (Nat.le_of_ble_eq_true rfl) rfl hI (fun Γ hl hnL X => ?_)
  subst hl
  unfold F_X1_takeBack
  refine xr_aload_n (pc := 0) X (i := 0) 0 rfl rfl dX1_takeBack_0 ?_
  refine xgX1 (pc := 1) X (oo0) hh0.1 2 wm_5_10 rfl rfl (by decide) rfl dX1_takeBack_1 ?_
  refine xr_if_le (pc := 4) X 65 (by decide) dX1_takeBack_4 (fun _ => ?_) (fun _ => ?_)
  · exact xr_vret (pc := 65) X (Nat.le_refl _) (Nat.le_refl _) dX1_takeBack_65
  refine xr_aload_n (pc := 7) X (i := 0) 0 rfl rfl dX1_takeBack_7 ?_
  refine xr_aload_n (pc := 8) X (i := 0) 0 rfl rfl dX1_takeBack_8 ?_
  refine xgX1 (pc := 9) X (oo0) hh0.1 1 wm_5_9 rfl rfl (by decide) rfl dX1_takeBack_9 ?_
  refine xr_bipush (pc := 12) X dX1_takeBack_12 (v := 14) (by decide) ?_
  refine xr_iadd (pc := 14) X dX1_takeBack_14 ?_
  refine xr_iconst (pc := 15) X dX1_takeBack_15 (v := 1) (by decide) ?_
  refine xr_isub (pc := 16) X dX1_takeBack_16 ?_
  refine xr_bipush (pc := 17) X dX1_takeBack_17 (v := 14) (by decide) ?_
  refine xr_irem (pc := 19) X (by decide) dX1_takeBack_19 ?_
  refine xpX1 (pc := 20) X (oo0) hh0.1 1 wm_5_9 (ty := .int) rfl (fun _ => rfl) rfl (by decide +kernel) rfl rfl (Nat.le_of_ble_eq_true rfl) (by decide) rfl dX1_takeBack_20 (fun σ1 => ?_)
  refine xr_aload_n (pc := 23) X (i := 0) 0 rfl rfl dX1_takeBack_23 ?_
  refine xr_dup (pc := 24) X rfl dX1_takeBack_24 ?_
  refine xgX1 (pc := 25) X (oo0) hh0.1 2 wm_5_10 rfl rfl (by decide) rfl dX1_takeBack_25 ?_
  refine xr_iconst (pc := 28) X dX1_takeBack_28 (v := 1) (by decide) ?_
  refine xr_isub (pc := 29) X dX1_takeBack_29 ?_
  refine xpX1 (pc := 30) X (oo0) hh0.1 2 wm_5_10 (ty := .int) rfl (fun _ => rfl) rfl (by decide +kernel) rfl rfl (Nat.le_of_ble_eq_true rfl) (by decide) rfl dX1_takeBack_30 (fun σ2 => ?_)
  refine xr_aload_n (pc := 33) X (i := 0) 0 rfl rfl dX1_takeBack_33 ?_
  refine xgX1 (pc := 34) X (oo0) hh0.1 1 wm_5_9 rfl rfl (by decide) rfl dX1_takeBack_34 ?_
  refine xr_if_lt (pc := 37) X 65 (by decide) dX1_takeBack_37 (fun _ => ?_) (fun _ => ?_)
  · exact xr_vret (pc := 65) X (Nat.le_refl _) (Nat.le_refl _) dX1_takeBack_65
  refine xr_aload_n (pc := 40) X (i := 0) 0 rfl rfl dX1_takeBack_40 ?_
  refine xgX1 (pc := 41) X (oo0) hh0.1 1 wm_5_9 rfl rfl (by decide) rfl dX1_takeBack_41 ?_
  refine xr_aload_n (pc := 44) X (i := 0) 0 rfl rfl dX1_takeBack_44 ?_
  refine xgX1 (pc := 45) X (oo0) hh0.1 0 wm_5_8 rfl rfl (by decide) rfl dX1_takeBack_45 ?_
  refine xr_alenO (pc := 48) X (oo0 + 1) 14 hh0.2.1.1 hh0.2.1.2 dX1_takeBack_48 ?_
  refine xr_icmp_ge (pc := 49) X 65 (by decide) dX1_takeBack_49 (fun _ => ?_) (fun _ => ?_)
  · exact xr_vret (pc := 65) X (Nat.le_refl _) (Nat.le_refl _) dX1_takeBack_65
  refine xr_aload_n (pc := 52) X (i := 1) 1 rfl rfl dX1_takeBack_52 ?_
  refine xr_aload_n (pc := 53) X (i := 0) 0 rfl rfl dX1_takeBack_53 ?_
  refine xgX1 (pc := 54) X (oo0) hh0.1 0 wm_5_8 rfl rfl (by decide) rfl dX1_takeBack_54 ?_
  refine xr_aload_n (pc := 57) X (i := 0) 0 rfl rfl dX1_takeBack_57 ?_
  refine xgX1 (pc := 58) X (oo0) hh0.1 1 wm_5_9 rfl rfl (by decide) rfl dX1_takeBack_58 ?_
  refine xr_aldPost (pc := 61) X (oo0 + 1) 14 (fun j => oo0 + 2 + 43 * j) hh0.2.1.1 hh0.2.1.2 (fun _ hj => if_pos hj) dX1_takeBack_61 (fun haa3 => ?_)
  refine xr_callVV (na := 1) (pc := 62) X (oo1) [.ref (ad (oo0 + 2 + 43 * (σ2 oo0 1).toNatClampNeg))] _ (c_X3_copyFrom Γ.2.1 hI oo1 hh1 (oo0 + 2 + 43 * (σ2 oo0 1).toNatClampNeg) ((hh0.2.2 _ (xin_lt haa3))) σ2) (wG_V wm_16_20 wm_16_17 wm_16_18 wm_16_19 wm_1_16) rfl rfl rfl (by decide +kernel) ⟨Nat.le_of_ble_eq_true rfl, Nat.le_of_ble_eq_true rfl⟩ hh1.1.1 hh1.1.2 rfl (T := TX3) (C := RX3) rfl rfl rfl (Nat.le_of_ble_eq_true rfl) ⟨Nat.le_of_ble_eq_true rfl, Nat.le_of_ble_eq_true rfl⟩ dX1_takeBack_62 (fun σ4 => ?_)
  exact xr_vret (pc := 65) X (Nat.le_refl _) (Nat.le_refl _) dX1_takeBack_65
def F_X1_forgetAll (oo0 : Nat) (σ : xS) : Option xS :=
  xlet (xu σ oo0 2 0) (fun (σ1 : xS) => some σ1)
abbrev rm_X1_forgetAll : Room := { frames := 0, cells := 0, slots := 0, locals := 0 }
set_option maxHeartbeats 4000000 in
set_option maxRecDepth 100000 in
theorem c_X1_forgetAll (l : Launch) {D : va_G} {ad : Nat → Nat} {N : Nat} {Sh : xSh} (hI : ∀ i j, i < N → j < N → ad i = ad j → i = j) (oo0 : Nat) (hh0 : xIs1 D ad N Sh oo0) (σ : xS) : xKV l yX1_forgetAll (Cond.code yX1_forgetAll cX1_forgetAll 1 none :: wG) rm_X1_forgetAll 0 0 D ad N Sh [.ref (ad oo0)] σ (F_X1_forgetAll oo0 σ) := by
  refine x_startV (own := RX1) (maxL := 1) (by decide) rfl rfl (Nat.le_of_ble_eq_true rfl) rfl hI (fun Γ hl hnL X => ?_)
  subst hl
  unfold F_X1_forgetAll
  refine xr_aload_n (pc := 0) X (i := 0) 0 rfl rfl dX1_forgetAll_0 ?_
  refine xr_iconst (pc := 1) X dX1_forgetAll_1 (v := 0) (by decide) ?_
  refine xpX1 (pc := 2) X (oo0) hh0.1 2 wm_5_10 (ty := .int) rfl (fun _ => rfl) rfl (by decide +kernel) rfl rfl (Nat.le_of_ble_eq_true rfl) (by decide) rfl dX1_forgetAll_2 (fun σ1 => ?_)
  exact xr_vret (pc := 5) X (Nat.le_refl _) (Nat.le_refl _) dX1_forgetAll_5
def F_X4_addCharacter (oo0 : Nat) (pp1 : Int32) (σ : xS) : Option xS :=
  if (σ oo0 1) < 0 then (some σ)
 else (if (nI 120) ≤ (σ oo0 1) then (some σ)
 else (if xin (σ oo0 1) 120 = true then (xlet (xu σ (oo0 + 1) (σ oo0 1).toNatClampNeg (vp_nar .char pp1)) (fun (σ1 : xS) => xlet (xu σ1 oo0 1 ((σ1 oo0 1) + 1)) (fun (σ2 : xS) => some σ2))) else none))
abbrev rm_X4_addCharacter : Room := { frames := 0, cells := 0, slots := 0, locals := 0 }
set_option maxHeartbeats 4000000 in
set_option maxRecDepth 100000 in
theorem c_X4_addCharacter (l : Launch) {D : va_G} {ad : Nat → Nat} {N : Nat} {Sh : xSh} (hI : ∀ i j, i < N → j < N → ad i = ad j → i = j) (oo0 : Nat) (hh0 : xIs4 D ad N Sh oo0) (pp1 : Int32) (σ : xS) : xKV l yX4_addCharacter (Cond.code yX4_addCharacter cX4_addCharacter 2 none :: wG) rm_X4_addCharacter 0 0 D ad N Sh [.ref (ad oo0), .int pp1] σ (F_X4_addCharacter oo0 pp1 σ) := by
  refine x_startV (own := RX4) (maxL := 2) (by decide) rfl rfl (Nat.le_of_ble_eq_true rfl) rfl hI (fun Γ hl hnL X => ?_)
  subst hl
  unfold F_X4_addCharacter
  refine xr_aload_n (pc := 0) X (i := 0) 0 rfl rfl dX4_addCharacter_0 ?_
  refine xgX4 (pc := 1) X (oo0) hh0.1 1 wm_2_8 rfl rfl (by decide) rfl dX4_addCharacter_1 ?_
  refine xr_if_lt (pc := 4) X 39 (by decide) dX4_addCharacter_4 (fun _ => ?_) (fun _ => ?_)
  · exact xr_vret (pc := 39) X (Nat.le_refl _) (Nat.le_refl _) dX4_addCharacter_39
  refine xr_aload_n (pc := 7) X (i := 0) 0 rfl rfl dX4_addCharacter_7 ?_
  refine xgX4 (pc := 8) X (oo0) hh0.1 1 wm_2_8 rfl rfl (by decide) rfl dX4_addCharacter_8 ?_
  refine xr_aload_n (pc := 11) X (i := 0) 0 rfl rfl dX4_addCharacter_11 ?_
  refine xgX4 (pc := 12) X (oo0) hh0.1 0 wm_2_7 rfl rfl (by decide) rfl dX4_addCharacter_12 ?_
  refine xr_alenC (pc := 15) X (oo0 + 1) (120) hh0.2.1 hh0.2.2 dX4_addCharacter_15 ?_
  refine xr_icmp_ge (pc := 16) X 39 (by decide) dX4_addCharacter_16 (fun _ => ?_) (fun _ => ?_)
  · exact xr_vret (pc := 39) X (Nat.le_refl _) (Nat.le_refl _) dX4_addCharacter_39
  refine xr_aload_n (pc := 19) X (i := 0) 0 rfl rfl dX4_addCharacter_19 ?_
  refine xgX4 (pc := 20) X (oo0) hh0.1 0 wm_2_7 rfl rfl (by decide) rfl dX4_addCharacter_20 ?_
  refine xr_aload_n (pc := 23) X (i := 0) 0 rfl rfl dX4_addCharacter_23 ?_
  refine xgX4 (pc := 24) X (oo0) hh0.1 1 wm_2_8 rfl rfl (by decide) rfl dX4_addCharacter_24 ?_
  refine xr_iload_n (pc := 27) X (i := 1) 1 rfl rfl dX4_addCharacter_27 ?_
  refine xr_cast (pc := 28) X (oo0 + 1) (120) hh0.2.1 hh0.2.2 dX4_addCharacter_28 (fun σ1 => ?_)
  refine xr_aload_n (pc := 29) X (i := 0) 0 rfl rfl dX4_addCharacter_29 ?_
  refine xr_dup (pc := 30) X rfl dX4_addCharacter_30 ?_
  refine xgX4 (pc := 31) X (oo0) hh0.1 1 wm_2_8 rfl rfl (by decide) rfl dX4_addCharacter_31 ?_
  refine xr_iconst (pc := 34) X dX4_addCharacter_34 (v := 1) (by decide) ?_
  refine xr_iadd (pc := 35) X dX4_addCharacter_35 ?_
  refine xpX4 (pc := 36) X (oo0) hh0.1 1 wm_2_8 (ty := .int) rfl (fun _ => rfl) rfl (by decide +kernel) rfl rfl (Nat.le_of_ble_eq_true rfl) (by decide) rfl dX4_addCharacter_36 (fun σ2 => ?_)
  exact xr_vret (pc := 39) X (Nat.le_refl _) (Nat.le_refl _) dX4_addCharacter_39
def F_X4_readLetter (oo0 : Nat) (σ : xS) : Option (Int32 × xS) :=
  xjn (fun (zz1 : Int32) (σ2 : xS) => xlet (xu σ2 oo0 2 ((σ2 oo0 2) + 1)) (fun (σ9 : xS) => if vp_nar .char zz1 = zz1 then some (zz1, σ9) else none))
 (fun (KK3 : Int32 → xS → Option (Int32 × xS)) => xjn (fun (σ5 : xS) => KK3 32 σ5)
 (fun (KK6 : xS → Option (Int32 × xS)) => if (σ oo0 2) < 0 then (KK6 σ)
 else (if (σ oo0 1) ≤ (σ oo0 2) then (KK6 σ)
 else (if (nI 120) ≤ (σ oo0 2) then (KK6 σ)
 else (if xin (σ oo0 2) 120 = true then (xlet (σ (oo0 + 1) (σ oo0 2).toNatClampNeg) (fun (zz8 : Int32) => KK3 zz8 σ)) else none)))))
abbrev rm_X4_readLetter : Room := { frames := 0, cells := 0, slots := 0, locals := 0 }
set_option maxHeartbeats 4000000 in
set_option maxRecDepth 100000 in
theorem c_X4_readLetter (l : Launch) {D : va_G} {ad : Nat → Nat} {N : Nat} {Sh : xSh} (hI : ∀ i j, i < N → j < N → ad i = ad j → i = j) (oo0 : Nat) (hh0 : xIs4 D ad N Sh oo0) (σ : xS) : xKI l yX4_readLetter (Cond.code yX4_readLetter cX4_readLetter 2 (some .char) :: wG) rm_X4_readLetter 0 0 D ad N Sh [.ref (ad oo0)] σ (F_X4_readLetter oo0 σ) := by
  refine x_startI (own := RX4) (maxL := 2) (by decide) rfl rfl (Nat.le_of_ble_eq_true rfl) rfl hI (fun Γ hl hnL X => ?_)
  subst hl
  unfold F_X4_readLetter
  refine xr_aload_n (pc := 0) X (i := 0) 0 rfl rfl dX4_readLetter_0 ?_
  refine xgX4 (pc := 1) X (oo0) hh0.1 2 wm_2_9 rfl rfl (by decide) rfl dX4_readLetter_1 ?_
  refine x_jn (fun (KK3 : Int32 → xS → Option (Int32 × xS)) => ∀ zz1 σ2, xM Γ D ad N Sh (xQI Γ D ad N Sh 0 0) 0 0 (KK3 zz1 σ2) σ2 44 [(0, .ref (ad oo0))] [.int zz1]) (fun zz1 σ2 => ?_) (fun KK3 hKK4 => ?_)
  · refine xr_istore_n (pc := 44) X (hf := rfl) (i := 1) (lv2 := [(0, .ref (ad oo0)), (1, .int zz1)]) [1, 0] (Nat.le_of_ble_eq_true rfl) hnL rfl dX4_readLetter_44 ?_
    refine xr_aload_n (pc := 45) X (i := 0) 0 rfl rfl dX4_readLetter_45 ?_
    refine xr_dup (pc := 46) X rfl dX4_readLetter_46 ?_
    refine xgX4 (pc := 47) X (oo0) hh0.1 2 wm_2_9 rfl rfl (by decide) rfl dX4_readLetter_47 ?_
    refine xr_iconst (pc := 50) X dX4_readLetter_50 (v := 1) (by decide) ?_
    refine xr_iadd (pc := 51) X dX4_readLetter_51 ?_
    refine xpX4 (pc := 52) X (oo0) hh0.1 2 wm_2_9 (ty := .int) rfl (fun _ => rfl) rfl (by decide +kernel) rfl rfl (Nat.le_of_ble_eq_true rfl) (by decide) rfl dX4_readLetter_52 (fun σ9 => ?_)
    refine xr_iload_n (pc := 55) X (i := 1) 1 rfl rfl dX4_readLetter_55 ?_
    exact xr_cretG (pc := 56) X (Nat.le_of_ble_eq_true rfl) (Nat.le_of_ble_eq_true rfl) dX4_readLetter_56
  refine x_jn (fun (KK6 : xS → Option (Int32 × xS)) => ∀ σ5, xM Γ D ad N Sh (xQI Γ D ad N Sh 0 0) 0 0 (KK6 σ5) σ5 42 [(0, .ref (ad oo0))] []) (fun σ5 => ?_) (fun KK6 hKK7 => ?_)
  · refine xr_bipush (pc := 42) X dX4_readLetter_42 (v := 32) (by decide) ?_
    exact hKK4 _ _
  refine xr_if_lt (pc := 4) X 42 (by decide) dX4_readLetter_4 (fun _ => ?_) (fun _ => ?_)
  · exact hKK7  _
  refine xr_aload_n (pc := 7) X (i := 0) 0 rfl rfl dX4_readLetter_7 ?_
  refine xgX4 (pc := 8) X (oo0) hh0.1 2 wm_2_9 rfl rfl (by decide) rfl dX4_readLetter_8 ?_
  refine xr_aload_n (pc := 11) X (i := 0) 0 rfl rfl dX4_readLetter_11 ?_
  refine xgX4 (pc := 12) X (oo0) hh0.1 1 wm_2_8 rfl rfl (by decide) rfl dX4_readLetter_12 ?_
  refine xr_icmp_ge (pc := 15) X 42 (by decide) dX4_readLetter_15 (fun _ => ?_) (fun _ => ?_)
  · exact hKK7  _
  refine xr_aload_n (pc := 18) X (i := 0) 0 rfl rfl dX4_readLetter_18 ?_
  refine xgX4 (pc := 19) X (oo0) hh0.1 2 wm_2_9 rfl rfl (by decide) rfl dX4_readLetter_19 ?_
  refine xr_aload_n (pc := 22) X (i := 0) 0 rfl rfl dX4_readLetter_22 ?_
  refine xgX4 (pc := 23) X (oo0) hh0.1 0 wm_2_7 rfl rfl (by decide) rfl dX4_readLetter_23 ?_
  refine xr_alenC (pc := 26) X (oo0 + 1) (120) hh0.2.1 hh0.2.2 dX4_readLetter_26 ?_
  refine xr_icmp_ge (pc := 27) X 42 (by decide) dX4_readLetter_27 (fun _ => ?_) (fun _ => ?_)
  · exact hKK7  _
  refine xr_aload_n (pc := 30) X (i := 0) 0 rfl rfl dX4_readLetter_30 ?_
  refine xgX4 (pc := 31) X (oo0) hh0.1 0 wm_2_7 rfl rfl (by decide) rfl dX4_readLetter_31 ?_
  refine xr_aload_n (pc := 34) X (i := 0) 0 rfl rfl dX4_readLetter_34 ?_
  refine xgX4 (pc := 35) X (oo0) hh0.1 2 wm_2_9 rfl rfl (by decide) rfl dX4_readLetter_35 ?_
  refine xr_cald (pc := 38) X (oo0 + 1) (120) hh0.2.1 hh0.2.2 dX4_readLetter_38 (fun zz8 => ?_)
  refine xr_goto (pc := 39) X 44 (by decide) dX4_readLetter_39 ?_
  exact hKK4 _ _
def L_X4_readNumber_31 (oo0 : Nat) (pp1 : Int32) (pp2 : Int32) (pp3 : Int32) (KK5 : Int32 → xS → Option (Int32 × xS)) : Nat → Int32 → Int32 → Int32 → xS → Option (Int32 × xS)
  | 0, _, _, _, _ => none
  | nn_11 + 1, zz7, zz8, zz9, σ10 => if pp1 ≤ zz9 then (KK5 zz7 σ10)
 else (if ¬ (σ10 oo0 3) = ((-1)) then (KK5 zz7 σ10)
 else (xbI (F_X4_readLetter oo0 σ10) (fun (zz14 : Int32) (σ13 : xS) => xlet (zz8 / 10) (fun (zz15 : Int32) => xlet ((zz7 * 10) + (zz14 - 48)) (fun (zz16 : Int32) => xjn (fun (zz17 : Int32) (σ18 : xS) => xjn (fun (σ24 : xS) => xlet (xu σ24 oo0 3 ((σ24 oo0 2) - 1)) (fun (σ28 : xS) => xlet (zz9 + 1) (fun (zz29 : Int32) => L_X4_readNumber_31 oo0 pp1 pp2 pp3 KK5 nn_11 zz16 zz15 zz29 σ28)))
 (fun (KK25 : xS → Option (Int32 × xS)) => if zz14 < 48 then (KK25 σ18)
 else (if 57 < zz14 then (KK25 σ18)
 else (if ¬ zz17 = 0 then (xlet (zz9 + 1) (fun (zz27 : Int32) => L_X4_readNumber_31 oo0 pp1 pp2 pp3 KK5 nn_11 zz16 zz15 zz27 σ18))
 else (KK25 σ18)))))
 (fun (KK19 : Int32 → xS → Option (Int32 × xS)) => xjn (fun (σ21 : xS) => KK19 0 σ21)
 (fun (KK22 : xS → Option (Int32 × xS)) => if pp3 < (zz16 * zz15) then (KK22 σ13)
 else (if (((zz16 * zz15) + zz15) - 1) < pp2 then (KK22 σ13)
 else (KK19 1 σ13)))))))))
def L_X4_readNumber_9 (pp1 : Int32) (KK31 : Int32 → xS → Option (Int32 × xS)) : Nat → Int32 → Int32 → xS → Option (Int32 × xS)
  | 0, _, _, _ => none
  | nn_36 + 1, zz33, zz34, σ35 => if pp1 ≤ zz34 then (KK31 zz33 σ35)
 else (xlet (zz33 * 10) (fun (zz38 : Int32) => xlet (zz34 + 1) (fun (zz39 : Int32) => L_X4_readNumber_9 pp1 KK31 nn_36 zz38 zz39 σ35)))
def F_X4_readNumber (oo0 : Nat) (pp1 : Int32) (pp2 : Int32) (pp3 : Int32) (σ : xS) : Option (Int32 × xS) :=
  L_X4_readNumber_9 pp1 (fun (zz1 : Int32) (σ2 : xS) => L_X4_readNumber_31 oo0 pp1 pp2 pp3 (fun (zz3 : Int32) (σ4 : xS) => some (zz3, σ4)) 1000 0 zz1 0 σ2) 1000 1 0 σ
abbrev rm_X4_readNumber : Room := { frames := 1, cells := 0, slots := 0, locals := 21 }
set_option maxHeartbeats 4000000 in
set_option maxRecDepth 100000 in
theorem c_X4_readNumber (l : Launch) {D : va_G} {ad : Nat → Nat} {N : Nat} {Sh : xSh} (hI : ∀ i j, i < N → j < N → ad i = ad j → i = j) (oo0 : Nat) (hh0 : xIs4 D ad N Sh oo0) (pp1 : Int32) (pp2 : Int32) (pp3 : Int32) (σ : xS) : xKI l yX4_readNumber (Cond.code yX4_readNumber cX4_readNumber 9 (some .int) :: wG) rm_X4_readNumber 0 0 D ad N Sh [.ref (ad oo0), .int pp1, .int pp2, .int pp3] σ (F_X4_readNumber oo0 pp1 pp2 pp3 σ) := by
  refine x_startI (own := RX4) (maxL := 9) (by decide) rfl rfl (Nat.le_of_ble_eq_true rfl) rfl hI (fun Γ hl hnL X => ?_)
  subst hl
  unfold F_X4_readNumber
  refine xr_iconst (pc := 0) X dX4_readNumber_0 (v := 0) (by decide) ?_
  refine xr_istore (pc := 1) X (i := 4) (lv2 := [(0, .ref (ad oo0)), (1, .int pp1), (2, .int pp2), (3, .int pp3), (4, .int 0)]) [1, 2, 3, 4, 0] (Nat.le_of_ble_eq_true rfl) hnL rfl dX4_readNumber_1 ?_
  refine xr_iconst (pc := 3) X dX4_readNumber_3 (v := 1) (by decide) ?_
  refine xr_istore (pc := 4) X (i := 5) (lv2 := [(0, .ref (ad oo0)), (1, .int pp1), (2, .int pp2), (3, .int pp3), (4, .int 0), (5, .int 1)]) [1, 2, 3, 4, 5, 0] (Nat.le_of_ble_eq_true rfl) hnL rfl dX4_readNumber_4 ?_
  refine xr_iconst (pc := 6) X dX4_readNumber_6 (v := 0) (by decide) ?_
  refine xr_istore (pc := 7) X (i := 6) (lv2 := [(0, .ref (ad oo0)), (1, .int pp1), (2, .int pp2), (3, .int pp3), (4, .int 0), (5, .int 1), (6, .int 0)]) [1, 2, 3, 4, 5, 6, 0] (Nat.le_of_ble_eq_true rfl) hnL rfl dX4_readNumber_7 ?_
  have hLL40 : ∀ (KK31 : Int32 → xS → Option (Int32 × xS)) (hKK32 : ∀ zz1 σ2, xM Γ D ad N Sh (xQI Γ D ad N Sh 0 0) 0 0 (KK31 zz1 σ2) σ2 28 [(0, .ref (ad oo0)), (1, .int pp1), (2, .int pp2), (3, .int pp3), (4, .int 0), (5, .int zz1)] []), ∀ (nn_36 : Nat) zz33 zz34 σ35, xM Γ D ad N Sh (xQI Γ D ad N Sh 0 0) 0 0 (L_X4_readNumber_9 pp1 KK31 nn_36 zz33 zz34 σ35) σ35 9 [(0, .ref (ad oo0)), (1, .int pp1), (2, .int pp2), (3, .int pp3), (4, .int 0), (5, .int zz33), (6, .int zz34)] [] := by
    intro KK31 hKK32 nn_36
    induction nn_36 with
    | zero => intro zz33 zz34 σ35; exact xM_none
    | succ nn_36 ihh37 =>
      intro zz33 zz34 σ35
      rw [L_X4_readNumber_9]
      refine xr_iload (pc := 9) X (i := 6) 6 rfl dX4_readNumber_9 ?_
      refine xr_iload_n (pc := 11) X (i := 1) 1 rfl rfl dX4_readNumber_11 ?_
      refine xr_icmp_ge (pc := 12) X 28 (by decide) dX4_readNumber_12 (fun _ => ?_) (fun _ => ?_)
      · exact x_sub [0, 1, 2, 3, 4, 5] rfl (hKK32 _ _)
      refine xr_iload (pc := 15) X (i := 5) 5 rfl dX4_readNumber_15 ?_
      refine xr_bipush (pc := 17) X dX4_readNumber_17 (v := 10) (by decide) ?_
      refine xr_imul (pc := 19) X dX4_readNumber_19 ?_
      refine x_leti (fun zz38 => ?_)
      refine xr_istore (pc := 20) X (i := 5) (lv2 := [(0, .ref (ad oo0)), (1, .int pp1), (2, .int pp2), (3, .int pp3), (4, .int 0), (5, .int zz38), (6, .int zz34)]) [1, 2, 3, 4, 5, 0, 6] (Nat.le_of_ble_eq_true rfl) hnL rfl dX4_readNumber_20 ?_
      refine xr_iinc (pc := 22) X (i := 6) (j := 6) [1, 2, 3, 4, 5, 6, 0] (Nat.le_of_ble_eq_true rfl) hnL rfl rfl (fun zz39 => [(0, .ref (ad oo0)), (1, .int pp1), (2, .int pp2), (3, .int pp3), (4, .int 0), (5, .int zz38), (6, .int zz39)]) (fun _ => rfl) dX4_readNumber_22 (fun zz39 => ?_)
      refine xr_goto (pc := 25) X 9 (by decide) dX4_readNumber_25 ?_
      exact ihh37 _ _ _
  refine hLL40 _ (fun zz1 σ2 => ?_) _ _ _ _
  refine xr_iconst (pc := 28) X dX4_readNumber_28 (v := 0) (by decide) ?_
  refine xr_istore (pc := 29) X (i := 6) (lv2 := [(0, .ref (ad oo0)), (1, .int pp1), (2, .int pp2), (3, .int pp3), (4, .int 0), (5, .int zz1), (6, .int 0)]) [1, 2, 3, 4, 5, 6, 0] (Nat.le_of_ble_eq_true rfl) hnL rfl dX4_readNumber_29 ?_
  have hLL30 : ∀ (KK5 : Int32 → xS → Option (Int32 × xS)) (hKK6 : ∀ zz3 σ4, xM Γ D ad N Sh (xQI Γ D ad N Sh 0 0) 0 0 (KK5 zz3 σ4) σ4 136 [(4, .int zz3)] []), ∀ (nn_11 : Nat) zz7 zz8 zz9 σ10, xM Γ D ad N Sh (xQI Γ D ad N Sh 0 0) 0 0 (L_X4_readNumber_31 oo0 pp1 pp2 pp3 KK5 nn_11 zz7 zz8 zz9 σ10) σ10 31 [(0, .ref (ad oo0)), (1, .int pp1), (2, .int pp2), (3, .int pp3), (4, .int zz7), (5, .int zz8), (6, .int zz9)] [] := by
    intro KK5 hKK6 nn_11
    induction nn_11 with
    | zero => intro zz7 zz8 zz9 σ10; exact xM_none
    | succ nn_11 ihh12 =>
      intro zz7 zz8 zz9 σ10
      rw [L_X4_readNumber_31]
      refine xr_iload (pc := 31) X (i := 6) 6 rfl dX4_readNumber_31 ?_
      refine xr_iload_n (pc := 33) X (i := 1) 1 rfl rfl dX4_readNumber_33 ?_
      refine xr_icmp_ge (pc := 34) X 136 (by decide) dX4_readNumber_34 (fun _ => ?_) (fun _ => ?_)
      · exact x_sub [4] rfl (hKK6 _ _)
      refine xr_aload_n (pc := 37) X (i := 0) 0 rfl rfl dX4_readNumber_37 ?_
      refine xgX4 (pc := 38) X (oo0) hh0.1 3 wm_2_10 rfl rfl (by decide) rfl dX4_readNumber_38 ?_
      refine xr_iconst (pc := 41) X dX4_readNumber_41 (v := (-1)) (by decide) ?_
      refine xr_icmp_ne (pc := 42) X 136 (by decide) dX4_readNumber_42 (fun _ => ?_) (fun _ => ?_)
      · exact x_sub [4] rfl (hKK6 _ _)
      refine xr_aload_n (pc := 45) X (i := 0) 0 rfl rfl dX4_readNumber_45 ?_
      refine xr_callVI (na := 0) (pc := 46) X (oo0) [] _ (c_X4_readLetter Γ.2.1 hI oo0 hh0 σ10) (wG_V wm_8_0 wm_7_21 wm_7_22 wm_7_23 wm_1_12) rfl rfl rfl (by decide +kernel) ⟨Nat.le_of_ble_eq_true rfl, Nat.le_of_ble_eq_true rfl⟩ hh0.1.1 hh0.1.2 rfl (T := TX4) (C := RX4) rfl rfl rfl (Nat.le_of_ble_eq_true rfl) ⟨Nat.le_of_ble_eq_true rfl, Nat.le_of_ble_eq_true rfl⟩ dX4_readNumber_46 (fun zz14 σ13 => ?_)
      refine xr_istore (pc := 49) X (i := 7) (lv2 := [(0, .ref (ad oo0)), (1, .int pp1), (2, .int pp2), (3, .int pp3), (4, .int zz7), (5, .int zz8), (6, .int zz9), (7, .int zz14)]) [1, 2, 3, 4, 5, 6, 7, 0] (Nat.le_of_ble_eq_true rfl) hnL rfl dX4_readNumber_49 ?_
      refine xr_iload (pc := 51) X (i := 5) 5 rfl dX4_readNumber_51 ?_
      refine xr_bipush (pc := 53) X dX4_readNumber_53 (v := 10) (by decide) ?_
      refine xr_idiv (pc := 55) X (by decide) dX4_readNumber_55 ?_
      refine x_leti (fun zz15 => ?_)
      refine xr_istore (pc := 56) X (i := 5) (lv2 := [(0, .ref (ad oo0)), (1, .int pp1), (2, .int pp2), (3, .int pp3), (4, .int zz7), (5, .int zz15), (6, .int zz9), (7, .int zz14)]) [1, 2, 3, 4, 5, 0, 6, 7] (Nat.le_of_ble_eq_true rfl) hnL rfl dX4_readNumber_56 ?_
      refine xr_iload (pc := 58) X (i := 4) 4 rfl dX4_readNumber_58 ?_
      refine xr_bipush (pc := 60) X dX4_readNumber_60 (v := 10) (by decide) ?_
      refine xr_imul (pc := 62) X dX4_readNumber_62 ?_
      refine xr_iload (pc := 63) X (i := 7) 7 rfl dX4_readNumber_63 ?_
      refine xr_bipush (pc := 65) X dX4_readNumber_65 (v := 48) (by decide) ?_
      refine xr_isub (pc := 67) X dX4_readNumber_67 ?_
      refine xr_iadd (pc := 68) X dX4_readNumber_68 ?_
      refine x_leti (fun zz16 => ?_)
      refine xr_istore (pc := 69) X (i := 4) (lv2 := [(0, .ref (ad oo0)), (1, .int pp1), (2, .int pp2), (3, .int pp3), (4, .int zz16), (5, .int zz15), (6, .int zz9), (7, .int zz14)]) [1, 2, 3, 4, 0, 5, 6, 7] (Nat.le_of_ble_eq_true rfl) hnL rfl dX4_readNumber_69 ?_
      refine xr_iload (pc := 71) X (i := 4) 4 rfl dX4_readNumber_71 ?_
      refine xr_iload (pc := 73) X (i := 5) 5 rfl dX4_readNumber_73 ?_
      refine xr_imul (pc := 75) X dX4_readNumber_75 ?_
      refine xr_iload_n (pc := 76) X (i := 3) 3 rfl rfl dX4_readNumber_76 ?_
      refine x_jn (fun (KK19 : Int32 → xS → Option (Int32 × xS)) => ∀ zz17 σ18, xM Γ D ad N Sh (xQI Γ D ad N Sh 0 0) 0 0 (KK19 zz17 σ18) σ18 99 [(0, .ref (ad oo0)), (1, .int pp1), (2, .int pp2), (3, .int pp3), (4, .int zz16), (5, .int zz15), (6, .int zz9), (7, .int zz14)] [.int zz17]) (fun zz17 σ18 => ?_) (fun KK19 hKK20 => ?_)
      · refine xr_istore (pc := 99) X (i := 8) (lv2 := [(0, .ref (ad oo0)), (1, .int pp1), (2, .int pp2), (3, .int pp3), (4, .int zz16), (5, .int zz15), (6, .int zz9), (7, .int zz14), (8, .int zz17)]) [1, 2, 3, 4, 5, 6, 7, 8, 0] (Nat.le_of_ble_eq_true rfl) hnL rfl dX4_readNumber_99 ?_
        refine xr_iload (pc := 101) X (i := 7) 7 rfl dX4_readNumber_101 ?_
        refine xr_bipush (pc := 103) X dX4_readNumber_103 (v := 48) (by decide) ?_
        refine x_jn (fun (KK25 : xS → Option (Int32 × xS)) => ∀ σ24, xM Γ D ad N Sh (xQI Γ D ad N Sh 0 0) 0 0 (KK25 σ24) σ24 120 [(0, .ref (ad oo0)), (1, .int pp1), (2, .int pp2), (3, .int pp3), (4, .int zz16), (5, .int zz15), (6, .int zz9)] []) (fun σ24 => ?_) (fun KK25 hKK26 => ?_)
        · refine xr_aload_n (pc := 120) X (i := 0) 0 rfl rfl dX4_readNumber_120 ?_
          refine xr_aload_n (pc := 121) X (i := 0) 0 rfl rfl dX4_readNumber_121 ?_
          refine xgX4 (pc := 122) X (oo0) hh0.1 2 wm_2_9 rfl rfl (by decide) rfl dX4_readNumber_122 ?_
          refine xr_iconst (pc := 125) X dX4_readNumber_125 (v := 1) (by decide) ?_
          refine xr_isub (pc := 126) X dX4_readNumber_126 ?_
          refine xpX4 (pc := 127) X (oo0) hh0.1 3 wm_2_10 (ty := .int) rfl (fun _ => rfl) rfl (by decide +kernel) rfl rfl (Nat.le_of_ble_eq_true rfl) (by decide) rfl dX4_readNumber_127 (fun σ28 => ?_)
          refine xr_iinc (pc := 130) X (i := 6) (j := 6) [1, 2, 3, 4, 5, 6, 0] (Nat.le_of_ble_eq_true rfl) hnL rfl rfl (fun zz29 => [(0, .ref (ad oo0)), (1, .int pp1), (2, .int pp2), (3, .int pp3), (4, .int zz16), (5, .int zz15), (6, .int zz29)]) (fun _ => rfl) dX4_readNumber_130 (fun zz29 => ?_)
          refine xr_goto (pc := 133) X 31 (by decide) dX4_readNumber_133 ?_
          exact ihh12 _ _ _ _
        refine xr_icmp_lt (pc := 105) X 120 (by decide) dX4_readNumber_105 (fun _ => ?_) (fun _ => ?_)
        · exact x_sub [0, 1, 2, 3, 4, 5, 6] rfl (hKK26  _)
        refine xr_iload (pc := 108) X (i := 7) 7 rfl dX4_readNumber_108 ?_
        refine xr_bipush (pc := 110) X dX4_readNumber_110 (v := 57) (by decide) ?_
        refine xr_icmp_gt (pc := 112) X 120 (by decide) dX4_readNumber_112 (fun _ => ?_) (fun _ => ?_)
        · exact x_sub [0, 1, 2, 3, 4, 5, 6] rfl (hKK26  _)
        refine xr_iload (pc := 115) X (i := 8) 8 rfl dX4_readNumber_115 ?_
        refine xr_if_ne (pc := 117) X 130 (by decide) dX4_readNumber_117 (fun _ => ?_) (fun _ => ?_)
        · refine xr_iinc (pc := 130) X (i := 6) (j := 6) [1, 2, 3, 4, 5, 6, 0, 7, 8] (Nat.le_of_ble_eq_true rfl) hnL rfl rfl (fun zz27 => [(0, .ref (ad oo0)), (1, .int pp1), (2, .int pp2), (3, .int pp3), (4, .int zz16), (5, .int zz15), (6, .int zz27), (7, .int zz14), (8, .int zz17)]) (fun _ => rfl) dX4_readNumber_130 (fun zz27 => ?_)
          refine xr_goto (pc := 133) X 31 (by decide) dX4_readNumber_133 ?_
          exact x_sub [0, 1, 2, 3, 4, 5, 6] rfl (ihh12 _ _ _ _)
        exact x_sub [0, 1, 2, 3, 4, 5, 6] rfl (hKK26  _)
      refine x_jn (fun (KK22 : xS → Option (Int32 × xS)) => ∀ σ21, xM Γ D ad N Sh (xQI Γ D ad N Sh 0 0) 0 0 (KK22 σ21) σ21 98 [(0, .ref (ad oo0)), (1, .int pp1), (2, .int pp2), (3, .int pp3), (4, .int zz16), (5, .int zz15), (6, .int zz9), (7, .int zz14)] []) (fun σ21 => ?_) (fun KK22 hKK23 => ?_)
      · refine xr_iconst (pc := 98) X dX4_readNumber_98 (v := 0) (by decide) ?_
        exact hKK20 _ _
      refine xr_icmp_gt (pc := 77) X 98 (by decide) dX4_readNumber_77 (fun _ => ?_) (fun _ => ?_)
      · exact hKK23  _
      refine xr_iload (pc := 80) X (i := 4) 4 rfl dX4_readNumber_80 ?_
      refine xr_iload (pc := 82) X (i := 5) 5 rfl dX4_readNumber_82 ?_
      refine xr_imul (pc := 84) X dX4_readNumber_84 ?_
      refine xr_iload (pc := 85) X (i := 5) 5 rfl dX4_readNumber_85 ?_
      refine xr_iadd (pc := 87) X dX4_readNumber_87 ?_
      refine xr_iconst (pc := 88) X dX4_readNumber_88 (v := 1) (by decide) ?_
      refine xr_isub (pc := 89) X dX4_readNumber_89 ?_
      refine xr_iload_n (pc := 90) X (i := 2) 2 rfl rfl dX4_readNumber_90 ?_
      refine xr_icmp_lt (pc := 91) X 98 (by decide) dX4_readNumber_91 (fun _ => ?_) (fun _ => ?_)
      · exact hKK23  _
      refine xr_iconst (pc := 94) X dX4_readNumber_94 (v := 1) (by decide) ?_
      refine xr_goto (pc := 95) X 99 (by decide) dX4_readNumber_95 ?_
      exact hKK20 _ _
  refine hLL30 _ (fun zz3 σ4 => ?_) _ _ _ _ _
  refine xr_iload (pc := 136) X (i := 4) 0 rfl dX4_readNumber_136 ?_
  exact xr_iret (pc := 138) X (Nat.le_of_ble_eq_true rfl) (Nat.le_of_ble_eq_true rfl) dX4_readNumber_138
def F_X4_readHead (oo0 : Nat) (σ : xS) : Option (Int32 × xS) :=
  xlet (xu σ oo0 2 0) (fun (σ1 : xS) => xlet (xu σ1 oo0 3 ((-1))) (fun (σ2 : xS) => xbI (F_X4_readLetter oo0 σ2) (fun (zz4 : Int32) (σ3 : xS) => xjn (fun (σ5 : xS) => xbI (F_X4_readNumber oo0 1 1 4 σ5) (fun (zz10 : Int32) (σ9 : xS) => some (zz10, σ9)))
 (fun (KK6 : xS → Option (Int32 × xS)) => if zz4 = 78 then (KK6 σ3)
 else (xlet (xu σ3 oo0 3 0) (fun (σ8 : xS) => KK6 σ8))))))
abbrev rm_X4_readHead : Room := { frames := 2, cells := 0, slots := 0, locals := 49 }
set_option maxHeartbeats 4000000 in
set_option maxRecDepth 100000 in
theorem c_X4_readHead (l : Launch) {D : va_G} {ad : Nat → Nat} {N : Nat} {Sh : xSh} (hI : ∀ i j, i < N → j < N → ad i = ad j → i = j) (oo0 : Nat) (hh0 : xIs4 D ad N Sh oo0) (σ : xS) : xKI l yX4_readHead (Cond.code yX4_readHead cX4_readHead 1 (some .int) :: wG) rm_X4_readHead 0 0 D ad N Sh [.ref (ad oo0)] σ (F_X4_readHead oo0 σ) := by
  refine x_startI (own := RX4) (maxL := 1) (by decide) rfl rfl (Nat.le_of_ble_eq_true rfl) rfl hI (fun Γ hl hnL X => ?_)
  subst hl
  unfold F_X4_readHead
  refine xr_aload_n (pc := 0) X (i := 0) 0 rfl rfl dX4_readHead_0 ?_
  refine xr_iconst (pc := 1) X dX4_readHead_1 (v := 0) (by decide) ?_
  refine xpX4 (pc := 2) X (oo0) hh0.1 2 wm_2_9 (ty := .int) rfl (fun _ => rfl) rfl (by decide +kernel) rfl rfl (Nat.le_of_ble_eq_true rfl) (by decide) rfl dX4_readHead_2 (fun σ1 => ?_)
  refine xr_aload_n (pc := 5) X (i := 0) 0 rfl rfl dX4_readHead_5 ?_
  refine xr_iconst (pc := 6) X dX4_readHead_6 (v := (-1)) (by decide) ?_
  refine xpX4 (pc := 7) X (oo0) hh0.1 3 wm_2_10 (ty := .int) rfl (fun _ => rfl) rfl (by decide +kernel) rfl rfl (Nat.le_of_ble_eq_true rfl) (by decide) rfl dX4_readHead_7 (fun σ2 => ?_)
  refine xr_aload_n (pc := 10) X (i := 0) 0 rfl rfl dX4_readHead_10 ?_
  refine xr_callVI (na := 0) (pc := 11) X (oo0) [] _ (c_X4_readLetter Γ.2.1 hI oo0 hh0 σ2) (wG_V wm_8_0 wm_7_21 wm_7_22 wm_7_23 wm_1_12) rfl rfl rfl (by decide +kernel) ⟨Nat.le_of_ble_eq_true rfl, Nat.le_of_ble_eq_true rfl⟩ hh0.1.1 hh0.1.2 rfl (T := TX4) (C := RX4) rfl rfl rfl (Nat.le_of_ble_eq_true rfl) ⟨Nat.le_of_ble_eq_true rfl, Nat.le_of_ble_eq_true rfl⟩ dX4_readHead_11 (fun zz4 σ3 => ?_)
  refine xr_bipush (pc := 14) X dX4_readHead_14 (v := 78) (by decide) ?_
  refine x_jn (fun (KK6 : xS → Option (Int32 × xS)) => ∀ σ5, xM Γ D ad N Sh (xQI Γ D ad N Sh 0 0) 0 0 (KK6 σ5) σ5 24 [(0, .ref (ad oo0))] []) (fun σ5 => ?_) (fun KK6 hKK7 => ?_)
  · refine xr_aload_n (pc := 24) X (i := 0) 0 rfl rfl dX4_readHead_24 ?_
    refine xr_iconst (pc := 25) X dX4_readHead_25 (v := 1) (by decide) ?_
    refine xr_iconst (pc := 26) X dX4_readHead_26 (v := 1) (by decide) ?_
    refine xr_iconst (pc := 27) X dX4_readHead_27 (v := 4) (by decide) ?_
    refine xr_callVI (na := 3) (pc := 28) X (oo0) [.int 1, .int 1, .int 4] _ (c_X4_readNumber Γ.2.1 hI oo0 hh0 1 1 4 σ5) (wG_V wm_8_4 wm_8_1 wm_8_2 wm_8_3 wm_1_12) rfl rfl rfl (by decide +kernel) ⟨Nat.le_of_ble_eq_true rfl, Nat.le_of_ble_eq_true rfl⟩ hh0.1.1 hh0.1.2 rfl (T := TX4) (C := RX4) rfl rfl rfl (Nat.le_of_ble_eq_true rfl) ⟨Nat.le_of_ble_eq_true rfl, Nat.le_of_ble_eq_true rfl⟩ dX4_readHead_28 (fun zz10 σ9 => ?_)
    exact xr_iret (pc := 31) X (Nat.le_of_ble_eq_true rfl) (Nat.le_of_ble_eq_true rfl) dX4_readHead_31
  refine xr_icmp_eq (pc := 16) X 24 (by decide) dX4_readHead_16 (fun _ => ?_) (fun _ => ?_)
  · exact hKK7  _
  refine xr_aload_n (pc := 19) X (i := 0) 0 rfl rfl dX4_readHead_19 ?_
  refine xr_iconst (pc := 20) X dX4_readHead_20 (v := 0) (by decide) ?_
  refine xpX4 (pc := 21) X (oo0) hh0.1 3 wm_2_10 (ty := .int) rfl (fun _ => rfl) rfl (by decide +kernel) rfl rfl (Nat.le_of_ble_eq_true rfl) (by decide) rfl dX4_readHead_21 (fun σ8 => ?_)
  exact hKK7  _
def F_X4_readWriter (oo0 : Nat) (σ : xS) : Option (Int32 × xS) :=
  xbI (F_X4_readNumber oo0 1 0 3 σ) (fun (zz2 : Int32) (σ1 : xS) => some (zz2, σ1))
abbrev rm_X4_readWriter : Room := { frames := 2, cells := 0, slots := 0, locals := 49 }
set_option maxHeartbeats 4000000 in
set_option maxRecDepth 100000 in
theorem c_X4_readWriter (l : Launch) {D : va_G} {ad : Nat → Nat} {N : Nat} {Sh : xSh} (hI : ∀ i j, i < N → j < N → ad i = ad j → i = j) (oo0 : Nat) (hh0 : xIs4 D ad N Sh oo0) (σ : xS) : xKI l yX4_readWriter (Cond.code yX4_readWriter cX4_readWriter 1 (some .int) :: wG) rm_X4_readWriter 0 0 D ad N Sh [.ref (ad oo0)] σ (F_X4_readWriter oo0 σ) := by
  refine x_startI (own := RX4) (maxL := 1) (by decide) rfl rfl (Nat.le_of_ble_eq_true rfl) rfl hI (fun Γ hl hnL X => ?_)
  subst hl
  unfold F_X4_readWriter
  refine xr_aload_n (pc := 0) X (i := 0) 0 rfl rfl dX4_readWriter_0 ?_
  refine xr_iconst (pc := 1) X dX4_readWriter_1 (v := 1) (by decide) ?_
  refine xr_iconst (pc := 2) X dX4_readWriter_2 (v := 0) (by decide) ?_
  refine xr_iconst (pc := 3) X dX4_readWriter_3 (v := 3) (by decide) ?_
  refine xr_callVI (na := 3) (pc := 4) X (oo0) [.int 1, .int 0, .int 3] _ (c_X4_readNumber Γ.2.1 hI oo0 hh0 1 0 3 σ) (wG_V wm_8_4 wm_8_1 wm_8_2 wm_8_3 wm_1_12) rfl rfl rfl (by decide +kernel) ⟨Nat.le_of_ble_eq_true rfl, Nat.le_of_ble_eq_true rfl⟩ hh0.1.1 hh0.1.2 rfl (T := TX4) (C := RX4) rfl rfl rfl (Nat.le_of_ble_eq_true rfl) ⟨Nat.le_of_ble_eq_true rfl, Nat.le_of_ble_eq_true rfl⟩ dX4_readWriter_4 (fun zz2 σ1 => ?_)
  exact xr_iret (pc := 7) X (Nat.le_of_ble_eq_true rfl) (Nat.le_of_ble_eq_true rfl) dX4_readWriter_7
def F_X4_readSigns (oo0 : Nat) (σ : xS) : Option (Int32 × xS) :=
  xbI (F_X4_readNumber oo0 3 1 500 σ) (fun (zz2 : Int32) (σ1 : xS) => some (zz2, σ1))
abbrev rm_X4_readSigns : Room := { frames := 2, cells := 0, slots := 0, locals := 49 }
set_option maxHeartbeats 4000000 in
set_option maxRecDepth 100000 in
theorem c_X4_readSigns (l : Launch) {D : va_G} {ad : Nat → Nat} {N : Nat} {Sh : xSh} (hI : ∀ i j, i < N → j < N → ad i = ad j → i = j) (oo0 : Nat) (hh0 : xIs4 D ad N Sh oo0) (σ : xS) : xKI l yX4_readSigns (Cond.code yX4_readSigns cX4_readSigns 1 (some .int) :: wG) rm_X4_readSigns 0 0 D ad N Sh [.ref (ad oo0)] σ (F_X4_readSigns oo0 σ) := by
  refine x_startI (own := RX4) (maxL := 1) (by decide) rfl rfl (Nat.le_of_ble_eq_true rfl) rfl hI (fun Γ hl hnL X => ?_)
  subst hl
  unfold F_X4_readSigns
  refine xr_aload_n (pc := 0) X (i := 0) 0 rfl rfl dX4_readSigns_0 ?_
  refine xr_iconst (pc := 1) X dX4_readSigns_1 (v := 3) (by decide) ?_
  refine xr_iconst (pc := 2) X dX4_readSigns_2 (v := 1) (by decide) ?_
  refine xr_sipush (pc := 3) X dX4_readSigns_3 (v := 500) (by decide) ?_
  refine xr_callVI (na := 3) (pc := 6) X (oo0) [.int 3, .int 1, .int 500] _ (c_X4_readNumber Γ.2.1 hI oo0 hh0 3 1 500 σ) (wG_V wm_8_4 wm_8_1 wm_8_2 wm_8_3 wm_1_12) rfl rfl rfl (by decide +kernel) ⟨Nat.le_of_ble_eq_true rfl, Nat.le_of_ble_eq_true rfl⟩ hh0.1.1 hh0.1.2 rfl (T := TX4) (C := RX4) rfl rfl rfl (Nat.le_of_ble_eq_true rfl) ⟨Nat.le_of_ble_eq_true rfl, Nat.le_of_ble_eq_true rfl⟩ dX4_readSigns_6 (fun zz2 σ1 => ?_)
  exact xr_iret (pc := 9) X (Nat.le_of_ble_eq_true rfl) (Nat.le_of_ble_eq_true rfl) dX4_readSigns_9
def F_X4_takeCommand (oo0 : Nat) (pp1 : Int32) (pp2 : Int32) (pp3 : Int32) (pp4 : Int32) (σ : xS) : Option xS :=
  xlet (xu σ oo0 4 pp1) (fun (σ1 : xS) => xlet (xu σ1 oo0 5 pp2) (fun (σ2 : xS) => xlet (xu σ2 oo0 6 pp3) (fun (σ3 : xS) => xlet (xu σ3 oo0 7 pp4) (fun (σ4 : xS) => some σ4))))
abbrev rm_X4_takeCommand : Room := { frames := 0, cells := 0, slots := 0, locals := 0 }
set_option maxHeartbeats 4000000 in
set_option maxRecDepth 100000 in
theorem c_X4_takeCommand (l : Launch) {D : va_G} {ad : Nat → Nat} {N : Nat} {Sh : xSh} (hI : ∀ i j, i < N → j < N → ad i = ad j → i = j) (oo0 : Nat) (hh0 : xIs4 D ad N Sh oo0) (pp1 : Int32) (pp2 : Int32) (pp3 : Int32) (pp4 : Int32) (σ : xS) : xKV l yX4_takeCommand (Cond.code yX4_takeCommand cX4_takeCommand 5 none :: wG) rm_X4_takeCommand 0 0 D ad N Sh [.ref (ad oo0), .int pp1, .int pp2, .int pp3, .int pp4] σ (F_X4_takeCommand oo0 pp1 pp2 pp3 pp4 σ) := by
  refine x_startV (own := RX4) (maxL := 5) (by decide) rfl rfl (Nat.le_of_ble_eq_true rfl) rfl hI (fun Γ hl hnL X => ?_)
  subst hl
  unfold F_X4_takeCommand
  refine xr_aload_n (pc := 0) X (i := 0) 0 rfl rfl dX4_takeCommand_0 ?_
  refine xr_iload_n (pc := 1) X (i := 1) 1 rfl rfl dX4_takeCommand_1 ?_
  refine xpX4 (pc := 2) X (oo0) hh0.1 4 wm_2_11 (ty := .int) rfl (fun _ => rfl) rfl (by decide +kernel) rfl rfl (Nat.le_of_ble_eq_true rfl) (by decide) rfl dX4_takeCommand_2 (fun σ1 => ?_)
  refine xr_aload_n (pc := 5) X (i := 0) 0 rfl rfl dX4_takeCommand_5 ?_
  refine xr_iload_n (pc := 6) X (i := 2) 2 rfl rfl dX4_takeCommand_6 ?_
  refine xpX4 (pc := 7) X (oo0) hh0.1 5 wm_2_12 (ty := .int) rfl (fun _ => rfl) rfl (by decide +kernel) rfl rfl (Nat.le_of_ble_eq_true rfl) (by decide) rfl dX4_takeCommand_7 (fun σ2 => ?_)
  refine xr_aload_n (pc := 10) X (i := 0) 0 rfl rfl dX4_takeCommand_10 ?_
  refine xr_iload_n (pc := 11) X (i := 3) 3 rfl rfl dX4_takeCommand_11 ?_
  refine xpX4 (pc := 12) X (oo0) hh0.1 6 wm_2_13 (ty := .int) rfl (fun _ => rfl) rfl (by decide +kernel) rfl rfl (Nat.le_of_ble_eq_true rfl) (by decide) rfl dX4_takeCommand_12 (fun σ3 => ?_)
  refine xr_aload_n (pc := 15) X (i := 0) 0 rfl rfl dX4_takeCommand_15 ?_
  refine xr_iload (pc := 16) X (i := 4) 4 rfl dX4_takeCommand_16 ?_
  refine xpX4 (pc := 18) X (oo0) hh0.1 7 wm_2_14 (ty := .int) rfl (fun _ => rfl) rfl (by decide +kernel) rfl rfl (Nat.le_of_ble_eq_true rfl) (by decide) rfl dX4_takeCommand_18 (fun σ4 => ?_)
  exact xr_vret (pc := 21) X (Nat.le_refl _) (Nat.le_refl _) dX4_takeCommand_21
def F_X4_readTicks (oo0 : Nat) (σ : xS) : Option (Int32 × xS) :=
  xbI (F_X4_readNumber oo0 2 1 99 σ) (fun (zz2 : Int32) (σ1 : xS) => some (zz2, σ1))
abbrev rm_X4_readTicks : Room := { frames := 2, cells := 0, slots := 0, locals := 49 }
set_option maxHeartbeats 4000000 in
set_option maxRecDepth 100000 in
theorem c_X4_readTicks (l : Launch) {D : va_G} {ad : Nat → Nat} {N : Nat} {Sh : xSh} (hI : ∀ i j, i < N → j < N → ad i = ad j → i = j) (oo0 : Nat) (hh0 : xIs4 D ad N Sh oo0) (σ : xS) : xKI l yX4_readTicks (Cond.code yX4_readTicks cX4_readTicks 1 (some .int) :: wG) rm_X4_readTicks 0 0 D ad N Sh [.ref (ad oo0)] σ (F_X4_readTicks oo0 σ) := by
  refine x_startI (own := RX4) (maxL := 1) (by decide) rfl rfl (Nat.le_of_ble_eq_true rfl) rfl hI (fun Γ hl hnL X => ?_)
  subst hl
  unfold F_X4_readTicks
  refine xr_aload_n (pc := 0) X (i := 0) 0 rfl rfl dX4_readTicks_0 ?_
  refine xr_iconst (pc := 1) X dX4_readTicks_1 (v := 2) (by decide) ?_
  refine xr_iconst (pc := 2) X dX4_readTicks_2 (v := 1) (by decide) ?_
  refine xr_bipush (pc := 3) X dX4_readTicks_3 (v := 99) (by decide) ?_
  refine xr_callVI (na := 3) (pc := 5) X (oo0) [.int 2, .int 1, .int 99] _ (c_X4_readNumber Γ.2.1 hI oo0 hh0 2 1 99 σ) (wG_V wm_8_4 wm_8_1 wm_8_2 wm_8_3 wm_1_12) rfl rfl rfl (by decide +kernel) ⟨Nat.le_of_ble_eq_true rfl, Nat.le_of_ble_eq_true rfl⟩ hh0.1.1 hh0.1.2 rfl (T := TX4) (C := RX4) rfl rfl rfl (Nat.le_of_ble_eq_true rfl) ⟨Nat.le_of_ble_eq_true rfl, Nat.le_of_ble_eq_true rfl⟩ dX4_readTicks_5 (fun zz2 σ1 => ?_)
  exact xr_iret (pc := 8) X (Nat.le_of_ble_eq_true rfl) (Nat.le_of_ble_eq_true rfl) dX4_readTicks_8
def F_X4_readCommand (oo0 : Nat) (σ : xS) : Option (Int32 × xS) :=
  if ¬ (σ oo0 3) = ((-1)) then (some ((0 : Int32), σ))
 else (if (σ oo0 2) < (σ oo0 1) then (xbI (F_X4_readLetter oo0 σ) (fun (zz2 : Int32) (σ1 : xS) => xjn (fun (σ3 : xS) => if ¬ (σ3 oo0 3) = ((-1)) then (some ((0 : Int32), σ3))
 else (some ((1 : Int32), σ3)))
 (fun (KK4 : xS → Option (Int32 × xS)) => if zz2 = 102 then (xbI (F_X4_readWriter oo0 σ1) (fun (zz7 : Int32) (σ6 : xS) => xbV (F_X4_takeCommand oo0 4 zz7 0 0 σ6) (fun (σ8 : xS) => KK4 σ8)))
 else (if zz2 = 104 then (xbI (F_X4_readWriter oo0 σ1) (fun (zz11 : Int32) (σ10 : xS) => xbI (F_X4_readNumber oo0 1 0 1 σ10) (fun (zz13 : Int32) (σ12 : xS) => xbV (F_X4_takeCommand oo0 3 zz11 zz13 0 σ12) (fun (σ14 : xS) => KK4 σ14))))
 else (if zz2 = 112 then (xbI (F_X4_readTicks oo0 σ1) (fun (zz17 : Int32) (σ16 : xS) => xbI (F_X4_readWriter oo0 σ16) (fun (zz19 : Int32) (σ18 : xS) => xbI (F_X4_readSigns oo0 σ18) (fun (zz21 : Int32) (σ20 : xS) => xbV (F_X4_takeCommand oo0 2 zz17 zz19 zz21 σ20) (fun (σ22 : xS) => KK4 σ22)))))
 else (if zz2 = 116 then (xbI (F_X4_readTicks oo0 σ1) (fun (zz25 : Int32) (σ24 : xS) => xbV (F_X4_takeCommand oo0 5 zz25 0 0 σ24) (fun (σ26 : xS) => KK4 σ26)))
 else (if zz2 = 119 then (xbI (F_X4_readWriter oo0 σ1) (fun (zz29 : Int32) (σ28 : xS) => xbI (F_X4_readSigns oo0 σ28) (fun (zz31 : Int32) (σ30 : xS) => xbV (F_X4_takeCommand oo0 1 zz29 zz31 0 σ30) (fun (σ32 : xS) => KK4 σ32))))
 else (xlet (xu σ1 oo0 3 ((σ1 oo0 2) - 1)) (fun (σ34 : xS) => KK4 σ34)))))))))
 else (some ((0 : Int32), σ)))
abbrev rm_X4_readCommand : Room := { frames := 3, cells := 0, slots := 0, locals := 69 }
set_option maxHeartbeats 4000000 in
set_option maxRecDepth 100000 in
theorem c_X4_readCommand (l : Launch) {D : va_G} {ad : Nat → Nat} {N : Nat} {Sh : xSh} (hI : ∀ i j, i < N → j < N → ad i = ad j → i = j) (oo0 : Nat) (hh0 : xIs4 D ad N Sh oo0) (σ : xS) : xKI l yX4_readCommand (Cond.code yX4_readCommand cX4_readCommand 1 (some .boolean) :: wG) rm_X4_readCommand 0 0 D ad N Sh [.ref (ad oo0)] σ (F_X4_readCommand oo0 σ) := by
  refine x_startI (own := RX4) (maxL := 1) (by decide) rfl rfl (Nat.le_of_ble_eq_true rfl) rfl hI (fun Γ hl hnL X => ?_)
  subst hl
  unfold F_X4_readCommand
  refine xr_aload_n (pc := 0) X (i := 0) 0 rfl rfl dX4_readCommand_0 ?_
  refine xgX4 (pc := 1) X (oo0) hh0.1 3 wm_2_10 rfl rfl (by decide) rfl dX4_readCommand_1 ?_
  refine xr_iconst (pc := 4) X dX4_readCommand_4 (v := (-1)) (by decide) ?_
  refine xr_icmp_ne (pc := 5) X 19 (by decide) dX4_readCommand_5 (fun _ => ?_) (fun _ => ?_)
  · refine xr_iconst (pc := 19) X dX4_readCommand_19 (v := 0) (by decide) ?_
    exact xr_zret (pc := 20) X rfl (Nat.le_of_ble_eq_true rfl) (Nat.le_of_ble_eq_true rfl) dX4_readCommand_20
  refine xr_aload_n (pc := 8) X (i := 0) 0 rfl rfl dX4_readCommand_8 ?_
  refine xgX4 (pc := 9) X (oo0) hh0.1 2 wm_2_9 rfl rfl (by decide) rfl dX4_readCommand_9 ?_
  refine xr_aload_n (pc := 12) X (i := 0) 0 rfl rfl dX4_readCommand_12 ?_
  refine xgX4 (pc := 13) X (oo0) hh0.1 1 wm_2_8 rfl rfl (by decide) rfl dX4_readCommand_13 ?_
  refine xr_icmp_lt (pc := 16) X 21 (by decide) dX4_readCommand_16 (fun _ => ?_) (fun _ => ?_)
  · refine xr_aload_n (pc := 21) X (i := 0) 0 rfl rfl dX4_readCommand_21 ?_
    refine xr_callVI (na := 0) (pc := 22) X (oo0) [] _ (c_X4_readLetter Γ.2.1 hI oo0 hh0 σ) (wG_V wm_8_0 wm_7_21 wm_7_22 wm_7_23 wm_1_12) rfl rfl rfl (by decide +kernel) ⟨Nat.le_of_ble_eq_true rfl, Nat.le_of_ble_eq_true rfl⟩ hh0.1.1 hh0.1.2 rfl (T := TX4) (C := RX4) rfl rfl rfl (Nat.le_of_ble_eq_true rfl) ⟨Nat.le_of_ble_eq_true rfl, Nat.le_of_ble_eq_true rfl⟩ dX4_readCommand_22 (fun zz2 σ1 => ?_)
    refine x_jn (fun (KK4 : xS → Option (Int32 × xS)) => ∀ σ3, xM Γ D ad N Sh (xQI Γ D ad N Sh 0 0) 0 0 (KK4 σ3) σ3 171 [(0, .ref (ad oo0))] []) (fun σ3 => ?_) (fun KK4 hKK5 => ?_)
    · refine xr_aload_n (pc := 171) X (i := 0) 0 rfl rfl dX4_readCommand_171 ?_
      refine xgX4 (pc := 172) X (oo0) hh0.1 3 wm_2_10 rfl rfl (by decide) rfl dX4_readCommand_172 ?_
      refine xr_iconst (pc := 175) X dX4_readCommand_175 (v := (-1)) (by decide) ?_
      refine xr_icmp_ne (pc := 176) X 183 (by decide) dX4_readCommand_176 (fun _ => ?_) (fun _ => ?_)
      · refine xr_iconst (pc := 183) X dX4_readCommand_183 (v := 0) (by decide) ?_
        exact xr_zret (pc := 184) X rfl (Nat.le_of_ble_eq_true rfl) (Nat.le_of_ble_eq_true rfl) dX4_readCommand_184
      refine xr_iconst (pc := 179) X dX4_readCommand_179 (v := 1) (by decide) ?_
      refine xr_goto (pc := 180) X 184 (by decide) dX4_readCommand_180 ?_
      exact xr_zret (pc := 184) X rfl (Nat.le_of_ble_eq_true rfl) (Nat.le_of_ble_eq_true rfl) dX4_readCommand_184
    refine x_if (fun hcc9 => ?_) (fun hcc9 => ?_)
    · refine xr_look (off := 108) (pc := 25) X 133 dX4_readCommand_25 (by decide) (by rw [hcc9]; rfl) (by decide) ?_
      refine xr_aload_n (pc := 133) X (i := 0) 0 rfl rfl dX4_readCommand_133 ?_
      refine xr_iconst (pc := 134) X dX4_readCommand_134 (v := 4) (by decide) ?_
      refine xr_aload_n (pc := 135) X (i := 0) 0 rfl rfl dX4_readCommand_135 ?_
      refine xr_callVI (na := 0) (pc := 136) X (oo0) [] _ (c_X4_readWriter Γ.2.1 hI oo0 hh0 σ1) (wG_V wm_8_12 wm_8_9 wm_8_10 wm_8_11 wm_1_12) rfl rfl rfl (by decide +kernel) ⟨Nat.le_of_ble_eq_true rfl, Nat.le_of_ble_eq_true rfl⟩ hh0.1.1 hh0.1.2 rfl (T := TX4) (C := RX4) rfl rfl rfl (Nat.le_of_ble_eq_true rfl) ⟨Nat.le_of_ble_eq_true rfl, Nat.le_of_ble_eq_true rfl⟩ dX4_readCommand_136 (fun zz7 σ6 => ?_)
      refine xr_iconst (pc := 139) X dX4_readCommand_139 (v := 0) (by decide) ?_
      refine xr_iconst (pc := 140) X dX4_readCommand_140 (v := 0) (by decide) ?_
      refine xr_callVV (na := 4) (pc := 141) X (oo0) [.int 4, .int zz7, .int 0, .int 0] _ (c_X4_takeCommand Γ.2.1 hI oo0 hh0 4 zz7 0 0 σ6) (wG_V wm_8_20 wm_8_17 wm_8_18 wm_8_19 wm_1_12) rfl rfl rfl (by decide +kernel) ⟨Nat.le_of_ble_eq_true rfl, Nat.le_of_ble_eq_true rfl⟩ hh0.1.1 hh0.1.2 rfl (T := TX4) (C := RX4) rfl rfl rfl (Nat.le_of_ble_eq_true rfl) ⟨Nat.le_of_ble_eq_true rfl, Nat.le_of_ble_eq_true rfl⟩ dX4_readCommand_141 (fun σ8 => ?_)
      refine xr_goto (pc := 144) X 171 (by decide) dX4_readCommand_144 ?_
      exact hKK5  _
    refine x_if (fun hcc15 => ?_) (fun hcc15 => ?_)
    · refine xr_look (off := 88) (pc := 25) X 113 dX4_readCommand_25 (by decide) (by rw [hcc15]; rfl) (by decide) ?_
      refine xr_aload_n (pc := 113) X (i := 0) 0 rfl rfl dX4_readCommand_113 ?_
      refine xr_iconst (pc := 114) X dX4_readCommand_114 (v := 3) (by decide) ?_
      refine xr_aload_n (pc := 115) X (i := 0) 0 rfl rfl dX4_readCommand_115 ?_
      refine xr_callVI (na := 0) (pc := 116) X (oo0) [] _ (c_X4_readWriter Γ.2.1 hI oo0 hh0 σ1) (wG_V wm_8_12 wm_8_9 wm_8_10 wm_8_11 wm_1_12) rfl rfl rfl (by decide +kernel) ⟨Nat.le_of_ble_eq_true rfl, Nat.le_of_ble_eq_true rfl⟩ hh0.1.1 hh0.1.2 rfl (T := TX4) (C := RX4) rfl rfl rfl (Nat.le_of_ble_eq_true rfl) ⟨Nat.le_of_ble_eq_true rfl, Nat.le_of_ble_eq_true rfl⟩ dX4_readCommand_116 (fun zz11 σ10 => ?_)
      refine xr_aload_n (pc := 119) X (i := 0) 0 rfl rfl dX4_readCommand_119 ?_
      refine xr_iconst (pc := 120) X dX4_readCommand_120 (v := 1) (by decide) ?_
      refine xr_iconst (pc := 121) X dX4_readCommand_121 (v := 0) (by decide) ?_
      refine xr_iconst (pc := 122) X dX4_readCommand_122 (v := 1) (by decide) ?_
      refine xr_callVI (na := 3) (pc := 123) X (oo0) [.int 1, .int 0, .int 1] _ (c_X4_readNumber Γ.2.1 hI oo0 hh0 1 0 1 σ10) (wG_V wm_8_4 wm_8_1 wm_8_2 wm_8_3 wm_1_12) rfl rfl rfl (by decide +kernel) ⟨Nat.le_of_ble_eq_true rfl, Nat.le_of_ble_eq_true rfl⟩ hh0.1.1 hh0.1.2 rfl (T := TX4) (C := RX4) rfl rfl rfl (Nat.le_of_ble_eq_true rfl) ⟨Nat.le_of_ble_eq_true rfl, Nat.le_of_ble_eq_true rfl⟩ dX4_readCommand_123 (fun zz13 σ12 => ?_)
      refine xr_iconst (pc := 126) X dX4_readCommand_126 (v := 0) (by decide) ?_
      refine xr_callVV (na := 4) (pc := 127) X (oo0) [.int 3, .int zz11, .int zz13, .int 0] _ (c_X4_takeCommand Γ.2.1 hI oo0 hh0 3 zz11 zz13 0 σ12) (wG_V wm_8_20 wm_8_17 wm_8_18 wm_8_19 wm_1_12) rfl rfl rfl (by decide +kernel) ⟨Nat.le_of_ble_eq_true rfl, Nat.le_of_ble_eq_true rfl⟩ hh0.1.1 hh0.1.2 rfl (T := TX4) (C := RX4) rfl rfl rfl (Nat.le_of_ble_eq_true rfl) ⟨Nat.le_of_ble_eq_true rfl, Nat.le_of_ble_eq_true rfl⟩ dX4_readCommand_127 (fun σ14 => ?_)
      refine xr_goto (pc := 130) X 171 (by decide) dX4_readCommand_130 ?_
      exact hKK5  _
    refine x_if (fun hcc23 => ?_) (fun hcc23 => ?_)
    · refine xr_look (off := 68) (pc := 25) X 93 dX4_readCommand_25 (by decide) (by rw [hcc23]; rfl) (by decide) ?_
      refine xr_aload_n (pc := 93) X (i := 0) 0 rfl rfl dX4_readCommand_93 ?_
      refine xr_iconst (pc := 94) X dX4_readCommand_94 (v := 2) (by decide) ?_
      refine xr_aload_n (pc := 95) X (i := 0) 0 rfl rfl dX4_readCommand_95 ?_
      refine xr_callVI (na := 0) (pc := 96) X (oo0) [] _ (c_X4_readTicks Γ.2.1 hI oo0 hh0 σ1) (wG_V wm_9_0 wm_8_21 wm_8_22 wm_8_23 wm_1_12) rfl rfl rfl (by decide +kernel) ⟨Nat.le_of_ble_eq_true rfl, Nat.le_of_ble_eq_true rfl⟩ hh0.1.1 hh0.1.2 rfl (T := TX4) (C := RX4) rfl rfl rfl (Nat.le_of_ble_eq_true rfl) ⟨Nat.le_of_ble_eq_true rfl, Nat.le_of_ble_eq_true rfl⟩ dX4_readCommand_96 (fun zz17 σ16 => ?_)
      refine xr_aload_n (pc := 99) X (i := 0) 0 rfl rfl dX4_readCommand_99 ?_
      refine xr_callVI (na := 0) (pc := 100) X (oo0) [] _ (c_X4_readWriter Γ.2.1 hI oo0 hh0 σ16) (wG_V wm_8_12 wm_8_9 wm_8_10 wm_8_11 wm_1_12) rfl rfl rfl (by decide +kernel) ⟨Nat.le_of_ble_eq_true rfl, Nat.le_of_ble_eq_true rfl⟩ hh0.1.1 hh0.1.2 rfl (T := TX4) (C := RX4) rfl rfl rfl (Nat.le_of_ble_eq_true rfl) ⟨Nat.le_of_ble_eq_true rfl, Nat.le_of_ble_eq_true rfl⟩ dX4_readCommand_100 (fun zz19 σ18 => ?_)
      refine xr_aload_n (pc := 103) X (i := 0) 0 rfl rfl dX4_readCommand_103 ?_
      refine xr_callVI (na := 0) (pc := 104) X (oo0) [] _ (c_X4_readSigns Γ.2.1 hI oo0 hh0 σ18) (wG_V wm_8_16 wm_8_13 wm_8_14 wm_8_15 wm_1_12) rfl rfl rfl (by decide +kernel) ⟨Nat.le_of_ble_eq_true rfl, Nat.le_of_ble_eq_true rfl⟩ hh0.1.1 hh0.1.2 rfl (T := TX4) (C := RX4) rfl rfl rfl (Nat.le_of_ble_eq_true rfl) ⟨Nat.le_of_ble_eq_true rfl, Nat.le_of_ble_eq_true rfl⟩ dX4_readCommand_104 (fun zz21 σ20 => ?_)
      refine xr_callVV (na := 4) (pc := 107) X (oo0) [.int 2, .int zz17, .int zz19, .int zz21] _ (c_X4_takeCommand Γ.2.1 hI oo0 hh0 2 zz17 zz19 zz21 σ20) (wG_V wm_8_20 wm_8_17 wm_8_18 wm_8_19 wm_1_12) rfl rfl rfl (by decide +kernel) ⟨Nat.le_of_ble_eq_true rfl, Nat.le_of_ble_eq_true rfl⟩ hh0.1.1 hh0.1.2 rfl (T := TX4) (C := RX4) rfl rfl rfl (Nat.le_of_ble_eq_true rfl) ⟨Nat.le_of_ble_eq_true rfl, Nat.le_of_ble_eq_true rfl⟩ dX4_readCommand_107 (fun σ22 => ?_)
      refine xr_goto (pc := 110) X 171 (by decide) dX4_readCommand_110 ?_
      exact hKK5  _
    refine x_if (fun hcc27 => ?_) (fun hcc27 => ?_)
    · refine xr_look (off := 122) (pc := 25) X 147 dX4_readCommand_25 (by decide) (by rw [hcc27]; rfl) (by decide) ?_
      refine xr_aload_n (pc := 147) X (i := 0) 0 rfl rfl dX4_readCommand_147 ?_
      refine xr_iconst (pc := 148) X dX4_readCommand_148 (v := 5) (by decide) ?_
      refine xr_aload_n (pc := 149) X (i := 0) 0 rfl rfl dX4_readCommand_149 ?_
      refine xr_callVI (na := 0) (pc := 150) X (oo0) [] _ (c_X4_readTicks Γ.2.1 hI oo0 hh0 σ1) (wG_V wm_9_0 wm_8_21 wm_8_22 wm_8_23 wm_1_12) rfl rfl rfl (by decide +kernel) ⟨Nat.le_of_ble_eq_true rfl, Nat.le_of_ble_eq_true rfl⟩ hh0.1.1 hh0.1.2 rfl (T := TX4) (C := RX4) rfl rfl rfl (Nat.le_of_ble_eq_true rfl) ⟨Nat.le_of_ble_eq_true rfl, Nat.le_of_ble_eq_true rfl⟩ dX4_readCommand_150 (fun zz25 σ24 => ?_)
      refine xr_iconst (pc := 153) X dX4_readCommand_153 (v := 0) (by decide) ?_
      refine xr_iconst (pc := 154) X dX4_readCommand_154 (v := 0) (by decide) ?_
      refine xr_callVV (na := 4) (pc := 155) X (oo0) [.int 5, .int zz25, .int 0, .int 0] _ (c_X4_takeCommand Γ.2.1 hI oo0 hh0 5 zz25 0 0 σ24) (wG_V wm_8_20 wm_8_17 wm_8_18 wm_8_19 wm_1_12) rfl rfl rfl (by decide +kernel) ⟨Nat.le_of_ble_eq_true rfl, Nat.le_of_ble_eq_true rfl⟩ hh0.1.1 hh0.1.2 rfl (T := TX4) (C := RX4) rfl rfl rfl (Nat.le_of_ble_eq_true rfl) ⟨Nat.le_of_ble_eq_true rfl, Nat.le_of_ble_eq_true rfl⟩ dX4_readCommand_155 (fun σ26 => ?_)
      refine xr_goto (pc := 158) X 171 (by decide) dX4_readCommand_158 ?_
      exact hKK5  _
    refine x_if (fun hcc33 => ?_) (fun hcc33 => ?_)
    · refine xr_look (off := 51) (pc := 25) X 76 dX4_readCommand_25 (by decide) (by rw [hcc33]; rfl) (by decide) ?_
      refine xr_aload_n (pc := 76) X (i := 0) 0 rfl rfl dX4_readCommand_76 ?_
      refine xr_iconst (pc := 77) X dX4_readCommand_77 (v := 1) (by decide) ?_
      refine xr_aload_n (pc := 78) X (i := 0) 0 rfl rfl dX4_readCommand_78 ?_
      refine xr_callVI (na := 0) (pc := 79) X (oo0) [] _ (c_X4_readWriter Γ.2.1 hI oo0 hh0 σ1) (wG_V wm_8_12 wm_8_9 wm_8_10 wm_8_11 wm_1_12) rfl rfl rfl (by decide +kernel) ⟨Nat.le_of_ble_eq_true rfl, Nat.le_of_ble_eq_true rfl⟩ hh0.1.1 hh0.1.2 rfl (T := TX4) (C := RX4) rfl rfl rfl (Nat.le_of_ble_eq_true rfl) ⟨Nat.le_of_ble_eq_true rfl, Nat.le_of_ble_eq_true rfl⟩ dX4_readCommand_79 (fun zz29 σ28 => ?_)
      refine xr_aload_n (pc := 82) X (i := 0) 0 rfl rfl dX4_readCommand_82 ?_
      refine xr_callVI (na := 0) (pc := 83) X (oo0) [] _ (c_X4_readSigns Γ.2.1 hI oo0 hh0 σ28) (wG_V wm_8_16 wm_8_13 wm_8_14 wm_8_15 wm_1_12) rfl rfl rfl (by decide +kernel) ⟨Nat.le_of_ble_eq_true rfl, Nat.le_of_ble_eq_true rfl⟩ hh0.1.1 hh0.1.2 rfl (T := TX4) (C := RX4) rfl rfl rfl (Nat.le_of_ble_eq_true rfl) ⟨Nat.le_of_ble_eq_true rfl, Nat.le_of_ble_eq_true rfl⟩ dX4_readCommand_83 (fun zz31 σ30 => ?_)
      refine xr_iconst (pc := 86) X dX4_readCommand_86 (v := 0) (by decide) ?_
      refine xr_callVV (na := 4) (pc := 87) X (oo0) [.int 1, .int zz29, .int zz31, .int 0] _ (c_X4_takeCommand Γ.2.1 hI oo0 hh0 1 zz29 zz31 0 σ30) (wG_V wm_8_20 wm_8_17 wm_8_18 wm_8_19 wm_1_12) rfl rfl rfl (by decide +kernel) ⟨Nat.le_of_ble_eq_true rfl, Nat.le_of_ble_eq_true rfl⟩ hh0.1.1 hh0.1.2 rfl (T := TX4) (C := RX4) rfl rfl rfl (Nat.le_of_ble_eq_true rfl) ⟨Nat.le_of_ble_eq_true rfl, Nat.le_of_ble_eq_true rfl⟩ dX4_readCommand_87 (fun σ32 => ?_)
      refine xr_goto (pc := 90) X 171 (by decide) dX4_readCommand_90 ?_
      exact hKK5  _
    refine xr_look (off := 136) (pc := 25) X 161 dX4_readCommand_25 (by decide) (by have g0 := xne hcc9 (j := 102) (by decide); have g1 := xne hcc15 (j := 104) (by decide); have g2 := xne hcc23 (j := 112) (by decide); have g3 := xne hcc27 (j := 116) (by decide); have g4 := xne hcc33 (j := 119) (by decide); simp [Op.lookupswitch.offset, Ne.symm g0, g0, Ne.symm g1, g1, Ne.symm g2, g2, Ne.symm g3, g3, Ne.symm g4, g4]; done) (by decide) ?_
    refine xr_aload_n (pc := 161) X (i := 0) 0 rfl rfl dX4_readCommand_161 ?_
    refine xr_aload_n (pc := 162) X (i := 0) 0 rfl rfl dX4_readCommand_162 ?_
    refine xgX4 (pc := 163) X (oo0) hh0.1 2 wm_2_9 rfl rfl (by decide) rfl dX4_readCommand_163 ?_
    refine xr_iconst (pc := 166) X dX4_readCommand_166 (v := 1) (by decide) ?_
    refine xr_isub (pc := 167) X dX4_readCommand_167 ?_
    refine xpX4 (pc := 168) X (oo0) hh0.1 3 wm_2_10 (ty := .int) rfl (fun _ => rfl) rfl (by decide +kernel) rfl rfl (Nat.le_of_ble_eq_true rfl) (by decide) rfl dX4_readCommand_168 (fun σ34 => ?_)
    exact hKK5  _
  refine xr_iconst (pc := 19) X dX4_readCommand_19 (v := 0) (by decide) ?_
  exact xr_zret (pc := 20) X rfl (Nat.le_of_ble_eq_true rfl) (Nat.le_of_ble_eq_true rfl) dX4_readCommand_20
def L_X4_firstError_9 (oo0 : Nat) (KK4 : xS → Option (Int32 × xS)) : Nat → Int32 → Int32 → xS → Option (Int32 × xS)
  | 0, _, _, _ => none
  | nn_9 + 1, zz6, zz7, σ8 => if zz6 = 0 then (KK4 σ8)
 else (if 120 ≤ zz7 then (KK4 σ8)
 else (xbI (F_X4_readCommand oo0 σ8) (fun (zz12 : Int32) (σ11 : xS) => xlet (zz7 + 1) (fun (zz13 : Int32) => L_X4_firstError_9 oo0 KK4 nn_9 zz12 zz13 σ11))))
def F_X4_firstError (oo0 : Nat) (σ : xS) : Option (Int32 × xS) :=
  xbI (F_X4_readHead oo0 σ) (fun (zz2 : Int32) (σ1 : xS) => L_X4_firstError_9 oo0 (fun (σ3 : xS) => some ((σ3 oo0 3), σ3)) 1000 1 0 σ1)
abbrev rm_X4_firstError : Room := { frames := 4, cells := 0, slots := 0, locals := 89 }
set_option maxHeartbeats 4000000 in
set_option maxRecDepth 100000 in
theorem c_X4_firstError (l : Launch) {D : va_G} {ad : Nat → Nat} {N : Nat} {Sh : xSh} (hI : ∀ i j, i < N → j < N → ad i = ad j → i = j) (oo0 : Nat) (hh0 : xIs4 D ad N Sh oo0) (σ : xS) : xKI l yX4_firstError (Cond.code yX4_firstError cX4_firstError 3 (some .int) :: wG) rm_X4_firstError 0 0 D ad N Sh [.ref (ad oo0)] σ (F_X4_firstError oo0 σ) := by
  refine x_startI (own := RX4) (maxL := 3) (by decide) rfl rfl (Nat.le_of_ble_eq_true rfl) rfl hI (fun Γ hl hnL X => ?_)
  subst hl
  unfold F_X4_firstError
  refine xr_aload_n (pc := 0) X (i := 0) 0 rfl rfl dX4_firstError_0 ?_
  refine xr_callVI (na := 0) (pc := 1) X (oo0) [] _ (c_X4_readHead Γ.2.1 hI oo0 hh0 σ) (wG_V wm_7_20 wm_7_17 wm_7_18 wm_7_19 wm_1_12) rfl rfl rfl (by decide +kernel) ⟨Nat.le_of_ble_eq_true rfl, Nat.le_of_ble_eq_true rfl⟩ hh0.1.1 hh0.1.2 rfl (T := TX4) (C := RX4) rfl rfl rfl (Nat.le_of_ble_eq_true rfl) ⟨Nat.le_of_ble_eq_true rfl, Nat.le_of_ble_eq_true rfl⟩ dX4_firstError_1 (fun zz2 σ1 => ?_)
  refine xr_pop (pc := 4) X rfl dX4_firstError_4 ?_
  refine xr_iconst (pc := 5) X dX4_firstError_5 (v := 1) (by decide) ?_
  refine xr_istore_n (pc := 6) X (hf := rfl) (i := 1) (lv2 := [(0, .ref (ad oo0)), (1, .int 1)]) [1, 0] (Nat.le_of_ble_eq_true rfl) hnL rfl dX4_firstError_6 ?_
  refine xr_iconst (pc := 7) X dX4_firstError_7 (v := 0) (by decide) ?_
  refine xr_istore_n (pc := 8) X (hf := rfl) (i := 2) (lv2 := [(0, .ref (ad oo0)), (1, .int 1), (2, .int 0)]) [1, 2, 0] (Nat.le_of_ble_eq_true rfl) hnL rfl dX4_firstError_8 ?_
  have hLL14 : ∀ (KK4 : xS → Option (Int32 × xS)) (hKK5 : ∀ σ3, xM Γ D ad N Sh (xQI Γ D ad N Sh 0 0) 0 0 (KK4 σ3) σ3 30 [(0, .ref (ad oo0))] []), ∀ (nn_9 : Nat) zz6 zz7 σ8, xM Γ D ad N Sh (xQI Γ D ad N Sh 0 0) 0 0 (L_X4_firstError_9 oo0 KK4 nn_9 zz6 zz7 σ8) σ8 9 [(0, .ref (ad oo0)), (1, .int zz6), (2, .int zz7)] [] := by
    intro KK4 hKK5 nn_9
    induction nn_9 with
    | zero => intro zz6 zz7 σ8; exact xM_none
    | succ nn_9 ihh10 =>
      intro zz6 zz7 σ8
      rw [L_X4_firstError_9]
      refine xr_iload_n (pc := 9) X (i := 1) 1 rfl rfl dX4_firstError_9 ?_
      refine xr_if_eq (pc := 10) X 30 (by decide) dX4_firstError_10 (fun _ => ?_) (fun _ => ?_)
      · exact x_sub [0] rfl (hKK5  _)
      refine xr_iload_n (pc := 13) X (i := 2) 2 rfl rfl dX4_firstError_13 ?_
      refine xr_bipush (pc := 14) X dX4_firstError_14 (v := 120) (by decide) ?_
      refine xr_icmp_ge (pc := 16) X 30 (by decide) dX4_firstError_16 (fun _ => ?_) (fun _ => ?_)
      · exact x_sub [0] rfl (hKK5  _)
      refine xr_aload_n (pc := 19) X (i := 0) 0 rfl rfl dX4_firstError_19 ?_
      refine xr_callVI (na := 0) (pc := 20) X (oo0) [] _ (c_X4_readCommand Γ.2.1 hI oo0 hh0 σ8) (wG_V wm_8_8 wm_8_5 wm_8_6 wm_8_7 wm_1_12) rfl rfl rfl (by decide +kernel) ⟨Nat.le_of_ble_eq_true rfl, Nat.le_of_ble_eq_true rfl⟩ hh0.1.1 hh0.1.2 rfl (T := TX4) (C := RX4) rfl rfl rfl (Nat.le_of_ble_eq_true rfl) ⟨Nat.le_of_ble_eq_true rfl, Nat.le_of_ble_eq_true rfl⟩ dX4_firstError_20 (fun zz12 σ11 => ?_)
      refine xr_istore_n (pc := 23) X (hf := rfl) (i := 1) (lv2 := [(0, .ref (ad oo0)), (1, .int zz12), (2, .int zz7)]) [1, 0, 2] (Nat.le_of_ble_eq_true rfl) hnL rfl dX4_firstError_23 ?_
      refine xr_iinc (pc := 24) X (i := 2) (j := 2) [1, 2, 0] (Nat.le_of_ble_eq_true rfl) hnL rfl rfl (fun zz13 => [(0, .ref (ad oo0)), (1, .int zz12), (2, .int zz13)]) (fun _ => rfl) dX4_firstError_24 (fun zz13 => ?_)
      refine xr_goto (pc := 27) X 9 (by decide) dX4_firstError_27 ?_
      exact ihh10 _ _ _
  refine hLL14 _ (fun σ3 => ?_) _ _ _ _
  refine xr_aload_n (pc := 30) X (i := 0) 0 rfl rfl dX4_firstError_30 ?_
  refine xgX4 (pc := 31) X (oo0) hh0.1 3 wm_2_10 rfl rfl (by decide) rfl dX4_firstError_31 ?_
  exact xr_iret (pc := 34) X (Nat.le_of_ble_eq_true rfl) (Nat.le_of_ble_eq_true rfl) dX4_firstError_34
