def F_X0_timeAt (cc0 dd0 : Nat) (pp1 : Int32) (σ : xS) : Option (Int32 × xS) :=
  if pp1 < 0 then (some ((-1 : Int32), σ))
 else (if (σ dd0 3) ≤ pp1 then (some ((-1 : Int32), σ))
 else (if (nI cc0) ≤ pp1 then (some ((-1 : Int32), σ))
 else (if xin pp1 cc0 = true then (xlet (σ (dd0 + 1) pp1.toNatClampNeg) (fun (zz1 : Int32) => some (zz1, σ))) else none)))
abbrev rm_X0_timeAt : Room := { frames := 0, cells := 0, slots := 0, locals := 0 }
set_option maxHeartbeats 4000000 in
set_option maxRecDepth 100000 in
theorem c_X0_timeAt (l : Launch) {D : va_G} {ad : Nat → Nat} {N : Nat} {Sh : xSh} (hI : ∀ i j, i < N → j < N → ad i = ad j → i = j) (cc0 dd0 : Nat) (hh0 : xIs0 D ad N Sh cc0 dd0) (pp1 : Int32) (σ : xS) : xKI l yX0_timeAt (Cond.code yX0_timeAt cX0_timeAt 2 (some .int) :: wG) rm_X0_timeAt 0 0 D ad N Sh [.ref (ad dd0), .int pp1] σ (F_X0_timeAt cc0 dd0 pp1 σ) := by
  refine x_startI (own := RX0) (maxL := 2) (by decide) rfl rfl (Nat.le_of_ble_eq_true rfl) rfl hI (fun Γ hl hnL X => ?_)
  subst hl
  unfold F_X0_timeAt
  refine xr_iload_n (pc := 0) X (i := 1) 1 rfl rfl dX0_timeAt_0 ?_
  refine xr_if_lt (pc := 1) X 30 (by decide) dX0_timeAt_1 (fun _ => ?_) (fun _ => ?_)
  · refine xr_iconst (pc := 30) X dX0_timeAt_30 (v := (-1)) (by decide) ?_
    exact xr_iret (pc := 31) X (Nat.le_of_ble_eq_true rfl) (Nat.le_of_ble_eq_true rfl) dX0_timeAt_31
  refine xr_iload_n (pc := 4) X (i := 1) 1 rfl rfl dX0_timeAt_4 ?_
  refine xr_aload_n (pc := 5) X (i := 0) 0 rfl rfl dX0_timeAt_5 ?_
  refine xgX0 (pc := 6) X (dd0) hh0.1 3 wm_3_9 rfl rfl (by decide) rfl dX0_timeAt_6 ?_
  refine xr_icmp_ge (pc := 9) X 30 (by decide) dX0_timeAt_9 (fun _ => ?_) (fun _ => ?_)
  · refine xr_iconst (pc := 30) X dX0_timeAt_30 (v := (-1)) (by decide) ?_
    exact xr_iret (pc := 31) X (Nat.le_of_ble_eq_true rfl) (Nat.le_of_ble_eq_true rfl) dX0_timeAt_31
  refine xr_iload_n (pc := 12) X (i := 1) 1 rfl rfl dX0_timeAt_12 ?_
  refine xr_aload_n (pc := 13) X (i := 0) 0 rfl rfl dX0_timeAt_13 ?_
  refine xgX0 (pc := 14) X (dd0) hh0.1 0 wm_3_14 rfl rfl (by decide) rfl dX0_timeAt_14 ?_
  refine xr_alenI (pc := 17) X (dd0 + 1) (cc0) hh0.2.1.1 hh0.2.1.2 dX0_timeAt_17 ?_
  refine xr_icmp_ge (pc := 18) X 30 (by decide) dX0_timeAt_18 (fun _ => ?_) (fun _ => ?_)
  · refine xr_iconst (pc := 30) X dX0_timeAt_30 (v := (-1)) (by decide) ?_
    exact xr_iret (pc := 31) X (Nat.le_of_ble_eq_true rfl) (Nat.le_of_ble_eq_true rfl) dX0_timeAt_31
  refine xr_aload_n (pc := 21) X (i := 0) 0 rfl rfl dX0_timeAt_21 ?_
  refine xgX0 (pc := 22) X (dd0) hh0.1 0 wm_3_14 rfl rfl (by decide) rfl dX0_timeAt_22 ?_
  refine xr_iload_n (pc := 25) X (i := 1) 1 rfl rfl dX0_timeAt_25 ?_
  refine xr_iald (pc := 26) X (dd0 + 1) (cc0) hh0.2.1.1 hh0.2.1.2 dX0_timeAt_26 (fun zz1 => ?_)
  refine xr_goto (pc := 27) X 31 (by decide) dX0_timeAt_27 ?_
  exact xr_iret (pc := 31) X (Nat.le_of_ble_eq_true rfl) (Nat.le_of_ble_eq_true rfl) dX0_timeAt_31
def F_X0_writerAt (cc0 dd0 : Nat) (pp1 : Int32) (σ : xS) : Option (Int32 × xS) :=
  if pp1 < 0 then (some ((-1 : Int32), σ))
 else (if (σ dd0 3) ≤ pp1 then (some ((-1 : Int32), σ))
 else (if (nI cc0) ≤ pp1 then (some ((-1 : Int32), σ))
 else (if xin pp1 cc0 = true then (xlet (σ (dd0 + 2) pp1.toNatClampNeg) (fun (zz1 : Int32) => some (zz1, σ))) else none)))
abbrev rm_X0_writerAt : Room := { frames := 0, cells := 0, slots := 0, locals := 0 }
set_option maxHeartbeats 4000000 in
set_option maxRecDepth 100000 in
theorem c_X0_writerAt (l : Launch) {D : va_G} {ad : Nat → Nat} {N : Nat} {Sh : xSh} (hI : ∀ i j, i < N → j < N → ad i = ad j → i = j) (cc0 dd0 : Nat) (hh0 : xIs0 D ad N Sh cc0 dd0) (pp1 : Int32) (σ : xS) : xKI l yX0_writerAt (Cond.code yX0_writerAt cX0_writerAt 2 (some .int) :: wG) rm_X0_writerAt 0 0 D ad N Sh [.ref (ad dd0), .int pp1] σ (F_X0_writerAt cc0 dd0 pp1 σ) := by
  refine x_startI (own := RX0) (maxL := 2) (by decide) rfl rfl (Nat.le_of_ble_eq_true rfl) rfl hI (fun Γ hl hnL X => ?_)
  subst hl
  unfold F_X0_writerAt
  refine xr_iload_n (pc := 0) X (i := 1) 1 rfl rfl dX0_writerAt_0 ?_
  refine xr_if_lt (pc := 1) X 30 (by decide) dX0_writerAt_1 (fun _ => ?_) (fun _ => ?_)
  · refine xr_iconst (pc := 30) X dX0_writerAt_30 (v := (-1)) (by decide) ?_
    exact xr_iret (pc := 31) X (Nat.le_of_ble_eq_true rfl) (Nat.le_of_ble_eq_true rfl) dX0_writerAt_31
  refine xr_iload_n (pc := 4) X (i := 1) 1 rfl rfl dX0_writerAt_4 ?_
  refine xr_aload_n (pc := 5) X (i := 0) 0 rfl rfl dX0_writerAt_5 ?_
  refine xgX0 (pc := 6) X (dd0) hh0.1 3 wm_3_9 rfl rfl (by decide) rfl dX0_writerAt_6 ?_
  refine xr_icmp_ge (pc := 9) X 30 (by decide) dX0_writerAt_9 (fun _ => ?_) (fun _ => ?_)
  · refine xr_iconst (pc := 30) X dX0_writerAt_30 (v := (-1)) (by decide) ?_
    exact xr_iret (pc := 31) X (Nat.le_of_ble_eq_true rfl) (Nat.le_of_ble_eq_true rfl) dX0_writerAt_31
  refine xr_iload_n (pc := 12) X (i := 1) 1 rfl rfl dX0_writerAt_12 ?_
  refine xr_aload_n (pc := 13) X (i := 0) 0 rfl rfl dX0_writerAt_13 ?_
  refine xgX0 (pc := 14) X (dd0) hh0.1 1 wm_3_15 rfl rfl (by decide) rfl dX0_writerAt_14 ?_
  refine xr_alenI (pc := 17) X (dd0 + 2) (cc0) hh0.2.2.1.1 hh0.2.2.1.2 dX0_writerAt_17 ?_
  refine xr_icmp_ge (pc := 18) X 30 (by decide) dX0_writerAt_18 (fun _ => ?_) (fun _ => ?_)
  · refine xr_iconst (pc := 30) X dX0_writerAt_30 (v := (-1)) (by decide) ?_
    exact xr_iret (pc := 31) X (Nat.le_of_ble_eq_true rfl) (Nat.le_of_ble_eq_true rfl) dX0_writerAt_31
  refine xr_aload_n (pc := 21) X (i := 0) 0 rfl rfl dX0_writerAt_21 ?_
  refine xgX0 (pc := 22) X (dd0) hh0.1 1 wm_3_15 rfl rfl (by decide) rfl dX0_writerAt_22 ?_
  refine xr_iload_n (pc := 25) X (i := 1) 1 rfl rfl dX0_writerAt_25 ?_
  refine xr_iald (pc := 26) X (dd0 + 2) (cc0) hh0.2.2.1.1 hh0.2.2.1.2 dX0_writerAt_26 (fun zz1 => ?_)
  refine xr_goto (pc := 27) X 31 (by decide) dX0_writerAt_27 ?_
  exact xr_iret (pc := 31) X (Nat.le_of_ble_eq_true rfl) (Nat.le_of_ble_eq_true rfl) dX0_writerAt_31
def F_X0_numberAt (cc0 dd0 : Nat) (pp1 : Int32) (σ : xS) : Option (Int32 × xS) :=
  if pp1 < 0 then (some ((-1 : Int32), σ))
 else (if (σ dd0 3) ≤ pp1 then (some ((-1 : Int32), σ))
 else (if (nI cc0) ≤ pp1 then (some ((-1 : Int32), σ))
 else (if xin pp1 cc0 = true then (xlet (σ (dd0 + 3) pp1.toNatClampNeg) (fun (zz1 : Int32) => some (zz1, σ))) else none)))
abbrev rm_X0_numberAt : Room := { frames := 0, cells := 0, slots := 0, locals := 0 }
set_option maxHeartbeats 4000000 in
set_option maxRecDepth 100000 in
theorem c_X0_numberAt (l : Launch) {D : va_G} {ad : Nat → Nat} {N : Nat} {Sh : xSh} (hI : ∀ i j, i < N → j < N → ad i = ad j → i = j) (cc0 dd0 : Nat) (hh0 : xIs0 D ad N Sh cc0 dd0) (pp1 : Int32) (σ : xS) : xKI l yX0_numberAt (Cond.code yX0_numberAt cX0_numberAt 2 (some .int) :: wG) rm_X0_numberAt 0 0 D ad N Sh [.ref (ad dd0), .int pp1] σ (F_X0_numberAt cc0 dd0 pp1 σ) := by
  refine x_startI (own := RX0) (maxL := 2) (by decide) rfl rfl (Nat.le_of_ble_eq_true rfl) rfl hI (fun Γ hl hnL X => ?_)
  subst hl
  unfold F_X0_numberAt
  refine xr_iload_n (pc := 0) X (i := 1) 1 rfl rfl dX0_numberAt_0 ?_
  refine xr_if_lt (pc := 1) X 30 (by decide) dX0_numberAt_1 (fun _ => ?_) (fun _ => ?_)
  · refine xr_iconst (pc := 30) X dX0_numberAt_30 (v := (-1)) (by decide) ?_
    exact xr_iret (pc := 31) X (Nat.le_of_ble_eq_true rfl) (Nat.le_of_ble_eq_true rfl) dX0_numberAt_31
  refine xr_iload_n (pc := 4) X (i := 1) 1 rfl rfl dX0_numberAt_4 ?_
  refine xr_aload_n (pc := 5) X (i := 0) 0 rfl rfl dX0_numberAt_5 ?_
  refine xgX0 (pc := 6) X (dd0) hh0.1 3 wm_3_9 rfl rfl (by decide) rfl dX0_numberAt_6 ?_
  refine xr_icmp_ge (pc := 9) X 30 (by decide) dX0_numberAt_9 (fun _ => ?_) (fun _ => ?_)
  · refine xr_iconst (pc := 30) X dX0_numberAt_30 (v := (-1)) (by decide) ?_
    exact xr_iret (pc := 31) X (Nat.le_of_ble_eq_true rfl) (Nat.le_of_ble_eq_true rfl) dX0_numberAt_31
  refine xr_iload_n (pc := 12) X (i := 1) 1 rfl rfl dX0_numberAt_12 ?_
  refine xr_aload_n (pc := 13) X (i := 0) 0 rfl rfl dX0_numberAt_13 ?_
  refine xgX0 (pc := 14) X (dd0) hh0.1 2 wm_3_16 rfl rfl (by decide) rfl dX0_numberAt_14 ?_
  refine xr_alenI (pc := 17) X (dd0 + 3) (cc0) hh0.2.2.2.1 hh0.2.2.2.2 dX0_numberAt_17 ?_
  refine xr_icmp_ge (pc := 18) X 30 (by decide) dX0_numberAt_18 (fun _ => ?_) (fun _ => ?_)
  · refine xr_iconst (pc := 30) X dX0_numberAt_30 (v := (-1)) (by decide) ?_
    exact xr_iret (pc := 31) X (Nat.le_of_ble_eq_true rfl) (Nat.le_of_ble_eq_true rfl) dX0_numberAt_31
  refine xr_aload_n (pc := 21) X (i := 0) 0 rfl rfl dX0_numberAt_21 ?_
  refine xgX0 (pc := 22) X (dd0) hh0.1 2 wm_3_16 rfl rfl (by decide) rfl dX0_numberAt_22 ?_
  refine xr_iload_n (pc := 25) X (i := 1) 1 rfl rfl dX0_numberAt_25 ?_
  refine xr_iald (pc := 26) X (dd0 + 3) (cc0) hh0.2.2.2.1 hh0.2.2.2.2 dX0_numberAt_26 (fun zz1 => ?_)
  refine xr_goto (pc := 27) X 31 (by decide) dX0_numberAt_27 ?_
  exact xr_iret (pc := 31) X (Nat.le_of_ble_eq_true rfl) (Nat.le_of_ble_eq_true rfl) dX0_numberAt_31
def F_X0_addLast (cc0 dd0 : Nat) (pp1 : Int32) (pp2 : Int32) (pp3 : Int32) (σ : xS) : Option xS :=
  if (σ dd0 3) < 0 then (some σ)
 else (if (nI cc0) ≤ (σ dd0 3) then (some σ)
 else (if xin (σ dd0 3) cc0 = true then (xlet (xu σ (dd0 + 1) (σ dd0 3).toNatClampNeg pp1) (fun (σ1 : xS) => if xin (σ1 dd0 3) cc0 = true then (xlet (xu σ1 (dd0 + 2) (σ1 dd0 3).toNatClampNeg pp2) (fun (σ2 : xS) => if xin (σ2 dd0 3) cc0 = true then (xlet (xu σ2 (dd0 + 3) (σ2 dd0 3).toNatClampNeg pp3) (fun (σ3 : xS) => xlet (xu σ3 dd0 3 ((σ3 dd0 3) + 1)) (fun (σ4 : xS) => some σ4))) else none)) else none)) else none))
abbrev rm_X0_addLast : Room := { frames := 0, cells := 0, slots := 0, locals := 0 }
set_option maxHeartbeats 4000000 in
set_option maxRecDepth 100000 in
theorem c_X0_addLast (l : Launch) {D : va_G} {ad : Nat → Nat} {N : Nat} {Sh : xSh} (hI : ∀ i j, i < N → j < N → ad i = ad j → i = j) (cc0 dd0 : Nat) (hh0 : xIs0 D ad N Sh cc0 dd0) (pp1 : Int32) (pp2 : Int32) (pp3 : Int32) (σ : xS) : xKV l yX0_addLast (Cond.code yX0_addLast cX0_addLast 4 none :: wG) rm_X0_addLast 0 0 D ad N Sh [.ref (ad dd0), .int pp1, .int pp2, .int pp3] σ (F_X0_addLast cc0 dd0 pp1 pp2 pp3 σ) := by
  refine x_startV (own := RX0) (maxL := 4) (by decide) rfl rfl (Nat.le_of_ble_eq_true rfl) rfl hI (fun Γ hl hnL X => ?_)
  subst hl
  unfold F_X0_addLast
  refine xr_aload_n (pc := 0) X (i := 0) 0 rfl rfl dX0_addLast_0 ?_
  refine xgX0 (pc := 1) X (dd0) hh0.1 3 wm_3_9 rfl rfl (by decide) rfl dX0_addLast_1 ?_
  refine xr_if_lt (pc := 4) X 59 (by decide) dX0_addLast_4 (fun _ => ?_) (fun _ => ?_)
  · exact xr_vret (pc := 59) X (Nat.le_refl _) (Nat.le_refl _) dX0_addLast_59
  refine xr_aload_n (pc := 7) X (i := 0) 0 rfl rfl dX0_addLast_7 ?_
  refine xgX0 (pc := 8) X (dd0) hh0.1 3 wm_3_9 rfl rfl (by decide) rfl dX0_addLast_8 ?_
  refine xr_aload_n (pc := 11) X (i := 0) 0 rfl rfl dX0_addLast_11 ?_
  refine xgX0 (pc := 12) X (dd0) hh0.1 0 wm_3_14 rfl rfl (by decide) rfl dX0_addLast_12 ?_
  refine xr_alenI (pc := 15) X (dd0 + 1) (cc0) hh0.2.1.1 hh0.2.1.2 dX0_addLast_15 ?_
  refine xr_icmp_ge (pc := 16) X 59 (by decide) dX0_addLast_16 (fun _ => ?_) (fun _ => ?_)
  · exact xr_vret (pc := 59) X (Nat.le_refl _) (Nat.le_refl _) dX0_addLast_59
  refine xr_aload_n (pc := 19) X (i := 0) 0 rfl rfl dX0_addLast_19 ?_
  refine xgX0 (pc := 20) X (dd0) hh0.1 0 wm_3_14 rfl rfl (by decide) rfl dX0_addLast_20 ?_
  refine xr_aload_n (pc := 23) X (i := 0) 0 rfl rfl dX0_addLast_23 ?_
  refine xgX0 (pc := 24) X (dd0) hh0.1 3 wm_3_9 rfl rfl (by decide) rfl dX0_addLast_24 ?_
  refine xr_iload_n (pc := 27) X (i := 1) 1 rfl rfl dX0_addLast_27 ?_
  refine xr_iast (pc := 28) X (dd0 + 1) (cc0) hh0.2.1.1 hh0.2.1.2 dX0_addLast_28 (fun σ1 => ?_)
  refine xr_aload_n (pc := 29) X (i := 0) 0 rfl rfl dX0_addLast_29 ?_
  refine xgX0 (pc := 30) X (dd0) hh0.1 1 wm_3_15 rfl rfl (by decide) rfl dX0_addLast_30 ?_
  refine xr_aload_n (pc := 33) X (i := 0) 0 rfl rfl dX0_addLast_33 ?_
  refine xgX0 (pc := 34) X (dd0) hh0.1 3 wm_3_9 rfl rfl (by decide) rfl dX0_addLast_34 ?_
  refine xr_iload_n (pc := 37) X (i := 2) 2 rfl rfl dX0_addLast_37 ?_
  refine xr_iast (pc := 38) X (dd0 + 2) (cc0) hh0.2.2.1.1 hh0.2.2.1.2 dX0_addLast_38 (fun σ2 => ?_)
  refine xr_aload_n (pc := 39) X (i := 0) 0 rfl rfl dX0_addLast_39 ?_
  refine xgX0 (pc := 40) X (dd0) hh0.1 2 wm_3_16 rfl rfl (by decide) rfl dX0_addLast_40 ?_
  refine xr_aload_n (pc := 43) X (i := 0) 0 rfl rfl dX0_addLast_43 ?_
  refine xgX0 (pc := 44) X (dd0) hh0.1 3 wm_3_9 rfl rfl (by decide) rfl dX0_addLast_44 ?_
  refine xr_iload_n (pc := 47) X (i := 3) 3 rfl rfl dX0_addLast_47 ?_
  refine xr_iast (pc := 48) X (dd0 + 3) (cc0) hh0.2.2.2.1 hh0.2.2.2.2 dX0_addLast_48 (fun σ3 => ?_)
  refine xr_aload_n (pc := 49) X (i := 0) 0 rfl rfl dX0_addLast_49 ?_
  refine xr_dup (pc := 50) X rfl dX0_addLast_50 ?_
  refine xgX0 (pc := 51) X (dd0) hh0.1 3 wm_3_9 rfl rfl (by decide) rfl dX0_addLast_51 ?_
  refine xr_iconst (pc := 54) X dX0_addLast_54 (v := 1) (by decide) ?_
  refine xr_iadd (pc := 55) X dX0_addLast_55 ?_
  refine xpX0 (pc := 56) X (dd0) hh0.1 3 wm_3_9 (ty := .int) rfl (fun _ => rfl) rfl (by decide +kernel) rfl rfl (Nat.le_of_ble_eq_true rfl) (by decide) rfl dX0_addLast_56 (fun σ4 => ?_)
  exact xr_vret (pc := 59) X (Nat.le_refl _) (Nat.le_refl _) dX0_addLast_59
def L_X0_dropAt_15 (cc0 : Nat) (dd0 : Nat) (KK3 : xS → Option xS) : Nat → Int32 → xS → Option xS
  | 0, _, _ => none
  | nn_7 + 1, zz5, σ6 => if (σ6 dd0 3) ≤ (zz5 + 1) then (KK3 σ6)
 else (if (nI cc0) ≤ (zz5 + 1) then (KK3 σ6)
 else (if xin (zz5 + 1) cc0 = true then (xlet (σ6 (dd0 + 1) (zz5 + 1).toNatClampNeg) (fun (zz9 : Int32) => if xin zz5 cc0 = true then (xlet (xu σ6 (dd0 + 1) zz5.toNatClampNeg zz9) (fun (σ10 : xS) => if xin (zz5 + 1) cc0 = true then (xlet (σ10 (dd0 + 2) (zz5 + 1).toNatClampNeg) (fun (zz11 : Int32) => if xin zz5 cc0 = true then (xlet (xu σ10 (dd0 + 2) zz5.toNatClampNeg zz11) (fun (σ12 : xS) => if xin (zz5 + 1) cc0 = true then (xlet (σ12 (dd0 + 3) (zz5 + 1).toNatClampNeg) (fun (zz13 : Int32) => if xin zz5 cc0 = true then (xlet (xu σ12 (dd0 + 3) zz5.toNatClampNeg zz13) (fun (σ14 : xS) => xlet (zz5 + 1) (fun (zz15 : Int32) => L_X0_dropAt_15 cc0 dd0 KK3 nn_7 zz15 σ14))) else none)) else none)) else none)) else none)) else none)) else none))
def F_X0_dropAt (cc0 dd0 : Nat) (pp1 : Int32) (σ : xS) : Option xS :=
  if pp1 < 0 then (some σ)
 else (if pp1 < (σ dd0 3) then (L_X0_dropAt_15 cc0 dd0 (fun (σ1 : xS) => xlet (xu σ1 dd0 3 ((σ1 dd0 3) - 1)) (fun (σ2 : xS) => some σ2)) 1000 pp1 σ)
 else (some σ))
abbrev rm_X0_dropAt : Room := { frames := 0, cells := 0, slots := 0, locals := 0 }
set_option maxHeartbeats 4000000 in
set_option maxRecDepth 100000 in
theorem c_X0_dropAt (l : Launch) {D : va_G} {ad : Nat → Nat} {N : Nat} {Sh : xSh} (hI : ∀ i j, i < N → j < N → ad i = ad j → i = j) (cc0 dd0 : Nat) (hh0 : xIs0 D ad N Sh cc0 dd0) (pp1 : Int32) (σ : xS) : xKV l yX0_dropAt (Cond.code yX0_dropAt cX0_dropAt 3 none :: wG) rm_X0_dropAt 0 0 D ad N Sh [.ref (ad dd0), .int pp1] σ (F_X0_dropAt cc0 dd0 pp1 σ) := by
  refine x_startV (own := RX0) (maxL := 3) (by decide) rfl rfl (Nat.le_of_ble_eq_true rfl) rfl hI (fun Γ hl hnL X => ?_)
  subst hl
  unfold F_X0_dropAt
  refine xr_iload_n (pc := 0) X (i := 1) 1 rfl rfl dX0_dropAt_0 ?_
  refine xr_if_lt (pc := 1) X 12 (by decide) dX0_dropAt_1 (fun _ => ?_) (fun _ => ?_)
  · exact xr_vret (pc := 12) X (Nat.le_refl _) (Nat.le_refl _) dX0_dropAt_12
  refine xr_iload_n (pc := 4) X (i := 1) 1 rfl rfl dX0_dropAt_4 ?_
  refine xr_aload_n (pc := 5) X (i := 0) 0 rfl rfl dX0_dropAt_5 ?_
  refine xgX0 (pc := 6) X (dd0) hh0.1 3 wm_3_9 rfl rfl (by decide) rfl dX0_dropAt_6 ?_
  refine xr_icmp_lt (pc := 9) X 13 (by decide) dX0_dropAt_9 (fun _ => ?_) (fun _ => ?_)
  · refine xr_iload_n (pc := 13) X (i := 1) 1 rfl rfl dX0_dropAt_13 ?_
    refine xr_istore_n (pc := 14) X (hf := rfl) (i := 2) (lv2 := [(0, .ref (ad dd0)), (2, .int pp1)]) [1, 0] (Nat.le_of_ble_eq_true rfl) hnL rfl dX0_dropAt_14 ?_
    have hLL16 : ∀ (KK3 : xS → Option xS) (hKK4 : ∀ σ1, xM Γ D ad N Sh (xQV Γ D ad N Sh 0 0) 0 0 (KK3 σ1) σ1 84 [(0, .ref (ad dd0))] []), ∀ (nn_7 : Nat) zz5 σ6, xM Γ D ad N Sh (xQV Γ D ad N Sh 0 0) 0 0 (L_X0_dropAt_15 cc0 dd0 KK3 nn_7 zz5 σ6) σ6 15 [(0, .ref (ad dd0)), (2, .int zz5)] [] := by
      intro KK3 hKK4 nn_7
      induction nn_7 with
      | zero => intro zz5 σ6; exact xM_none
      | succ nn_7 ihh8 =>
        intro zz5 σ6
        rw [L_X0_dropAt_15]
        refine xr_iload_n (pc := 15) X (i := 2) 1 rfl rfl dX0_dropAt_15 ?_
        refine xr_iconst (pc := 16) X dX0_dropAt_16 (v := 1) (by decide) ?_
        refine xr_iadd (pc := 17) X dX0_dropAt_17 ?_
        refine xr_aload_n (pc := 18) X (i := 0) 0 rfl rfl dX0_dropAt_18 ?_
        refine xgX0 (pc := 19) X (dd0) hh0.1 3 wm_3_9 rfl rfl (by decide) rfl dX0_dropAt_19 ?_
        refine xr_icmp_ge (pc := 22) X 84 (by decide) dX0_dropAt_22 (fun _ => ?_) (fun _ => ?_)
        · exact x_sub [0] rfl (hKK4  _)
        refine xr_iload_n (pc := 25) X (i := 2) 1 rfl rfl dX0_dropAt_25 ?_
        refine xr_iconst (pc := 26) X dX0_dropAt_26 (v := 1) (by decide) ?_
        refine xr_iadd (pc := 27) X dX0_dropAt_27 ?_
        refine xr_aload_n (pc := 28) X (i := 0) 0 rfl rfl dX0_dropAt_28 ?_
        refine xgX0 (pc := 29) X (dd0) hh0.1 0 wm_3_14 rfl rfl (by decide) rfl dX0_dropAt_29 ?_
        refine xr_alenI (pc := 32) X (dd0 + 1) (cc0) hh0.2.1.1 hh0.2.1.2 dX0_dropAt_32 ?_
        refine xr_icmp_ge (pc := 33) X 84 (by decide) dX0_dropAt_33 (fun _ => ?_) (fun _ => ?_)
        · exact x_sub [0] rfl (hKK4  _)
        refine xr_aload_n (pc := 36) X (i := 0) 0 rfl rfl dX0_dropAt_36 ?_
        refine xgX0 (pc := 37) X (dd0) hh0.1 0 wm_3_14 rfl rfl (by decide) rfl dX0_dropAt_37 ?_
        refine xr_iload_n (pc := 40) X (i := 2) 1 rfl rfl dX0_dropAt_40 ?_
        refine xr_aload_n (pc := 41) X (i := 0) 0 rfl rfl dX0_dropAt_41 ?_
        refine xgX0 (pc := 42) X (dd0) hh0.1 0 wm_3_14 rfl rfl (by decide) rfl dX0_dropAt_42 ?_
        refine xr_iload_n (pc := 45) X (i := 2) 1 rfl rfl dX0_dropAt_45 ?_
        refine xr_iconst (pc := 46) X dX0_dropAt_46 (v := 1) (by decide) ?_
        refine xr_iadd (pc := 47) X dX0_dropAt_47 ?_
        refine xr_iald (pc := 48) X (dd0 + 1) (cc0) hh0.2.1.1 hh0.2.1.2 dX0_dropAt_48 (fun zz9 => ?_)
        refine xr_iast (pc := 49) X (dd0 + 1) (cc0) hh0.2.1.1 hh0.2.1.2 dX0_dropAt_49 (fun σ10 => ?_)
        refine xr_aload_n (pc := 50) X (i := 0) 0 rfl rfl dX0_dropAt_50 ?_
        refine xgX0 (pc := 51) X (dd0) hh0.1 1 wm_3_15 rfl rfl (by decide) rfl dX0_dropAt_51 ?_
        refine xr_iload_n (pc := 54) X (i := 2) 1 rfl rfl dX0_dropAt_54 ?_
        refine xr_aload_n (pc := 55) X (i := 0) 0 rfl rfl dX0_dropAt_55 ?_
        refine xgX0 (pc := 56) X (dd0) hh0.1 1 wm_3_15 rfl rfl (by decide) rfl dX0_dropAt_56 ?_
        refine xr_iload_n (pc := 59) X (i := 2) 1 rfl rfl dX0_dropAt_59 ?_
        refine xr_iconst (pc := 60) X dX0_dropAt_60 (v := 1) (by decide) ?_
        refine xr_iadd (pc := 61) X dX0_dropAt_61 ?_
        refine xr_iald (pc := 62) X (dd0 + 2) (cc0) hh0.2.2.1.1 hh0.2.2.1.2 dX0_dropAt_62 (fun zz11 => ?_)
        refine xr_iast (pc := 63) X (dd0 + 2) (cc0) hh0.2.2.1.1 hh0.2.2.1.2 dX0_dropAt_63 (fun σ12 => ?_)
        refine xr_aload_n (pc := 64) X (i := 0) 0 rfl rfl dX0_dropAt_64 ?_
        refine xgX0 (pc := 65) X (dd0) hh0.1 2 wm_3_16 rfl rfl (by decide) rfl dX0_dropAt_65 ?_
        refine xr_iload_n (pc := 68) X (i := 2) 1 rfl rfl dX0_dropAt_68 ?_
        refine xr_aload_n (pc := 69) X (i := 0) 0 rfl rfl dX0_dropAt_69 ?_
        refine xgX0 (pc := 70) X (dd0) hh0.1 2 wm_3_16 rfl rfl (by decide) rfl dX0_dropAt_70 ?_
        refine xr_iload_n (pc := 73) X (i := 2) 1 rfl rfl dX0_dropAt_73 ?_
        refine xr_iconst (pc := 74) X dX0_dropAt_74 (v := 1) (by decide) ?_
        refine xr_iadd (pc := 75) X dX0_dropAt_75 ?_
        refine xr_iald (pc := 76) X (dd0 + 3) (cc0) hh0.2.2.2.1 hh0.2.2.2.2 dX0_dropAt_76 (fun zz13 => ?_)
        refine xr_iast (pc := 77) X (dd0 + 3) (cc0) hh0.2.2.2.1 hh0.2.2.2.2 dX0_dropAt_77 (fun σ14 => ?_)
        refine xr_iinc (pc := 78) X (i := 2) (j := 1) [1, 0] (Nat.le_of_ble_eq_true rfl) hnL rfl rfl (fun zz15 => [(0, .ref (ad dd0)), (2, .int zz15)]) (fun _ => rfl) dX0_dropAt_78 (fun zz15 => ?_)
        refine xr_goto (pc := 81) X 15 (by decide) dX0_dropAt_81 ?_
        exact ihh8 _ _
    refine hLL16 _ (fun σ1 => ?_) _ _ _
    refine xr_aload_n (pc := 84) X (i := 0) 0 rfl rfl dX0_dropAt_84 ?_
    refine xr_dup (pc := 85) X rfl dX0_dropAt_85 ?_
    refine xgX0 (pc := 86) X (dd0) hh0.1 3 wm_3_9 rfl rfl (by decide) rfl dX0_dropAt_86 ?_
    refine xr_iconst (pc := 89) X dX0_dropAt_89 (v := 1) (by decide) ?_
    refine xr_isub (pc := 90) X dX0_dropAt_90 ?_
    refine xpX0 (pc := 91) X (dd0) hh0.1 3 wm_3_9 (ty := .int) rfl (fun _ => rfl) rfl (by decide +kernel) rfl rfl (Nat.le_of_ble_eq_true rfl) (by decide) rfl dX0_dropAt_91 (fun σ2 => ?_)
    exact xr_vret (pc := 94) X (Nat.le_refl _) (Nat.le_refl _) dX0_dropAt_94
  exact xr_vret (pc := 12) X (Nat.le_refl _) (Nat.le_refl _) dX0_dropAt_12
def L_X0_copyFrom_18 (cc0 : Nat) (dd0 : Nat) (cc1 : Nat) (dd1 : Nat) (KK4 : xS → Option xS) : Nat → Int32 → xS → Option xS
  | 0, _, _ => none
  | nn_8 + 1, zz6, σ7 => if (σ7 dd0 3) ≤ zz6 then (KK4 σ7)
 else (if (nI cc1) ≤ zz6 then (KK4 σ7)
 else (if xin zz6 cc1 = true then (xlet (σ7 (dd1 + 1) zz6.toNatClampNeg) (fun (zz10 : Int32) => if xin zz6 cc0 = true then (xlet (xu σ7 (dd0 + 1) zz6.toNatClampNeg zz10) (fun (σ11 : xS) => if xin zz6 cc1 = true then (xlet (σ11 (dd1 + 2) zz6.toNatClampNeg) (fun (zz12 : Int32) => if xin zz6 cc0 = true then (xlet (xu σ11 (dd0 + 2) zz6.toNatClampNeg zz12) (fun (σ13 : xS) => if xin zz6 cc1 = true then (xlet (σ13 (dd1 + 3) zz6.toNatClampNeg) (fun (zz14 : Int32) => if xin zz6 cc0 = true then (xlet (xu σ13 (dd0 + 3) zz6.toNatClampNeg zz14) (fun (σ15 : xS) => xlet (zz6 + 1) (fun (zz16 : Int32) => L_X0_copyFrom_18 cc0 dd0 cc1 dd1 KK4 nn_8 zz16 σ15))) else none)) else none)) else none)) else none)) else none)) else none))
def F_X0_copyFrom (cc0 dd0 : Nat) (cc1 dd1 : Nat) (σ : xS) : Option xS :=
  xlet (if (nI cc0) < (σ dd1 3) then (nI cc0) else (σ dd1 3)) (fun (zz1 : Int32) => xlet (xu σ dd0 3 zz1) (fun (σ2 : xS) => L_X0_copyFrom_18 cc0 dd0 cc1 dd1 (fun (σ3 : xS) => some σ3) 1000 0 σ2))
abbrev rm_X0_copyFrom : Room := { frames := 1, cells := 0, slots := 0, locals := 21 }
set_option maxHeartbeats 4000000 in
set_option maxRecDepth 100000 in
theorem c_X0_copyFrom (l : Launch) {D : va_G} {ad : Nat → Nat} {N : Nat} {Sh : xSh} (hI : ∀ i j, i < N → j < N → ad i = ad j → i = j) (cc0 dd0 : Nat) (hh0 : xIs0 D ad N Sh cc0 dd0) (cc1 dd1 : Nat) (hh1 : xIs0 D ad N Sh cc1 dd1) (σ : xS) : xKV l yX0_copyFrom (Cond.code yX0_copyFrom cX0_copyFrom 3 none :: wG) rm_X0_copyFrom 0 0 D ad N Sh [.ref (ad dd0), .ref (ad dd1)] σ (F_X0_copyFrom cc0 dd0 cc1 dd1 σ) := by
  refine x_startV (own := RX0) (maxL := 3) (by decide) rfl rfl (Nat.le_of_ble_eq_true rfl) rfl hI (fun Γ hl hnL X => ?_)
  subst hl
  unfold F_X0_copyFrom
  refine xr_aload_n (pc := 0) X (i := 0) 0 rfl rfl dX0_copyFrom_0 ?_
  refine xr_aload_n (pc := 1) X (i := 1) 1 rfl rfl dX0_copyFrom_1 ?_
  refine xgX0 (pc := 2) X (dd1) hh1.1 3 wm_3_9 rfl rfl (by decide) rfl dX0_copyFrom_2 ?_
  refine xr_aload_n (pc := 5) X (i := 0) 0 rfl rfl dX0_copyFrom_5 ?_
  refine xgX0 (pc := 6) X (dd0) hh0.1 0 wm_3_14 rfl rfl (by decide) rfl dX0_copyFrom_6 ?_
  refine xr_alenI (pc := 9) X (dd0 + 1) (cc0) hh0.2.1.1 hh0.2.1.2 dX0_copyFrom_9 ?_
  refine xr_min (pc := 10) X (List.mem_cons_of_mem _ wm_17_1) (List.mem_cons_of_mem _ wm_16_15) (List.mem_cons_of_mem _ wm_3_12) (List.mem_cons_of_mem _ wm_16_16) (Nat.le_of_ble_eq_true rfl) (Nat.le_of_ble_eq_true rfl) (Nat.le_of_ble_eq_true rfl) (Nat.le_of_ble_eq_true rfl) dX0_copyFrom_10 ?_
  refine x_leti (fun zz1 => ?_)
  refine xpX0 (pc := 13) X (dd0) hh0.1 3 wm_3_9 (ty := .int) rfl (fun _ => rfl) rfl (by decide +kernel) rfl rfl (Nat.le_of_ble_eq_true rfl) (by decide) rfl dX0_copyFrom_13 (fun σ2 => ?_)
  refine xr_iconst (pc := 16) X dX0_copyFrom_16 (v := 0) (by decide) ?_
  refine xr_istore_n (pc := 17) X (hf := rfl) (i := 2) (lv2 := [(0, .ref (ad dd0)), (1, .ref (ad dd1)), (2, .int 0)]) [1, 2, 0] (Nat.le_of_ble_eq_true rfl) hnL rfl dX0_copyFrom_17 ?_
  have hLL17 : ∀ (KK4 : xS → Option xS) (hKK5 : ∀ σ3, xM Γ D ad N Sh (xQV Γ D ad N Sh 0 0) 0 0 (KK4 σ3) σ3 77 [] []), ∀ (nn_8 : Nat) zz6 σ7, xM Γ D ad N Sh (xQV Γ D ad N Sh 0 0) 0 0 (L_X0_copyFrom_18 cc0 dd0 cc1 dd1 KK4 nn_8 zz6 σ7) σ7 18 [(0, .ref (ad dd0)), (1, .ref (ad dd1)), (2, .int zz6)] [] := by
    intro KK4 hKK5 nn_8
    induction nn_8 with
    | zero => intro zz6 σ7; exact xM_none
    | succ nn_8 ihh9 =>
      intro zz6 σ7
      rw [L_X0_copyFrom_18]
      refine xr_iload_n (pc := 18) X (i := 2) 2 rfl rfl dX0_copyFrom_18 ?_
      refine xr_aload_n (pc := 19) X (i := 0) 0 rfl rfl dX0_copyFrom_19 ?_
      refine xgX0 (pc := 20) X (dd0) hh0.1 3 wm_3_9 rfl rfl (by decide) rfl dX0_copyFrom_20 ?_
      refine xr_icmp_ge (pc := 23) X 77 (by decide) dX0_copyFrom_23 (fun _ => ?_) (fun _ => ?_)
      · exact x_sub [] rfl (hKK5  _)
      refine xr_iload_n (pc := 26) X (i := 2) 2 rfl rfl dX0_copyFrom_26 ?_
      refine xr_aload_n (pc := 27) X (i := 1) 1 rfl rfl dX0_copyFrom_27 ?_
      refine xgX0 (pc := 28) X (dd1) hh1.1 0 wm_3_14 rfl rfl (by decide) rfl dX0_copyFrom_28 ?_
      refine xr_alenI (pc := 31) X (dd1 + 1) (cc1) hh1.2.1.1 hh1.2.1.2 dX0_copyFrom_31 ?_
      refine xr_icmp_ge (pc := 32) X 77 (by decide) dX0_copyFrom_32 (fun _ => ?_) (fun _ => ?_)
      · exact x_sub [] rfl (hKK5  _)
      refine xr_aload_n (pc := 35) X (i := 0) 0 rfl rfl dX0_copyFrom_35 ?_
      refine xgX0 (pc := 36) X (dd0) hh0.1 0 wm_3_14 rfl rfl (by decide) rfl dX0_copyFrom_36 ?_
      refine xr_iload_n (pc := 39) X (i := 2) 2 rfl rfl dX0_copyFrom_39 ?_
      refine xr_aload_n (pc := 40) X (i := 1) 1 rfl rfl dX0_copyFrom_40 ?_
      refine xgX0 (pc := 41) X (dd1) hh1.1 0 wm_3_14 rfl rfl (by decide) rfl dX0_copyFrom_41 ?_
      refine xr_iload_n (pc := 44) X (i := 2) 2 rfl rfl dX0_copyFrom_44 ?_
      refine xr_iald (pc := 45) X (dd1 + 1) (cc1) hh1.2.1.1 hh1.2.1.2 dX0_copyFrom_45 (fun zz10 => ?_)
      refine xr_iast (pc := 46) X (dd0 + 1) (cc0) hh0.2.1.1 hh0.2.1.2 dX0_copyFrom_46 (fun σ11 => ?_)
      refine xr_aload_n (pc := 47) X (i := 0) 0 rfl rfl dX0_copyFrom_47 ?_
      refine xgX0 (pc := 48) X (dd0) hh0.1 1 wm_3_15 rfl rfl (by decide) rfl dX0_copyFrom_48 ?_
      refine xr_iload_n (pc := 51) X (i := 2) 2 rfl rfl dX0_copyFrom_51 ?_
      refine xr_aload_n (pc := 52) X (i := 1) 1 rfl rfl dX0_copyFrom_52 ?_
      refine xgX0 (pc := 53) X (dd1) hh1.1 1 wm_3_15 rfl rfl (by decide) rfl dX0_copyFrom_53 ?_
      refine xr_iload_n (pc := 56) X (i := 2) 2 rfl rfl dX0_copyFrom_56 ?_
      refine xr_iald (pc := 57) X (dd1 + 2) (cc1) hh1.2.2.1.1 hh1.2.2.1.2 dX0_copyFrom_57 (fun zz12 => ?_)
      refine xr_iast (pc := 58) X (dd0 + 2) (cc0) hh0.2.2.1.1 hh0.2.2.1.2 dX0_copyFrom_58 (fun σ13 => ?_)
      refine xr_aload_n (pc := 59) X (i := 0) 0 rfl rfl dX0_copyFrom_59 ?_
      refine xgX0 (pc := 60) X (dd0) hh0.1 2 wm_3_16 rfl rfl (by decide) rfl dX0_copyFrom_60 ?_
      refine xr_iload_n (pc := 63) X (i := 2) 2 rfl rfl dX0_copyFrom_63 ?_
      refine xr_aload_n (pc := 64) X (i := 1) 1 rfl rfl dX0_copyFrom_64 ?_
      refine xgX0 (pc := 65) X (dd1) hh1.1 2 wm_3_16 rfl rfl (by decide) rfl dX0_copyFrom_65 ?_
      refine xr_iload_n (pc := 68) X (i := 2) 2 rfl rfl dX0_copyFrom_68 ?_
      refine xr_iald (pc := 69) X (dd1 + 3) (cc1) hh1.2.2.2.1 hh1.2.2.2.2 dX0_copyFrom_69 (fun zz14 => ?_)
      refine xr_iast (pc := 70) X (dd0 + 3) (cc0) hh0.2.2.2.1 hh0.2.2.2.2 dX0_copyFrom_70 (fun σ15 => ?_)
      refine xr_iinc (pc := 71) X (i := 2) (j := 2) [1, 2, 0] (Nat.le_of_ble_eq_true rfl) hnL rfl rfl (fun zz16 => [(0, .ref (ad dd0)), (1, .ref (ad dd1)), (2, .int zz16)]) (fun _ => rfl) dX0_copyFrom_71 (fun zz16 => ?_)
      refine xr_goto (pc := 74) X 18 (by decide) dX0_copyFrom_74 ?_
      exact ihh9 _ _
  refine hLL17 _ (fun σ3 => ?_) _ _ _
  exact xr_vret (pc := 77) X (Nat.le_refl _) (Nat.le_refl _) dX0_copyFrom_77
