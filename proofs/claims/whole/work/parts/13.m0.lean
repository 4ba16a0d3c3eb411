def F_X0_timeAt (c0 d0 : Nat) (p1 : Int32) (σ : xS) : Option (Int32 × xS) :=
  if p1 < 0 then (some ((-1 : Int32), σ))
 else (if (σ d0 3) ≤ p1 then (some ((-1 : Int32), σ))
 else (if (nI c0) ≤ p1 then (some ((-1 : Int32), σ))
 else (if xin p1 c0 = true then (xlet (σ (d0 + 1) p1.toNatClampNeg) (fun (z1 : Int32) => some (z1, σ))) else none)))
abbrev rm_X0_timeAt : Room := { frames := 0, cells := 0, slots := 0, locals := 0 }
set_option maxHeartbeats 4000000 in
set_option maxRecDepth 100000 in
theorem c_X0_timeAt (l : Launch) {D : va_G} {ad : Nat → Nat} {N : Nat} {Sh : xSh} (hI : ∀ i j, i < N → j < N → ad i = ad j → i = j) (c0 d0 : Nat) (h0 : xIs0 D ad N Sh c0 d0) (p1 : Int32) (σ : xS) : xKI l yX0_timeAt (Cond.code yX0_timeAt cX0_timeAt 2 (some .int) :: wG) rm_X0_timeAt 0 0 D ad N Sh [.ref (ad d0), .int p1] σ (F_X0_timeAt c0 d0 p1 σ) := by
  refine x_startI (own := RX0) (maxL := 2) (by decide) rfl rfl (Nat.le_of_ble_eq_true rfl) rfl hI (fun Γ hl hnL X => ?_)
  subst hl
  unfold F_X0_timeAt
  refine xr_iload_n (pc := 0) X (i := 1) 1 rfl rfl dX0_timeAt_0 ?_
  refine xr_if_lt (pc := 1) X 30 (by decide) dX0_timeAt_1 (fun _ => ?_) (fun _ => ?_)
  · refine xr_iconst (pc := 30) X dX0_timeAt_30 (v := (-1)) (by decide) ?_
    exact xr_iret (pc := 31) X (Nat.le_refl _) (Nat.le_refl _) dX0_timeAt_31
  refine xr_iload_n (pc := 4) X (i := 1) 1 rfl rfl dX0_timeAt_4 ?_
  refine xr_aload_n (pc := 5) X (i := 0) 0 rfl rfl dX0_timeAt_5 ?_
  refine xgX0 (pc := 6) X (d0) h0.1 3 wm_3_13 rfl rfl (by decide) rfl dX0_timeAt_6 ?_
  refine xr_icmp_ge (pc := 9) X 30 (by decide) dX0_timeAt_9 (fun _ => ?_) (fun _ => ?_)
  · refine xr_iconst (pc := 30) X dX0_timeAt_30 (v := (-1)) (by decide) ?_
    exact xr_iret (pc := 31) X (Nat.le_refl _) (Nat.le_refl _) dX0_timeAt_31
  refine xr_iload_n (pc := 12) X (i := 1) 1 rfl rfl dX0_timeAt_12 ?_
  refine xr_aload_n (pc := 13) X (i := 0) 0 rfl rfl dX0_timeAt_13 ?_
  refine xgX0 (pc := 14) X (d0) h0.1 0 wm_3_18 rfl rfl (by decide) rfl dX0_timeAt_14 ?_
  refine xr_alenI (pc := 17) X (d0 + 1) (c0) h0.2.1.1 h0.2.1.2 dX0_timeAt_17 ?_
  refine xr_icmp_ge (pc := 18) X 30 (by decide) dX0_timeAt_18 (fun _ => ?_) (fun _ => ?_)
  · refine xr_iconst (pc := 30) X dX0_timeAt_30 (v := (-1)) (by decide) ?_
    exact xr_iret (pc := 31) X (Nat.le_refl _) (Nat.le_refl _) dX0_timeAt_31
  refine xr_aload_n (pc := 21) X (i := 0) 0 rfl rfl dX0_timeAt_21 ?_
  refine xgX0 (pc := 22) X (d0) h0.1 0 wm_3_18 rfl rfl (by decide) rfl dX0_timeAt_22 ?_
  refine xr_iload_n (pc := 25) X (i := 1) 1 rfl rfl dX0_timeAt_25 ?_
  refine xr_iald (pc := 26) X (d0 + 1) (c0) h0.2.1.1 h0.2.1.2 dX0_timeAt_26 (fun z1 => ?_)
  refine xr_goto (pc := 27) X 31 (by decide) dX0_timeAt_27 ?_
  exact xr_iret (pc := 31) X (Nat.le_refl _) (Nat.le_refl _) dX0_timeAt_31
def F_X0_writerAt (c0 d0 : Nat) (p1 : Int32) (σ : xS) : Option (Int32 × xS) :=
  if p1 < 0 then (some ((-1 : Int32), σ))
 else (if (σ d0 3) ≤ p1 then (some ((-1 : Int32), σ))
 else (if (nI c0) ≤ p1 then (some ((-1 : Int32), σ))
 else (if xin p1 c0 = true then (xlet (σ (d0 + 2) p1.toNatClampNeg) (fun (z1 : Int32) => some (z1, σ))) else none)))
abbrev rm_X0_writerAt : Room := { frames := 0, cells := 0, slots := 0, locals := 0 }
set_option maxHeartbeats 4000000 in
set_option maxRecDepth 100000 in
theorem c_X0_writerAt (l : Launch) {D : va_G} {ad : Nat → Nat} {N : Nat} {Sh : xSh} (hI : ∀ i j, i < N → j < N → ad i = ad j → i = j) (c0 d0 : Nat) (h0 : xIs0 D ad N Sh c0 d0) (p1 : Int32) (σ : xS) : xKI l yX0_writerAt (Cond.code yX0_writerAt cX0_writerAt 2 (some .int) :: wG) rm_X0_writerAt 0 0 D ad N Sh [.ref (ad d0), .int p1] σ (F_X0_writerAt c0 d0 p1 σ) := by
  refine x_startI (own := RX0) (maxL := 2) (by decide) rfl rfl (Nat.le_of_ble_eq_true rfl) rfl hI (fun Γ hl hnL X => ?_)
  subst hl
  unfold F_X0_writerAt
  refine xr_iload_n (pc := 0) X (i := 1) 1 rfl rfl dX0_writerAt_0 ?_
  refine xr_if_lt (pc := 1) X 30 (by decide) dX0_writerAt_1 (fun _ => ?_) (fun _ => ?_)
  · refine xr_iconst (pc := 30) X dX0_writerAt_30 (v := (-1)) (by decide) ?_
    exact xr_iret (pc := 31) X (Nat.le_refl _) (Nat.le_refl _) dX0_writerAt_31
  refine xr_iload_n (pc := 4) X (i := 1) 1 rfl rfl dX0_writerAt_4 ?_
  refine xr_aload_n (pc := 5) X (i := 0) 0 rfl rfl dX0_writerAt_5 ?_
  refine xgX0 (pc := 6) X (d0) h0.1 3 wm_3_13 rfl rfl (by decide) rfl dX0_writerAt_6 ?_
  refine xr_icmp_ge (pc := 9) X 30 (by decide) dX0_writerAt_9 (fun _ => ?_) (fun _ => ?_)
  · refine xr_iconst (pc := 30) X dX0_writerAt_30 (v := (-1)) (by decide) ?_
    exact xr_iret (pc := 31) X (Nat.le_refl _) (Nat.le_refl _) dX0_writerAt_31
  refine xr_iload_n (pc := 12) X (i := 1) 1 rfl rfl dX0_writerAt_12 ?_
  refine xr_aload_n (pc := 13) X (i := 0) 0 rfl rfl dX0_writerAt_13 ?_
  refine xgX0 (pc := 14) X (d0) h0.1 1 wm_3_19 rfl rfl (by decide) rfl dX0_writerAt_14 ?_
  refine xr_alenI (pc := 17) X (d0 + 2) (c0) h0.2.2.1.1 h0.2.2.1.2 dX0_writerAt_17 ?_
  refine xr_icmp_ge (pc := 18) X 30 (by decide) dX0_writerAt_18 (fun _ => ?_) (fun _ => ?_)
  · refine xr_iconst (pc := 30) X dX0_writerAt_30 (v := (-1)) (by decide) ?_
    exact xr_iret (pc := 31) X (Nat.le_refl _) (Nat.le_refl _) dX0_writerAt_31
  refine xr_aload_n (pc := 21) X (i := 0) 0 rfl rfl dX0_writerAt_21 ?_
  refine xgX0 (pc := 22) X (d0) h0.1 1 wm_3_19 rfl rfl (by decide) rfl dX0_writerAt_22 ?_
  refine xr_iload_n (pc := 25) X (i := 1) 1 rfl rfl dX0_writerAt_25 ?_
  refine xr_iald (pc := 26) X (d0 + 2) (c0) h0.2.2.1.1 h0.2.2.1.2 dX0_writerAt_26 (fun z1 => ?_)
  refine xr_goto (pc := 27) X 31 (by decide) dX0_writerAt_27 ?_
  exact xr_iret (pc := 31) X (Nat.le_refl _) (Nat.le_refl _) dX0_writerAt_31
def F_X0_numberAt (c0 d0 : Nat) (p1 : Int32) (σ : xS) : Option (Int32 × xS) :=
  if p1 < 0 then (some ((-1 : Int32), σ))
 else (if (σ d0 3) ≤ p1 then (some ((-1 : Int32), σ))
 else (if (nI c0) ≤ p1 then (some ((-1 : Int32), σ))
 else (if xin p1 c0 = true then (xlet (σ (d0 + 3) p1.toNatClampNeg) (fun (z1 : Int32) => some (z1, σ))) else none)))
abbrev rm_X0_numberAt : Room := { frames := 0, cells := 0, slots := 0, locals := 0 }
set_option maxHeartbeats 4000000 in
set_option maxRecDepth 100000 in
theorem c_X0_numberAt (l : Launch) {D : va_G} {ad : Nat → Nat} {N : Nat} {Sh : xSh} (hI : ∀ i j, i < N → j < N → ad i = ad j → i = j) (c0 d0 : Nat) (h0 : xIs0 D ad N Sh c0 d0) (p1 : Int32) (σ : xS) : xKI l yX0_numberAt (Cond.code yX0_numberAt cX0_numberAt 2 (some .int) :: wG) rm_X0_numberAt 0 0 D ad N Sh [.ref (ad d0), .int p1] σ (F_X0_numberAt c0 d0 p1 σ) := by
  refine x_startI (own := RX0) (maxL := 2) (by decide) rfl rfl (Nat.le_of_ble_eq_true rfl) rfl hI (fun Γ hl hnL X => ?_)
  subst hl
  unfold F_X0_numberAt
  refine xr_iload_n (pc := 0) X (i := 1) 1 rfl rfl dX0_numberAt_0 ?_
  refine xr_if_lt (pc := 1) X 30 (by decide) dX0_numberAt_1 (fun _ => ?_) (fun _ => ?_)
  · refine xr_iconst (pc := 30) X dX0_numberAt_30 (v := (-1)) (by decide) ?_
    exact xr_iret (pc := 31) X (Nat.le_refl _) (Nat.le_refl _) dX0_numberAt_31
  refine xr_iload_n (pc := 4) X (i := 1) 1 rfl rfl dX0_numberAt_4 ?_
  refine xr_aload_n (pc := 5) X (i := 0) 0 rfl rfl dX0_numberAt_5 ?_
  refine xgX0 (pc := 6) X (d0) h0.1 3 wm_3_13 rfl rfl (by decide) rfl dX0_numberAt_6 ?_
  refine xr_icmp_ge (pc := 9) X 30 (by decide) dX0_numberAt_9 (fun _ => ?_) (fun _ => ?_)
  · refine xr_iconst (pc := 30) X dX0_numberAt_30 (v := (-1)) (by decide) ?_
    exact xr_iret (pc := 31) X (Nat.le_refl _) (Nat.le_refl _) dX0_numberAt_31
  refine xr_iload_n (pc := 12) X (i := 1) 1 rfl rfl dX0_numberAt_12 ?_
  refine xr_aload_n (pc := 13) X (i := 0) 0 rfl rfl dX0_numberAt_13 ?_
  refine xgX0 (pc := 14) X (d0) h0.1 2 wm_3_20 rfl rfl (by decide) rfl dX0_numberAt_14 ?_
  refine xr_alenI (pc := 17) X (d0 + 3) (c0) h0.2.2.2.1 h0.2.2.2.2 dX0_numberAt_17 ?_
  refine xr_icmp_ge (pc := 18) X 30 (by decide) dX0_numberAt_18 (fun _ => ?_) (fun _ => ?_)
  · refine xr_iconst (pc := 30) X dX0_numberAt_30 (v := (-1)) (by decide) ?_
    exact xr_iret (pc := 31) X (Nat.le_refl _) (Nat.le_refl _) dX0_numberAt_31
  refine xr_aload_n (pc := 21) X (i := 0) 0 rfl rfl dX0_numberAt_21 ?_
  refine xgX0 (pc := 22) X (d0) h0.1 2 wm_3_20 rfl rfl (by decide) rfl dX0_numberAt_22 ?_
  refine xr_iload_n (pc := 25) X (i := 1) 1 rfl rfl dX0_numberAt_25 ?_
  refine xr_iald (pc := 26) X (d0 + 3) (c0) h0.2.2.2.1 h0.2.2.2.2 dX0_numberAt_26 (fun z1 => ?_)
  refine xr_goto (pc := 27) X 31 (by decide) dX0_numberAt_27 ?_
  exact xr_iret (pc := 31) X (Nat.le_refl _) (Nat.le_refl _) dX0_numberAt_31
def F_X0_addLast (c0 d0 : Nat) (p1 : Int32) (p2 : Int32) (p3 : Int32) (σ : xS) : Option xS :=
  if (σ d0 3) < 0 then (some σ)
 else (if (nI c0) ≤ (σ d0 3) then (some σ)
 else (if xin (σ d0 3) c0 = true then (xlet (xu σ (d0 + 1) (σ d0 3).toNatClampNeg p1) (fun (σ1 : xS) => if xin (σ1 d0 3) c0 = true then (xlet (xu σ1 (d0 + 2) (σ1 d0 3).toNatClampNeg p2) (fun (σ2 : xS) => if xin (σ2 d0 3) c0 = true then (xlet (xu σ2 (d0 + 3) (σ2 d0 3).toNatClampNeg p3) (fun (σ3 : xS) => xlet (xu σ3 d0 3 ((σ3 d0 3) + 1)) (fun (σ4 : xS) => some σ4))) else none)) else none)) else none))
abbrev rm_X0_addLast : Room := { frames := 0, cells := 0, slots := 0, locals := 0 }
set_option maxHeartbeats 4000000 in
set_option maxRecDepth 100000 in
theorem c_X0_addLast (l : Launch) {D : va_G} {ad : Nat → Nat} {N : Nat} {Sh : xSh} (hI : ∀ i j, i < N → j < N → ad i = ad j → i = j) (c0 d0 : Nat) (h0 : xIs0 D ad N Sh c0 d0) (p1 : Int32) (p2 : Int32) (p3 : Int32) (σ : xS) : xKV l yX0_addLast (Cond.code yX0_addLast cX0_addLast 4 none :: wG) rm_X0_addLast 0 0 D ad N Sh [.ref (ad d0), .int p1, .int p2, .int p3] σ (F_X0_addLast c0 d0 p1 p2 p3 σ) := by
  refine x_startV (own := RX0) (maxL := 4) (by decide) rfl rfl (Nat.le_of_ble_eq_true rfl) rfl hI (fun Γ hl hnL X => ?_)
  subst hl
  unfold F_X0_addLast
  refine xr_aload_n (pc := 0) X (i := 0) 0 rfl rfl dX0_addLast_0 ?_
  refine xgX0 (pc := 1) X (d0) h0.1 3 wm_3_13 rfl rfl (by decide) rfl dX0_addLast_1 ?_
  refine xr_if_lt (pc := 4) X 59 (by decide) dX0_addLast_4 (fun _ => ?_) (fun _ => ?_)
  · exact xr_vret (pc := 59) X (Nat.le_refl _) (Nat.le_refl _) dX0_addLast_59
  refine xr_aload_n (pc := 7) X (i := 0) 0 rfl rfl dX0_addLast_7 ?_
  refine xgX0 (pc := 8) X (d0) h0.1 3 wm_3_13 rfl rfl (by decide) rfl dX0_addLast_8 ?_
  refine xr_aload_n (pc := 11) X (i := 0) 0 rfl rfl dX0_addLast_11 ?_
  refine xgX0 (pc := 12) X (d0) h0.1 0 wm_3_18 rfl rfl (by decide) rfl dX0_addLast_12 ?_
  refine xr_alenI (pc := 15) X (d0 + 1) (c0) h0.2.1.1 h0.2.1.2 dX0_addLast_15 ?_
  refine xr_icmp_ge (pc := 16) X 59 (by decide) dX0_addLast_16 (fun _ => ?_) (fun _ => ?_)
  · exact xr_vret (pc := 59) X (Nat.le_refl _) (Nat.le_refl _) dX0_addLast_59
  refine xr_aload_n (pc := 19) X (i := 0) 0 rfl rfl dX0_addLast_19 ?_
  refine xgX0 (pc := 20) X (d0) h0.1 0 wm_3_18 rfl rfl (by decide) rfl dX0_addLast_20 ?_
  refine xr_aload_n (pc := 23) X (i := 0) 0 rfl rfl dX0_addLast_23 ?_
  refine xgX0 (pc := 24) X (d0) h0.1 3 wm_3_13 rfl rfl (by decide) rfl dX0_addLast_24 ?_
  refine xr_iload_n (pc := 27) X (i := 1) 1 rfl rfl dX0_addLast_27 ?_
  refine xr_iast (pc := 28) X (d0 + 1) (c0) h0.2.1.1 h0.2.1.2 dX0_addLast_28 (fun σ1 => ?_)
  refine xr_aload_n (pc := 29) X (i := 0) 0 rfl rfl dX0_addLast_29 ?_
  refine xgX0 (pc := 30) X (d0) h0.1 1 wm_3_19 rfl rfl (by decide) rfl dX0_addLast_30 ?_
  refine xr_aload_n (pc := 33) X (i := 0) 0 rfl rfl dX0_addLast_33 ?_
  refine xgX0 (pc := 34) X (d0) h0.1 3 wm_3_13 rfl rfl (by decide) rfl dX0_addLast_34 ?_
  refine xr_iload_n (pc := 37) X (i := 2) 2 rfl rfl dX0_addLast_37 ?_
  refine xr_iast (pc := 38) X (d0 + 2) (c0) h0.2.2.1.1 h0.2.2.1.2 dX0_addLast_38 (fun σ2 => ?_)
  refine xr_aload_n (pc := 39) X (i := 0) 0 rfl rfl dX0_addLast_39 ?_
  refine xgX0 (pc := 40) X (d0) h0.1 2 wm_3_20 rfl rfl (by decide) rfl dX0_addLast_40 ?_
  refine xr_aload_n (pc := 43) X (i := 0) 0 rfl rfl dX0_addLast_43 ?_
  refine xgX0 (pc := 44) X (d0) h0.1 3 wm_3_13 rfl rfl (by decide) rfl dX0_addLast_44 ?_
  refine xr_iload_n (pc := 47) X (i := 3) 3 rfl rfl dX0_addLast_47 ?_
  refine xr_iast (pc := 48) X (d0 + 3) (c0) h0.2.2.2.1 h0.2.2.2.2 dX0_addLast_48 (fun σ3 => ?_)
  refine xr_aload_n (pc := 49) X (i := 0) 0 rfl rfl dX0_addLast_49 ?_
  refine xr_dup (pc := 50) X rfl dX0_addLast_50 ?_
  refine xgX0 (pc := 51) X (d0) h0.1 3 wm_3_13 rfl rfl (by decide) rfl dX0_addLast_51 ?_
  refine xr_iconst (pc := 54) X dX0_addLast_54 (v := 1) (by decide) ?_
  refine xr_iadd (pc := 55) X dX0_addLast_55 ?_
  refine xpX0 (pc := 56) X (d0) h0.1 3 wm_3_13 rfl (fun _ => rfl) rfl (by decide) rfl rfl (by decide) (by decide) rfl dX0_addLast_56 (fun σ4 => ?_)
  exact xr_vret (pc := 59) X (Nat.le_refl _) (Nat.le_refl _) dX0_addLast_59
def L_X0_dropAt_15 (c0 : Nat) (d0 : Nat) (K3 : xS → Option xS) : Nat → Int32 → xS → Option xS
  | 0, _, _ => none
  | n7 + 1, z5, σ6 => if (σ6 d0 3) ≤ (z5 + 1) then (K3 σ6)
 else (if (nI c0) ≤ (z5 + 1) then (K3 σ6)
 else (if xin (z5 + 1) c0 = true then (xlet (σ6 (d0 + 1) (z5 + 1).toNatClampNeg) (fun (z9 : Int32) => if xin z5 c0 = true then (xlet (xu σ6 (d0 + 1) z5.toNatClampNeg z9) (fun (σ10 : xS) => if xin (z5 + 1) c0 = true then (xlet (σ10 (d0 + 2) (z5 + 1).toNatClampNeg) (fun (z11 : Int32) => if xin z5 c0 = true then (xlet (xu σ10 (d0 + 2) z5.toNatClampNeg z11) (fun (σ12 : xS) => if xin (z5 + 1) c0 = true then (xlet (σ12 (d0 + 3) (z5 + 1).toNatClampNeg) (fun (z13 : Int32) => if xin z5 c0 = true then (xlet (xu σ12 (d0 + 3) z5.toNatClampNeg z13) (fun (σ14 : xS) => xlet (z5 + 1) (fun (z15 : Int32) => L_X0_dropAt_15 c0 d0 K3 n7 z15 σ14))) else none)) else none)) else none)) else none)) else none)) else none))
def F_X0_dropAt (c0 d0 : Nat) (p1 : Int32) (σ : xS) : Option xS :=
  if p1 < 0 then (some σ)
 else (if p1 < (σ d0 3) then (L_X0_dropAt_15 c0 d0 (fun (σ1 : xS) => xlet (xu σ1 d0 3 ((σ1 d0 3) - 1)) (fun (σ2 : xS) => some σ2)) 1000 p1 σ)
 else (some σ))
abbrev rm_X0_dropAt : Room := { frames := 0, cells := 0, slots := 0, locals := 0 }
set_option maxHeartbeats 4000000 in
set_option maxRecDepth 100000 in
theorem c_X0_dropAt (l : Launch) {D : va_G} {ad : Nat → Nat} {N : Nat} {Sh : xSh} (hI : ∀ i j, i < N → j < N → ad i = ad j → i = j) (c0 d0 : Nat) (h0 : xIs0 D ad N Sh c0 d0) (p1 : Int32) (σ : xS) : xKV l yX0_dropAt (Cond.code yX0_dropAt cX0_dropAt 3 none :: wG) rm_X0_dropAt 0 0 D ad N Sh [.ref (ad d0), .int p1] σ (F_X0_dropAt c0 d0 p1 σ) := by
  refine x_startV (own := RX0) (maxL := 3) (by decide) rfl rfl (Nat.le_of_ble_eq_true rfl) rfl hI (fun Γ hl hnL X => ?_)
  subst hl
  unfold F_X0_dropAt
  refine xr_iload_n (pc := 0) X (i := 1) 1 rfl rfl dX0_dropAt_0 ?_
  refine xr_if_lt (pc := 1) X 12 (by decide) dX0_dropAt_1 (fun _ => ?_) (fun _ => ?_)
  · exact xr_vret (pc := 12) X (Nat.le_refl _) (Nat.le_refl _) dX0_dropAt_12
  refine xr_iload_n (pc := 4) X (i := 1) 1 rfl rfl dX0_dropAt_4 ?_
  refine xr_aload_n (pc := 5) X (i := 0) 0 rfl rfl dX0_dropAt_5 ?_
  refine xgX0 (pc := 6) X (d0) h0.1 3 wm_3_13 rfl rfl (by decide) rfl dX0_dropAt_6 ?_
  refine xr_icmp_lt (pc := 9) X 13 (by decide) dX0_dropAt_9 (fun _ => ?_) (fun _ => ?_)
  · refine xr_iload_n (pc := 13) X (i := 1) 1 rfl rfl dX0_dropAt_13 ?_
    refine xr_istore_n (pc := 14) X (hf := rfl) (i := 2) [1, 0] (Nat.le_of_ble_eq_true rfl) hnL rfl dX0_dropAt_14 ?_
    have hL16 : ∀ (K3 : xS → Option xS) (hK4 : ∀ σ1, xM Γ D ad N Sh (xQV Γ D ad N Sh 0 0) 0 0 (K3 σ1) σ1 84 [(0, .ref (ad d0))] []), ∀ (n7 : Nat) z5 σ6, xM Γ D ad N Sh (xQV Γ D ad N Sh 0 0) 0 0 (L_X0_dropAt_15 c0 d0 K3 n7 z5 σ6) σ6 15 [(0, .ref (ad d0)), (2, .int z5)] [] := by
      intro K3 hK4 n7
      induction n7 with
      | zero => intro z5 σ6; exact xM_none
      | succ n7 ih8 =>
        intro z5 σ6
        rw [L_X0_dropAt_15]
        refine xr_iload_n (pc := 15) X (i := 2) 1 rfl rfl dX0_dropAt_15 ?_
        refine xr_iconst (pc := 16) X dX0_dropAt_16 (v := 1) (by decide) ?_
        refine xr_iadd (pc := 17) X dX0_dropAt_17 ?_
        refine xr_aload_n (pc := 18) X (i := 0) 0 rfl rfl dX0_dropAt_18 ?_
        refine xgX0 (pc := 19) X (d0) h0.1 3 wm_3_13 rfl rfl (by decide) rfl dX0_dropAt_19 ?_
        refine xr_icmp_ge (pc := 22) X 84 (by decide) dX0_dropAt_22 (fun _ => ?_) (fun _ => ?_)
        · exact x_sub [0] rfl (hK4  _)
        refine xr_iload_n (pc := 25) X (i := 2) 1 rfl rfl dX0_dropAt_25 ?_
        refine xr_iconst (pc := 26) X dX0_dropAt_26 (v := 1) (by decide) ?_
        refine xr_iadd (pc := 27) X dX0_dropAt_27 ?_
        refine xr_aload_n (pc := 28) X (i := 0) 0 rfl rfl dX0_dropAt_28 ?_
        refine xgX0 (pc := 29) X (d0) h0.1 0 wm_3_18 rfl rfl (by decide) rfl dX0_dropAt_29 ?_
        refine xr_alenI (pc := 32) X (d0 + 1) (c0) h0.2.1.1 h0.2.1.2 dX0_dropAt_32 ?_
        refine xr_icmp_ge (pc := 33) X 84 (by decide) dX0_dropAt_33 (fun _ => ?_) (fun _ => ?_)
        · exact x_sub [0] rfl (hK4  _)
        refine xr_aload_n (pc := 36) X (i := 0) 0 rfl rfl dX0_dropAt_36 ?_
        refine xgX0 (pc := 37) X (d0) h0.1 0 wm_3_18 rfl rfl (by decide) rfl dX0_dropAt_37 ?_
        refine xr_iload_n (pc := 40) X (i := 2) 1 rfl rfl dX0_dropAt_40 ?_
        refine xr_aload_n (pc := 41) X (i := 0) 0 rfl rfl dX0_dropAt_41 ?_
        refine xgX0 (pc := 42) X (d0) h0.1 0 wm_3_18 rfl rfl (by decide) rfl dX0_dropAt_42 ?_
        refine xr_iload_n (pc := 45) X (i := 2) 1 rfl rfl dX0_dropAt_45 ?_
        refine xr_iconst (pc := 46) X dX0_dropAt_46 (v := 1) (by decide) ?_
        refine xr_iadd (pc := 47) X dX0_dropAt_47 ?_
        refine xr_iald (pc := 48) X (d0 + 1) (c0) h0.2.1.1 h0.2.1.2 dX0_dropAt_48 (fun z9 => ?_)
        refine xr_iast (pc := 49) X (d0 + 1) (c0) h0.2.1.1 h0.2.1.2 dX0_dropAt_49 (fun σ10 => ?_)
        refine xr_aload_n (pc := 50) X (i := 0) 0 rfl rfl dX0_dropAt_50 ?_
        refine xgX0 (pc := 51) X (d0) h0.1 1 wm_3_19 rfl rfl (by decide) rfl dX0_dropAt_51 ?_
        refine xr_iload_n (pc := 54) X (i := 2) 1 rfl rfl dX0_dropAt_54 ?_
        refine xr_aload_n (pc := 55) X (i := 0) 0 rfl rfl dX0_dropAt_55 ?_
        refine xgX0 (pc := 56) X (d0) h0.1 1 wm_3_19 rfl rfl (by decide) rfl dX0_dropAt_56 ?_
        refine xr_iload_n (pc := 59) X (i := 2) 1 rfl rfl dX0_dropAt_59 ?_
        refine xr_iconst (pc := 60) X dX0_dropAt_60 (v := 1) (by decide) ?_
        refine xr_iadd (pc := 61) X dX0_dropAt_61 ?_
        refine xr_iald (pc := 62) X (d0 + 2) (c0) h0.2.2.1.1 h0.2.2.1.2 dX0_dropAt_62 (fun z11 => ?_)
        refine xr_iast (pc := 63) X (d0 + 2) (c0) h0.2.2.1.1 h0.2.2.1.2 dX0_dropAt_63 (fun σ12 => ?_)
        refine xr_aload_n (pc := 64) X (i := 0) 0 rfl rfl dX0_dropAt_64 ?_
        refine xgX0 (pc := 65) X (d0) h0.1 2 wm_3_20 rfl rfl (by decide) rfl dX0_dropAt_65 ?_
        refine xr_iload_n (pc := 68) X (i := 2) 1 rfl rfl dX0_dropAt_68 ?_
        refine xr_aload_n (pc := 69) X (i := 0) 0 rfl rfl dX0_dropAt_69 ?_
        refine xgX0 (pc := 70) X (d0) h0.1 2 wm_3_20 rfl rfl (by decide) rfl dX0_dropAt_70 ?_
        refine xr_iload_n (pc := 73) X (i := 2) 1 rfl rfl dX0_dropAt_73 ?_
        refine xr_iconst (pc := 74) X dX0_dropAt_74 (v := 1) (by decide) ?_
        refine xr_iadd (pc := 75) X dX0_dropAt_75 ?_
        refine xr_iald (pc := 76) X (d0 + 3) (c0) h0.2.2.2.1 h0.2.2.2.2 dX0_dropAt_76 (fun z13 => ?_)
        refine xr_iast (pc := 77) X (d0 + 3) (c0) h0.2.2.2.1 h0.2.2.2.2 dX0_dropAt_77 (fun σ14 => ?_)
        refine xr_iinc (pc := 78) X (i := 2) (j := 1) [1, 0] (Nat.le_of_ble_eq_true rfl) hnL rfl rfl (fun z15 => [(0, .ref (ad d0)), (2, .int z15)]) (fun _ => rfl) dX0_dropAt_78 (fun z15 => ?_)
        refine xr_goto (pc := 81) X 15 (by decide) dX0_dropAt_81 ?_
        exact ih8 _ _
    refine hL16 _ (fun σ1 => ?_) _ _ _
    refine xr_aload_n (pc := 84) X (i := 0) 0 rfl rfl dX0_dropAt_84 ?_
    refine xr_dup (pc := 85) X rfl dX0_dropAt_85 ?_
    refine xgX0 (pc := 86) X (d0) h0.1 3 wm_3_13 rfl rfl (by decide) rfl dX0_dropAt_86 ?_
    refine xr_iconst (pc := 89) X dX0_dropAt_89 (v := 1) (by decide) ?_
    refine xr_isub (pc := 90) X dX0_dropAt_90 ?_
    refine xpX0 (pc := 91) X (d0) h0.1 3 wm_3_13 rfl (fun _ => rfl) rfl (by decide) rfl rfl (by decide) (by decide) rfl dX0_dropAt_91 (fun σ2 => ?_)
    exact xr_vret (pc := 94) X (Nat.le_refl _) (Nat.le_refl _) dX0_dropAt_94
  exact xr_vret (pc := 12) X (Nat.le_refl _) (Nat.le_refl _) dX0_dropAt_12
def L_X0_copyFrom_18 (c0 : Nat) (d0 : Nat) (c1 : Nat) (d1 : Nat) (K4 : xS → Option xS) : Nat → Int32 → xS → Option xS
  | 0, _, _ => none
  | n8 + 1, z6, σ7 => if (σ7 d0 3) ≤ z6 then (K4 σ7)
 else (if (nI c1) ≤ z6 then (K4 σ7)
 else (if xin z6 c1 = true then (xlet (σ7 (d1 + 1) z6.toNatClampNeg) (fun (z10 : Int32) => if xin z6 c0 = true then (xlet (xu σ7 (d0 + 1) z6.toNatClampNeg z10) (fun (σ11 : xS) => if xin z6 c1 = true then (xlet (σ11 (d1 + 2) z6.toNatClampNeg) (fun (z12 : Int32) => if xin z6 c0 = true then (xlet (xu σ11 (d0 + 2) z6.toNatClampNeg z12) (fun (σ13 : xS) => if xin z6 c1 = true then (xlet (σ13 (d1 + 3) z6.toNatClampNeg) (fun (z14 : Int32) => if xin z6 c0 = true then (xlet (xu σ13 (d0 + 3) z6.toNatClampNeg z14) (fun (σ15 : xS) => xlet (z6 + 1) (fun (z16 : Int32) => L_X0_copyFrom_18 c0 d0 c1 d1 K4 n8 z16 σ15))) else none)) else none)) else none)) else none)) else none)) else none))
def F_X0_copyFrom (c0 d0 : Nat) (c1 d1 : Nat) (σ : xS) : Option xS :=
  xlet (if (nI c0) < (σ d1 3) then (nI c0) else (σ d1 3)) (fun (z1 : Int32) => xlet (xu σ d0 3 z1) (fun (σ2 : xS) => L_X0_copyFrom_18 c0 d0 c1 d1 (fun (σ3 : xS) => some σ3) 1000 0 σ2))
abbrev rm_X0_copyFrom : Room := { frames := 1, cells := 0, slots := 0, locals := 21 }
set_option maxHeartbeats 4000000 in
set_option maxRecDepth 100000 in
theorem c_X0_copyFrom (l : Launch) {D : va_G} {ad : Nat → Nat} {N : Nat} {Sh : xSh} (hI : ∀ i j, i < N → j < N → ad i = ad j → i = j) (c0 d0 : Nat) (h0 : xIs0 D ad N Sh c0 d0) (c1 d1 : Nat) (h1 : xIs0 D ad N Sh c1 d1) (σ : xS) : xKV l yX0_copyFrom (Cond.code yX0_copyFrom cX0_copyFrom 3 none :: wG) rm_X0_copyFrom 0 0 D ad N Sh [.ref (ad d0), .ref (ad d1)] σ (F_X0_copyFrom c0 d0 c1 d1 σ) := by
  refine x_startV (own := RX0) (maxL := 3) (by decide) rfl rfl (Nat.le_of_ble_eq_true rfl) rfl hI (fun Γ hl hnL X => ?_)
  subst hl
  unfold F_X0_copyFrom
  refine xr_aload_n (pc := 0) X (i := 0) 0 rfl rfl dX0_copyFrom_0 ?_
  refine xr_aload_n (pc := 1) X (i := 1) 1 rfl rfl dX0_copyFrom_1 ?_
  refine xgX0 (pc := 2) X (d1) h1.1 3 wm_3_13 rfl rfl (by decide) rfl dX0_copyFrom_2 ?_
  refine xr_aload_n (pc := 5) X (i := 0) 0 rfl rfl dX0_copyFrom_5 ?_
  refine xgX0 (pc := 6) X (d0) h0.1 0 wm_3_18 rfl rfl (by decide) rfl dX0_copyFrom_6 ?_
  refine xr_alenI (pc := 9) X (d0 + 1) (c0) h0.2.1.1 h0.2.1.2 dX0_copyFrom_9 ?_
  refine xr_min (pc := 10) X (List.mem_cons_of_mem _ wm_23_11) (List.mem_cons_of_mem _ wm_23_1) (List.mem_cons_of_mem _ wm_3_16) (List.mem_cons_of_mem _ wm_23_2) (Nat.le_of_ble_eq_true rfl) (Nat.le_of_ble_eq_true rfl) (Nat.zero_le _) (Nat.zero_le _) dX0_copyFrom_10 ?_
  refine x_leti (fun z1 => ?_)
  refine xpX0 (pc := 13) X (d0) h0.1 3 wm_3_13 rfl (fun _ => rfl) rfl (by decide) rfl rfl (by decide) (by decide) rfl dX0_copyFrom_13 (fun σ2 => ?_)
  refine xr_iconst (pc := 16) X dX0_copyFrom_16 (v := 0) (by decide) ?_
  refine xr_istore_n (pc := 17) X (hf := rfl) (i := 2) [1, 2, 0] (Nat.le_of_ble_eq_true rfl) hnL rfl dX0_copyFrom_17 ?_
  have hL17 : ∀ (K4 : xS → Option xS) (hK5 : ∀ σ3, xM Γ D ad N Sh (xQV Γ D ad N Sh 0 0) 0 0 (K4 σ3) σ3 77 [] []), ∀ (n8 : Nat) z6 σ7, xM Γ D ad N Sh (xQV Γ D ad N Sh 0 0) 0 0 (L_X0_copyFrom_18 c0 d0 c1 d1 K4 n8 z6 σ7) σ7 18 [(0, .ref (ad d0)), (1, .ref (ad d1)), (2, .int z6)] [] := by
    intro K4 hK5 n8
    induction n8 with
    | zero => intro z6 σ7; exact xM_none
    | succ n8 ih9 =>
      intro z6 σ7
      rw [L_X0_copyFrom_18]
      refine xr_iload_n (pc := 18) X (i := 2) 2 rfl rfl dX0_copyFrom_18 ?_
      refine xr_aload_n (pc := 19) X (i := 0) 0 rfl rfl dX0_copyFrom_19 ?_
      refine xgX0 (pc := 20) X (d0) h0.1 3 wm_3_13 rfl rfl (by decide) rfl dX0_copyFrom_20 ?_
      refine xr_icmp_ge (pc := 23) X 77 (by decide) dX0_copyFrom_23 (fun _ => ?_) (fun _ => ?_)
      · exact x_sub [] rfl (hK5  _)
      refine xr_iload_n (pc := 26) X (i := 2) 2 rfl rfl dX0_copyFrom_26 ?_
      refine xr_aload_n (pc := 27) X (i := 1) 1 rfl rfl dX0_copyFrom_27 ?_
      refine xgX0 (pc := 28) X (d1) h1.1 0 wm_3_18 rfl rfl (by decide) rfl dX0_copyFrom_28 ?_
      refine xr_alenI (pc := 31) X (d1 + 1) (c1) h1.2.1.1 h1.2.1.2 dX0_copyFrom_31 ?_
      refine xr_icmp_ge (pc := 32) X 77 (by decide) dX0_copyFrom_32 (fun _ => ?_) (fun _ => ?_)
      · exact x_sub [] rfl (hK5  _)
      refine xr_aload_n (pc := 35) X (i := 0) 0 rfl rfl dX0_copyFrom_35 ?_
      refine xgX0 (pc := 36) X (d0) h0.1 0 wm_3_18 rfl rfl (by decide) rfl dX0_copyFrom_36 ?_
      refine xr_iload_n (pc := 39) X (i := 2) 2 rfl rfl dX0_copyFrom_39 ?_
      refine xr_aload_n (pc := 40) X (i := 1) 1 rfl rfl dX0_copyFrom_40 ?_
      refine xgX0 (pc := 41) X (d1) h1.1 0 wm_3_18 rfl rfl (by decide) rfl dX0_copyFrom_41 ?_
      refine xr_iload_n (pc := 44) X (i := 2) 2 rfl rfl dX0_copyFrom_44 ?_
      refine xr_iald (pc := 45) X (d1 + 1) (c1) h1.2.1.1 h1.2.1.2 dX0_copyFrom_45 (fun z10 => ?_)
      refine xr_iast (pc := 46) X (d0 + 1) (c0) h0.2.1.1 h0.2.1.2 dX0_copyFrom_46 (fun σ11 => ?_)
      refine xr_aload_n (pc := 47) X (i := 0) 0 rfl rfl dX0_copyFrom_47 ?_
      refine xgX0 (pc := 48) X (d0) h0.1 1 wm_3_19 rfl rfl (by decide) rfl dX0_copyFrom_48 ?_
      refine xr_iload_n (pc := 51) X (i := 2) 2 rfl rfl dX0_copyFrom_51 ?_
      refine xr_aload_n (pc := 52) X (i := 1) 1 rfl rfl dX0_copyFrom_52 ?_
      refine xgX0 (pc := 53) X (d1) h1.1 1 wm_3_19 rfl rfl (by decide) rfl dX0_copyFrom_53 ?_
      refine xr_iload_n (pc := 56) X (i := 2) 2 rfl rfl dX0_copyFrom_56 ?_
      refine xr_iald (pc := 57) X (d1 + 2) (c1) h1.2.2.1.1 h1.2.2.1.2 dX0_copyFrom_57 (fun z12 => ?_)
      refine xr_iast (pc := 58) X (d0 + 2) (c0) h0.2.2.1.1 h0.2.2.1.2 dX0_copyFrom_58 (fun σ13 => ?_)
      refine xr_aload_n (pc := 59) X (i := 0) 0 rfl rfl dX0_copyFrom_59 ?_
      refine xgX0 (pc := 60) X (d0) h0.1 2 wm_3_20 rfl rfl (by decide) rfl dX0_copyFrom_60 ?_
      refine xr_iload_n (pc := 63) X (i := 2) 2 rfl rfl dX0_copyFrom_63 ?_
      refine xr_aload_n (pc := 64) X (i := 1) 1 rfl rfl dX0_copyFrom_64 ?_
      refine xgX0 (pc := 65) X (d1) h1.1 2 wm_3_20 rfl rfl (by decide) rfl dX0_copyFrom_65 ?_
      refine xr_iload_n (pc := 68) X (i := 2) 2 rfl rfl dX0_copyFrom_68 ?_
      refine xr_iald (pc := 69) X (d1 + 3) (c1) h1.2.2.2.1 h1.2.2.2.2 dX0_copyFrom_69 (fun z14 => ?_)
      refine xr_iast (pc := 70) X (d0 + 3) (c0) h0.2.2.2.1 h0.2.2.2.2 dX0_copyFrom_70 (fun σ15 => ?_)
      refine xr_iinc (pc := 71) X (i := 2) (j := 2) [1, 2, 0] (Nat.le_of_ble_eq_true rfl) hnL rfl rfl (fun z16 => [(0, .ref (ad d0)), (1, .ref (ad d1)), (2, .int z16)]) (fun _ => rfl) dX0_copyFrom_71 (fun z16 => ?_)
      refine xr_goto (pc := 74) X 18 (by decide) dX0_copyFrom_74 ?_
      exact ih9 _ _
  refine hL17 _ (fun σ3 => ?_) _ _ _
  exact xr_vret (pc := 77) X (Nat.le_refl _) (Nat.le_refl _) dX0_copyFrom_77
