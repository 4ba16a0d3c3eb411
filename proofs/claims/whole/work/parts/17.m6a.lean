def F_X6_in (pp1 : Int64) (pp2 : Int64) (pp3 : Int64) (σ : xS) : Option (Int32 × xS) :=
  if (lg_cmp pp1 pp2) < 0 then (some ((0 : Int32), σ))
 else (if 0 < (lg_cmp pp1 pp3) then (some ((0 : Int32), σ))
 else (some ((1 : Int32), σ)))
abbrev rm_X6_in : Room := { frames := 0, cells := 0, slots := 0, locals := 0 }
set_option maxHeartbeats 4000000 in
set_option maxRecDepth 100000 in
theorem c_X6_in (l : Launch) {D : va_G} {ad : Nat → Nat} {N : Nat} {Sh : xSh} (hI : ∀ i j, i < N → j < N → ad i = ad j → i = j) (pp1 : Int64) (pp2 : Int64) (pp3 : Int64) (σ : xS) : xKI l yX6_in (Cond.code yX6_in cX6_in 6 (some .boolean) :: wG) rm_X6_in 0 0 D ad N Sh [.long pp1, .long pp2, .long pp3] σ (F_X6_in pp1 pp2 pp3 σ) := by
  refine x_startI (own := RX6) (maxL := 6) (by decide) rfl rfl (Nat.le_of_ble_eq_true rfl) rfl hI (fun Γ hl hnL X => ?_)
  subst hl
  unfold F_X6_in
  refine xr_lload_n (pc := 0) X (i := 0) 0 rfl rfl dX6_in_0 ?_
  refine xr_lload_n (pc := 1) X (i := 2) 1 rfl rfl dX6_in_1 ?_
  refine xr_lcmp (pc := 2) X dX6_in_2 ?_
  refine xr_if_lt (pc := 3) X 17 (by decide) dX6_in_3 (fun _ => ?_) (fun _ => ?_)
  · refine xr_iconst (pc := 17) X dX6_in_17 (v := 0) (by decide) ?_
    exact xr_zret (pc := 18) X rfl (Nat.le_refl _) (Nat.le_refl _) dX6_in_18
  refine xr_lload_n (pc := 6) X (i := 0) 0 rfl rfl dX6_in_6 ?_
  refine xr_lload (pc := 7) X (i := 4) 2 rfl dX6_in_7 ?_
  refine xr_lcmp (pc := 9) X dX6_in_9 ?_
  refine xr_if_gt (pc := 10) X 17 (by decide) dX6_in_10 (fun _ => ?_) (fun _ => ?_)
  · refine xr_iconst (pc := 17) X dX6_in_17 (v := 0) (by decide) ?_
    exact xr_zret (pc := 18) X rfl (Nat.le_refl _) (Nat.le_refl _) dX6_in_18
  refine xr_iconst (pc := 13) X dX6_in_13 (v := 1) (by decide) ?_
  refine xr_goto (pc := 14) X 18 (by decide) dX6_in_14 ?_
  exact xr_zret (pc := 18) X rfl (Nat.le_refl _) (Nat.le_refl _) dX6_in_18
def L_X6_copyState_3 (nn1 : Nat) (aa1 : Nat) (pp2 : Int32) (nn3 : Nat) (aa3 : Nat) (pp4 : Int32) (KK2 : xS → Option xS) : Nat → Int32 → xS → Option xS
  | 0, _, _ => none
  | nn_6 + 1, zz4, σ5 => if 187 ≤ zz4 then (KK2 σ5)
 else (if xin (pp2 + zz4) nn1 = true then (xlet (σ5 aa1 (pp2 + zz4).toNatClampNeg) (fun (zz8 : Int32) => if xin (pp4 + zz4) nn3 = true then (xlet (xu σ5 aa3 (pp4 + zz4).toNatClampNeg zz8) (fun (σ9 : xS) => xlet (zz4 + 1) (fun (zz10 : Int32) => L_X6_copyState_3 nn1 aa1 pp2 nn3 aa3 pp4 KK2 nn_6 zz10 σ9))) else none)) else none)
def F_X6_copyState (nn1 aa1 : Nat) (pp2 : Int32) (nn3 aa3 : Nat) (pp4 : Int32) (σ : xS) : Option xS :=
  L_X6_copyState_3 nn1 aa1 pp2 nn3 aa3 pp4 (fun (σ1 : xS) => some σ1) 1000 0 σ
abbrev rm_X6_copyState : Room := { frames := 0, cells := 0, slots := 0, locals := 0 }
set_option maxHeartbeats 4000000 in
set_option maxRecDepth 100000 in
theorem c_X6_copyState (l : Launch) {D : va_G} {ad : Nat → Nat} {N : Nat} {Sh : xSh} (hI : ∀ i j, i < N → j < N → ad i = ad j → i = j) (nn1 aa1 : Nat) (hh1 : xHas N Sh aa1 (shI D nn1)) (pp2 : Int32) (nn3 aa3 : Nat) (hh3 : xHas N Sh aa3 (shI D nn3)) (pp4 : Int32) (σ : xS) : xKV l yX6_copyState (Cond.code yX6_copyState cX6_copyState 5 none :: wG) rm_X6_copyState 0 0 D ad N Sh [.ref (ad aa1), .int pp2, .ref (ad aa3), .int pp4] σ (F_X6_copyState nn1 aa1 pp2 nn3 aa3 pp4 σ) := by
  refine x_startV (own := RX6) (maxL := 5) (by decide) rfl rfl (Nat.le_of_ble_eq_true rfl) rfl hI (fun Γ hl hnL X => ?_)
  subst hl
  unfold F_X6_copyState
  refine xr_iconst (pc := 0) X dX6_copyState_0 (v := 0) (by decide) ?_
  refine xr_istore (pc := 1) X (i := 4) [1, 2, 3, 4, 0] (Nat.le_of_ble_eq_true rfl) hnL rfl dX6_copyState_1 ?_
  have hLL11 : ∀ (KK2 : xS → Option xS) (hKK3 : ∀ σ1, xM Γ D ad N Sh (xQV Γ D ad N Sh 0 0) 0 0 (KK2 σ1) σ1 29 [] []), ∀ (nn_6 : Nat) zz4 σ5, xM Γ D ad N Sh (xQV Γ D ad N Sh 0 0) 0 0 (L_X6_copyState_3 nn1 aa1 pp2 nn3 aa3 pp4 KK2 nn_6 zz4 σ5) σ5 3 [(0, .ref (ad aa1)), (1, .int pp2), (2, .ref (ad aa3)), (3, .int pp4), (4, .int zz4)] [] := by
    intro KK2 hKK3 nn_6
    induction nn_6 with
    | zero => intro zz4 σ5; exact xM_none
    | succ nn_6 ihh7 =>
      intro zz4 σ5
      rw [L_X6_copyState_3]
      refine xr_iload (pc := 3) X (i := 4) 4 rfl dX6_copyState_3 ?_
      refine xr_sipush (pc := 5) X dX6_copyState_5 (v := 187) (by decide) ?_
      refine xr_icmp_ge (pc := 8) X 29 (by decide) dX6_copyState_8 (fun _ => ?_) (fun _ => ?_)
      · exact x_sub [] rfl (hKK3  _)
      refine xr_aload_n (pc := 11) X (i := 2) 2 rfl rfl dX6_copyState_11 ?_
      refine xr_iload_n (pc := 12) X (i := 3) 3 rfl rfl dX6_copyState_12 ?_
      refine xr_iload (pc := 13) X (i := 4) 4 rfl dX6_copyState_13 ?_
      refine xr_iadd (pc := 15) X dX6_copyState_15 ?_
      refine xr_aload_n (pc := 16) X (i := 0) 0 rfl rfl dX6_copyState_16 ?_
      refine xr_iload_n (pc := 17) X (i := 1) 1 rfl rfl dX6_copyState_17 ?_
      refine xr_iload (pc := 18) X (i := 4) 4 rfl dX6_copyState_18 ?_
      refine xr_iadd (pc := 20) X dX6_copyState_20 ?_
      refine xr_iald (pc := 21) X (aa1) (nn1) hh1.1 hh1.2 dX6_copyState_21 (fun zz8 => ?_)
      refine xr_iast (pc := 22) X (aa3) (nn3) hh3.1 hh3.2 dX6_copyState_22 (fun σ9 => ?_)
      refine xr_iinc (pc := 23) X (i := 4) (j := 4) [1, 2, 3, 4, 0] (Nat.le_of_ble_eq_true rfl) hnL rfl rfl (fun zz10 => [(0, .ref (ad aa1)), (1, .int pp2), (2, .ref (ad aa3)), (3, .int pp4), (4, .int zz10)]) (fun _ => rfl) dX6_copyState_23 (fun zz10 => ?_)
      refine xr_goto (pc := 26) X 3 (by decide) dX6_copyState_26 ?_
      exact ihh7 _ _
  refine hLL11 _ (fun σ1 => ?_) _ _ _
  exact xr_vret (pc := 29) X (Nat.le_refl _) (Nat.le_refl _) dX6_copyState_29
def F_X6_firstSettings (nn1 aa1 : Nat) (σ : xS) : Option xS :=
  if xin (3 : Int32) nn1 = true then (xlet (xu σ aa1 (3 : Int32).toNatClampNeg ((3 : Int32))) (fun (σ1 : xS) => if xin (4 : Int32) nn1 = true then (xlet (xu σ1 aa1 (4 : Int32).toNatClampNeg ((6 : Int32))) (fun (σ2 : xS) => if xin (5 : Int32) nn1 = true then (xlet (xu σ2 aa1 (5 : Int32).toNatClampNeg ((20 : Int32))) (fun (σ3 : xS) => if xin (6 : Int32) nn1 = true then (xlet (xu σ3 aa1 (6 : Int32).toNatClampNeg ((3 : Int32))) (fun (σ4 : xS) => some σ4)) else none)) else none)) else none)) else none
abbrev rm_X6_firstSettings : Room := { frames := 0, cells := 0, slots := 0, locals := 0 }
set_option maxHeartbeats 4000000 in
set_option maxRecDepth 100000 in
theorem c_X6_firstSettings (l : Launch) {D : va_G} {ad : Nat → Nat} {N : Nat} {Sh : xSh} (hI : ∀ i j, i < N → j < N → ad i = ad j → i = j) (nn1 aa1 : Nat) (hh1 : xHas N Sh aa1 (shI D nn1)) (σ : xS) : xKV l yX6_firstSettings (Cond.code yX6_firstSettings cX6_firstSettings 1 none :: wG) rm_X6_firstSettings 0 0 D ad N Sh [.ref (ad aa1)] σ (F_X6_firstSettings nn1 aa1 σ) := by
  refine x_startV (own := RX6) (maxL := 1) (by decide) rfl rfl (Nat.le_of_ble_eq_true rfl) rfl hI (fun Γ hl hnL X => ?_)
  subst hl
  unfold F_X6_firstSettings
  refine xr_aload_n (pc := 0) X (i := 0) 0 rfl rfl dX6_firstSettings_0 ?_
  refine xr_iconst (pc := 1) X dX6_firstSettings_1 (v := 3) (by decide) ?_
  refine xr_iconst (pc := 2) X dX6_firstSettings_2 (v := 3) (by decide) ?_
  refine xr_iast (pc := 3) X (aa1) (nn1) hh1.1 hh1.2 dX6_firstSettings_3 (fun σ1 => ?_)
  refine xr_aload_n (pc := 4) X (i := 0) 0 rfl rfl dX6_firstSettings_4 ?_
  refine xr_iconst (pc := 5) X dX6_firstSettings_5 (v := 4) (by decide) ?_
  refine xr_bipush (pc := 6) X dX6_firstSettings_6 (v := 6) (by decide) ?_
  refine xr_iast (pc := 8) X (aa1) (nn1) hh1.1 hh1.2 dX6_firstSettings_8 (fun σ2 => ?_)
  refine xr_aload_n (pc := 9) X (i := 0) 0 rfl rfl dX6_firstSettings_9 ?_
  refine xr_iconst (pc := 10) X dX6_firstSettings_10 (v := 5) (by decide) ?_
  refine xr_bipush (pc := 11) X dX6_firstSettings_11 (v := 20) (by decide) ?_
  refine xr_iast (pc := 13) X (aa1) (nn1) hh1.1 hh1.2 dX6_firstSettings_13 (fun σ3 => ?_)
  refine xr_aload_n (pc := 14) X (i := 0) 0 rfl rfl dX6_firstSettings_14 ?_
  refine xr_bipush (pc := 15) X dX6_firstSettings_15 (v := 6) (by decide) ?_
  refine xr_iconst (pc := 17) X dX6_firstSettings_17 (v := 3) (by decide) ?_
  refine xr_iast (pc := 18) X (aa1) (nn1) hh1.1 hh1.2 dX6_firstSettings_18 (fun σ4 => ?_)
  exact xr_vret (pc := 19) X (Nat.le_refl _) (Nat.le_refl _) dX6_firstSettings_19
def F_X6_lay (nn1 aa1 : Nat) (pp2 : Int32) (pp3 : Int32) (pp4 : Int32) (σ : xS) : Option xS :=
  if xin ((31 + (39 * pp2)) + pp3) nn1 = true then (xlet (xu σ aa1 ((31 + (39 * pp2)) + pp3).toNatClampNeg pp4) (fun (σ1 : xS) => some σ1)) else none
abbrev rm_X6_lay : Room := { frames := 0, cells := 0, slots := 0, locals := 0 }
set_option maxHeartbeats 4000000 in
set_option maxRecDepth 100000 in
theorem c_X6_lay (l : Launch) {D : va_G} {ad : Nat → Nat} {N : Nat} {Sh : xSh} (hI : ∀ i j, i < N → j < N → ad i = ad j → i = j) (nn1 aa1 : Nat) (hh1 : xHas N Sh aa1 (shI D nn1)) (pp2 : Int32) (pp3 : Int32) (pp4 : Int32) (σ : xS) : xKV l yX6_lay (Cond.code yX6_lay cX6_lay 4 none :: wG) rm_X6_lay 0 0 D ad N Sh [.ref (ad aa1), .int pp2, .int pp3, .int pp4] σ (F_X6_lay nn1 aa1 pp2 pp3 pp4 σ) := by
  refine x_startV (own := RX6) (maxL := 4) (by decide) rfl rfl (Nat.le_of_ble_eq_true rfl) rfl hI (fun Γ hl hnL X => ?_)
  subst hl
  unfold F_X6_lay
  refine xr_aload_n (pc := 0) X (i := 0) 0 rfl rfl dX6_lay_0 ?_
  refine xr_bipush (pc := 1) X dX6_lay_1 (v := 31) (by decide) ?_
  refine xr_bipush (pc := 3) X dX6_lay_3 (v := 39) (by decide) ?_
  refine xr_iload_n (pc := 5) X (i := 1) 1 rfl rfl dX6_lay_5 ?_
  refine xr_imul (pc := 6) X dX6_lay_6 ?_
  refine xr_iadd (pc := 7) X dX6_lay_7 ?_
  refine xr_iload_n (pc := 8) X (i := 2) 2 rfl rfl dX6_lay_8 ?_
  refine xr_iadd (pc := 9) X dX6_lay_9 ?_
  refine xr_iload_n (pc := 10) X (i := 3) 3 rfl rfl dX6_lay_10 ?_
  refine xr_iast (pc := 11) X (aa1) (nn1) hh1.1 hh1.2 dX6_lay_11 (fun σ1 => ?_)
  exact xr_vret (pc := 12) X (Nat.le_refl _) (Nat.le_refl _) dX6_lay_12
def L_X6_clear_42 (nn1 : Nat) (aa1 : Nat) (KK4 : xS → Option xS) : Nat → Int32 → xS → Option xS
  | 0, _, _ => none
  | nn_8 + 1, zz6, σ7 => if 4 ≤ zz6 then (KK4 σ7)
 else (xbV (F_X6_lay nn1 aa1 zz6 1 1 σ7) (fun (σ10 : xS) => xbV (F_X6_lay nn1 aa1 zz6 11 ((-1)) σ10) (fun (σ11 : xS) => xlet (zz6 + 1) (fun (zz12 : Int32) => L_X6_clear_42 nn1 aa1 KK4 nn_8 zz12 σ11))))
def L_X6_clear_2 (nn1 : Nat) (aa1 : Nat) (KK14 : xS → Option xS) : Nat → Int32 → xS → Option xS
  | 0, _, _ => none
  | nn_18 + 1, zz16, σ17 => if 187 ≤ zz16 then (KK14 σ17)
 else (if zz16 < 3 then (if xin zz16 nn1 = true then (xlet (xu σ17 aa1 zz16.toNatClampNeg ((0 : Int32))) (fun (σ20 : xS) => xlet (zz16 + 1) (fun (zz21 : Int32) => L_X6_clear_2 nn1 aa1 KK14 nn_18 zz21 σ20))) else none)
 else (if 7 ≤ zz16 then (if xin zz16 nn1 = true then (xlet (xu σ17 aa1 zz16.toNatClampNeg ((0 : Int32))) (fun (σ22 : xS) => xlet (zz16 + 1) (fun (zz23 : Int32) => L_X6_clear_2 nn1 aa1 KK14 nn_18 zz23 σ22))) else none)
 else (if xin zz16 nn1 = true then (xlet (σ17 aa1 zz16.toNatClampNeg) (fun (zz24 : Int32) => if xin zz16 nn1 = true then (xlet (xu σ17 aa1 zz16.toNatClampNeg zz24) (fun (σ25 : xS) => xlet (zz16 + 1) (fun (zz26 : Int32) => L_X6_clear_2 nn1 aa1 KK14 nn_18 zz26 σ25))) else none)) else none)))
def F_X6_clear (nn1 aa1 : Nat) (pp2 : Int32) (σ : xS) : Option xS :=
  L_X6_clear_2 nn1 aa1 (fun (σ1 : xS) => if xin (0 : Int32) nn1 = true then (xlet (xu σ1 aa1 (0 : Int32).toNatClampNeg pp2) (fun (σ2 : xS) => L_X6_clear_42 nn1 aa1 (fun (σ3 : xS) => some σ3) 1000 0 σ2)) else none) 1000 0 σ
abbrev rm_X6_clear : Room := { frames := 1, cells := 0, slots := 0, locals := 23 }
set_option maxHeartbeats 4000000 in
set_option maxRecDepth 100000 in
theorem c_X6_clear (l : Launch) {D : va_G} {ad : Nat → Nat} {N : Nat} {Sh : xSh} (hI : ∀ i j, i < N → j < N → ad i = ad j → i = j) (nn1 aa1 : Nat) (hh1 : xHas N Sh aa1 (shI D nn1)) (pp2 : Int32) (σ : xS) : xKV l yX6_clear (Cond.code yX6_clear cX6_clear 3 none :: wG) rm_X6_clear 0 0 D ad N Sh [.ref (ad aa1), .int pp2] σ (F_X6_clear nn1 aa1 pp2 σ) := by
  refine x_startV (own := RX6) (maxL := 3) (by decide) rfl rfl (Nat.le_of_ble_eq_true rfl) rfl hI (fun Γ hl hnL X => ?_)
  subst hl
  unfold F_X6_clear
  refine xr_iconst (pc := 0) X dX6_clear_0 (v := 0) (by decide) ?_
  refine xr_istore_n (pc := 1) X (hf := rfl) (i := 2) [1, 2, 0] (Nat.le_of_ble_eq_true rfl) hnL rfl dX6_clear_1 ?_
  have hLL27 : ∀ (KK14 : xS → Option xS) (hKK15 : ∀ σ1, xM Γ D ad N Sh (xQV Γ D ad N Sh 0 0) 0 0 (KK14 σ1) σ1 36 [(0, .ref (ad aa1)), (1, .int pp2)] []), ∀ (nn_18 : Nat) zz16 σ17, xM Γ D ad N Sh (xQV Γ D ad N Sh 0 0) 0 0 (L_X6_clear_2 nn1 aa1 KK14 nn_18 zz16 σ17) σ17 2 [(0, .ref (ad aa1)), (1, .int pp2), (2, .int zz16)] [] := by
    intro KK14 hKK15 nn_18
    induction nn_18 with
    | zero => intro zz16 σ17; exact xM_none
    | succ nn_18 ihh19 =>
      intro zz16 σ17
      rw [L_X6_clear_2]
      refine xr_iload_n (pc := 2) X (i := 2) 2 rfl rfl dX6_clear_2 ?_
      refine xr_sipush (pc := 3) X dX6_clear_3 (v := 187) (by decide) ?_
      refine xr_icmp_ge (pc := 6) X 36 (by decide) dX6_clear_6 (fun _ => ?_) (fun _ => ?_)
      · exact x_sub [0, 1] rfl (hKK15  _)
      refine xr_aload_n (pc := 9) X (i := 0) 0 rfl rfl dX6_clear_9 ?_
      refine xr_iload_n (pc := 10) X (i := 2) 2 rfl rfl dX6_clear_10 ?_
      refine xr_iload_n (pc := 11) X (i := 2) 2 rfl rfl dX6_clear_11 ?_
      refine xr_iconst (pc := 12) X dX6_clear_12 (v := 3) (by decide) ?_
      refine xr_icmp_lt (pc := 13) X 28 (by decide) dX6_clear_13 (fun _ => ?_) (fun _ => ?_)
      · refine xr_iconst (pc := 28) X dX6_clear_28 (v := 0) (by decide) ?_
        refine xr_iast (pc := 29) X (aa1) (nn1) hh1.1 hh1.2 dX6_clear_29 (fun σ20 => ?_)
        refine xr_iinc (pc := 30) X (i := 2) (j := 2) [1, 2, 0] (Nat.le_of_ble_eq_true rfl) hnL rfl rfl (fun zz21 => [(0, .ref (ad aa1)), (1, .int pp2), (2, .int zz21)]) (fun _ => rfl) dX6_clear_30 (fun zz21 => ?_)
        refine xr_goto (pc := 33) X 2 (by decide) dX6_clear_33 ?_
        exact ihh19 _ _
      refine xr_iload_n (pc := 16) X (i := 2) 2 rfl rfl dX6_clear_16 ?_
      refine xr_bipush (pc := 17) X dX6_clear_17 (v := 7) (by decide) ?_
      refine xr_icmp_ge (pc := 19) X 28 (by decide) dX6_clear_19 (fun _ => ?_) (fun _ => ?_)
      · refine xr_iconst (pc := 28) X dX6_clear_28 (v := 0) (by decide) ?_
        refine xr_iast (pc := 29) X (aa1) (nn1) hh1.1 hh1.2 dX6_clear_29 (fun σ22 => ?_)
        refine xr_iinc (pc := 30) X (i := 2) (j := 2) [1, 2, 0] (Nat.le_of_ble_eq_true rfl) hnL rfl rfl (fun zz23 => [(0, .ref (ad aa1)), (1, .int pp2), (2, .int zz23)]) (fun _ => rfl) dX6_clear_30 (fun zz23 => ?_)
        refine xr_goto (pc := 33) X 2 (by decide) dX6_clear_33 ?_
        exact ihh19 _ _
      refine xr_aload_n (pc := 22) X (i := 0) 0 rfl rfl dX6_clear_22 ?_
      refine xr_iload_n (pc := 23) X (i := 2) 2 rfl rfl dX6_clear_23 ?_
      refine xr_iald (pc := 24) X (aa1) (nn1) hh1.1 hh1.2 dX6_clear_24 (fun zz24 => ?_)
      refine xr_goto (pc := 25) X 29 (by decide) dX6_clear_25 ?_
      refine xr_iast (pc := 29) X (aa1) (nn1) hh1.1 hh1.2 dX6_clear_29 (fun σ25 => ?_)
      refine xr_iinc (pc := 30) X (i := 2) (j := 2) [1, 2, 0] (Nat.le_of_ble_eq_true rfl) hnL rfl rfl (fun zz26 => [(0, .ref (ad aa1)), (1, .int pp2), (2, .int zz26)]) (fun _ => rfl) dX6_clear_30 (fun zz26 => ?_)
      refine xr_goto (pc := 33) X 2 (by decide) dX6_clear_33 ?_
      exact ihh19 _ _
  refine hLL27 _ (fun σ1 => ?_) _ _ _
  refine xr_aload_n (pc := 36) X (i := 0) 0 rfl rfl dX6_clear_36 ?_
  refine xr_iconst (pc := 37) X dX6_clear_37 (v := 0) (by decide) ?_
  refine xr_iload_n (pc := 38) X (i := 1) 1 rfl rfl dX6_clear_38 ?_
  refine xr_iast (pc := 39) X (aa1) (nn1) hh1.1 hh1.2 dX6_clear_39 (fun σ2 => ?_)
  refine xr_iconst (pc := 40) X dX6_clear_40 (v := 0) (by decide) ?_
  refine xr_istore_n (pc := 41) X (hf := rfl) (i := 2) [1, 0] (Nat.le_of_ble_eq_true rfl) hnL rfl dX6_clear_41 ?_
  have hLL13 : ∀ (KK4 : xS → Option xS) (hKK5 : ∀ σ3, xM Γ D ad N Sh (xQV Γ D ad N Sh 0 0) 0 0 (KK4 σ3) σ3 68 [] []), ∀ (nn_8 : Nat) zz6 σ7, xM Γ D ad N Sh (xQV Γ D ad N Sh 0 0) 0 0 (L_X6_clear_42 nn1 aa1 KK4 nn_8 zz6 σ7) σ7 42 [(0, .ref (ad aa1)), (2, .int zz6)] [] := by
    intro KK4 hKK5 nn_8
    induction nn_8 with
    | zero => intro zz6 σ7; exact xM_none
    | succ nn_8 ihh9 =>
      intro zz6 σ7
      rw [L_X6_clear_42]
      refine xr_iload_n (pc := 42) X (i := 2) 1 rfl rfl dX6_clear_42 ?_
      refine xr_iconst (pc := 43) X dX6_clear_43 (v := 4) (by decide) ?_
      refine xr_icmp_ge (pc := 44) X 68 (by decide) dX6_clear_44 (fun _ => ?_) (fun _ => ?_)
      · exact x_sub [] rfl (hKK5  _)
      refine xr_aload_n (pc := 47) X (i := 0) 0 rfl rfl dX6_clear_47 ?_
      refine xr_iload_n (pc := 48) X (i := 2) 1 rfl rfl dX6_clear_48 ?_
      refine xr_iconst (pc := 49) X dX6_clear_49 (v := 1) (by decide) ?_
      refine xr_iconst (pc := 50) X dX6_clear_50 (v := 1) (by decide) ?_
      refine xr_callSV (na := 4) (pc := 51) X [.ref (ad aa1), .int zz6, .int 1, .int 1] (c_X6_lay Γ.2.1 hI nn1 aa1 hh1 zz6 1 1 σ7) (wG_S wm_6_8 wm_6_6 wm_6_7 wm_1_5) rfl rfl rfl (by decide +kernel) ⟨Nat.le_of_ble_eq_true rfl, Nat.le_of_ble_eq_true rfl⟩ rfl rfl (Nat.le_of_ble_eq_true rfl) ⟨Nat.le_of_ble_eq_true rfl, Nat.le_of_ble_eq_true rfl⟩ dX6_clear_51 (fun σ10 => ?_)
      refine xr_aload_n (pc := 54) X (i := 0) 0 rfl rfl dX6_clear_54 ?_
      refine xr_iload_n (pc := 55) X (i := 2) 1 rfl rfl dX6_clear_55 ?_
      refine xr_bipush (pc := 56) X dX6_clear_56 (v := 11) (by decide) ?_
      refine xr_iconst (pc := 58) X dX6_clear_58 (v := (-1)) (by decide) ?_
      refine xr_callSV (na := 4) (pc := 59) X [.ref (ad aa1), .int zz6, .int 11, .int ((-1))] (c_X6_lay Γ.2.1 hI nn1 aa1 hh1 zz6 11 ((-1)) σ10) (wG_S wm_6_8 wm_6_6 wm_6_7 wm_1_5) rfl rfl rfl (by decide +kernel) ⟨Nat.le_of_ble_eq_true rfl, Nat.le_of_ble_eq_true rfl⟩ rfl rfl (Nat.le_of_ble_eq_true rfl) ⟨Nat.le_of_ble_eq_true rfl, Nat.le_of_ble_eq_true rfl⟩ dX6_clear_59 (fun σ11 => ?_)
      refine xr_iinc (pc := 62) X (i := 2) (j := 1) [1, 0] (Nat.le_of_ble_eq_true rfl) hnL rfl rfl (fun zz12 => [(0, .ref (ad aa1)), (2, .int zz12)]) (fun _ => rfl) dX6_clear_62 (fun zz12 => ?_)
      refine xr_goto (pc := 65) X 42 (by decide) dX6_clear_65 ?_
      exact ihh9 _ _
  refine hLL13 _ (fun σ3 => ?_) _ _ _
  exact xr_vret (pc := 68) X (Nat.le_refl _) (Nat.le_refl _) dX6_clear_68
def F_X6_of (nn1 aa1 : Nat) (pp2 : Int32) (pp3 : Int32) (σ : xS) : Option (Int32 × xS) :=
  if xin ((31 + (39 * pp2)) + pp3) nn1 = true then (xlet (σ aa1 ((31 + (39 * pp2)) + pp3).toNatClampNeg) (fun (zz1 : Int32) => some (zz1, σ))) else none
abbrev rm_X6_of : Room := { frames := 0, cells := 0, slots := 0, locals := 0 }
set_option maxHeartbeats 4000000 in
set_option maxRecDepth 100000 in
theorem c_X6_of (l : Launch) {D : va_G} {ad : Nat → Nat} {N : Nat} {Sh : xSh} (hI : ∀ i j, i < N → j < N → ad i = ad j → i = j) (nn1 aa1 : Nat) (hh1 : xHas N Sh aa1 (shI D nn1)) (pp2 : Int32) (pp3 : Int32) (σ : xS) : xKI l yX6_of (Cond.code yX6_of cX6_of 3 (some .int) :: wG) rm_X6_of 0 0 D ad N Sh [.ref (ad aa1), .int pp2, .int pp3] σ (F_X6_of nn1 aa1 pp2 pp3 σ) := by
  refine x_startI (own := RX6) (maxL := 3) (by decide) rfl rfl (Nat.le_of_ble_eq_true rfl) rfl hI (fun Γ hl hnL X => ?_)
  subst hl
  unfold F_X6_of
  refine xr_aload_n (pc := 0) X (i := 0) 0 rfl rfl dX6_of_0 ?_
  refine xr_bipush (pc := 1) X dX6_of_1 (v := 31) (by decide) ?_
  refine xr_bipush (pc := 3) X dX6_of_3 (v := 39) (by decide) ?_
  refine xr_iload_n (pc := 5) X (i := 1) 1 rfl rfl dX6_of_5 ?_
  refine xr_imul (pc := 6) X dX6_of_6 ?_
  refine xr_iadd (pc := 7) X dX6_of_7 ?_
  refine xr_iload_n (pc := 8) X (i := 2) 2 rfl rfl dX6_of_8 ?_
  refine xr_iadd (pc := 9) X dX6_of_9 ?_
  refine xr_iald (pc := 10) X (aa1) (nn1) hh1.1 hh1.2 dX6_of_10 (fun zz1 => ?_)
  exact xr_iret (pc := 11) X (Nat.le_of_ble_eq_true rfl) (Nat.le_of_ble_eq_true rfl) dX6_of_11
def F_X6_isWriter (nn1 aa1 : Nat) (pp2 : Int32) (σ : xS) : Option (Int32 × xS) :=
  if xin (0 : Int32) nn1 = true then (xlet (σ aa1 (0 : Int32).toNatClampNeg) (fun (zz1 : Int32) => xbI (F_X6_in pp2.toInt64 0 ((zz1 - 1).toInt64) σ) (fun (zz3 : Int32) (σ2 : xS) => if vp_nar .boolean zz3 = zz3 then some (zz3, σ2) else none))) else none
abbrev rm_X6_isWriter : Room := { frames := 1, cells := 0, slots := 0, locals := 25 }
set_option maxHeartbeats 4000000 in
set_option maxRecDepth 100000 in
theorem c_X6_isWriter (l : Launch) {D : va_G} {ad : Nat → Nat} {N : Nat} {Sh : xSh} (hI : ∀ i j, i < N → j < N → ad i = ad j → i = j) (nn1 aa1 : Nat) (hh1 : xHas N Sh aa1 (shI D nn1)) (pp2 : Int32) (σ : xS) : xKI l yX6_isWriter (Cond.code yX6_isWriter cX6_isWriter 2 (some .boolean) :: wG) rm_X6_isWriter 0 0 D ad N Sh [.ref (ad aa1), .int pp2] σ (F_X6_isWriter nn1 aa1 pp2 σ) := by
  refine x_startI (own := RX6) (maxL := 2) (by decide) rfl rfl (Nat.le_of_ble_eq_true rfl) rfl hI (fun Γ hl hnL X => ?_)
  subst hl
  unfold F_X6_isWriter
  refine xr_iload_n (pc := 0) X (i := 1) 1 rfl rfl dX6_isWriter_0 ?_
  refine xr_i2l (pc := 1) X dX6_isWriter_1 ?_
  refine xr_lconst (pc := 2) X dX6_isWriter_2 (v := 0) rfl ?_
  refine xr_aload_n (pc := 3) X (i := 0) 0 rfl rfl dX6_isWriter_3 ?_
  refine xr_iconst (pc := 4) X dX6_isWriter_4 (v := 0) (by decide) ?_
  refine xr_iald (pc := 5) X (aa1) (nn1) hh1.1 hh1.2 dX6_isWriter_5 (fun zz1 => ?_)
  refine xr_iconst (pc := 6) X dX6_isWriter_6 (v := 1) (by decide) ?_
  refine xr_isub (pc := 7) X dX6_isWriter_7 ?_
  refine xr_i2l (pc := 8) X dX6_isWriter_8 ?_
  refine xr_callSI (na := 3) (pc := 9) X [.long pp2.toInt64, .long 0, .long ((zz1 - 1).toInt64)] (c_X6_in Γ.2.1 hI pp2.toInt64 0 ((zz1 - 1).toInt64) σ) (wG_S wm_8_1 wm_7_23 wm_8_0 wm_1_5) rfl rfl rfl (by decide +kernel) ⟨Nat.le_of_ble_eq_true rfl, Nat.le_of_ble_eq_true rfl⟩ rfl rfl (Nat.le_of_ble_eq_true rfl) ⟨Nat.le_of_ble_eq_true rfl, Nat.le_of_ble_eq_true rfl⟩ dX6_isWriter_9 (fun zz3 σ2 => ?_)
  exact xr_zretG (pc := 12) X (Nat.le_refl _) (Nat.le_refl _) dX6_isWriter_12
def F_X6_isNote (pp1 : Int32) (σ : xS) : Option (Int32 × xS) :=
  xbI (F_X6_in pp1.toInt64 1 500 σ) (fun (zz2 : Int32) (σ1 : xS) => if vp_nar .boolean zz2 = zz2 then some (zz2, σ1) else none)
abbrev rm_X6_isNote : Room := { frames := 1, cells := 0, slots := 0, locals := 25 }
set_option maxHeartbeats 4000000 in
set_option maxRecDepth 100000 in
theorem c_X6_isNote (l : Launch) {D : va_G} {ad : Nat → Nat} {N : Nat} {Sh : xSh} (hI : ∀ i j, i < N → j < N → ad i = ad j → i = j) (pp1 : Int32) (σ : xS) : xKI l yX6_isNote (Cond.code yX6_isNote cX6_isNote 1 (some .boolean) :: wG) rm_X6_isNote 0 0 D ad N Sh [.int pp1] σ (F_X6_isNote pp1 σ) := by
  refine x_startI (own := RX6) (maxL := 1) (by decide) rfl rfl (Nat.le_of_ble_eq_true rfl) rfl hI (fun Γ hl hnL X => ?_)
  subst hl
  unfold F_X6_isNote
  refine xr_iload_n (pc := 0) X (i := 0) 0 rfl rfl dX6_isNote_0 ?_
  refine xr_i2l (pc := 1) X dX6_isNote_1 ?_
  refine xr_lconst (pc := 2) X dX6_isNote_2 (v := 1) rfl ?_
  refine xr_ldc2 (pc := 3) X dX6_isNote_3 (List.mem_cons_of_mem _ wm_24_16) ?_
  refine xr_callSI (na := 3) (pc := 6) X [.long pp1.toInt64, .long 1, .long 500] (c_X6_in Γ.2.1 hI pp1.toInt64 1 500 σ) (wG_S wm_8_1 wm_7_23 wm_8_0 wm_1_5) rfl rfl rfl (by decide +kernel) ⟨Nat.le_of_ble_eq_true rfl, Nat.le_of_ble_eq_true rfl⟩ rfl rfl (Nat.le_of_ble_eq_true rfl) ⟨Nat.le_of_ble_eq_true rfl, Nat.le_of_ble_eq_true rfl⟩ dX6_isNote_6 (fun zz2 σ1 => ?_)
  exact xr_zretG (pc := 9) X (Nat.le_refl _) (Nat.le_refl _) dX6_isNote_9
def L_X6_sum_4 (nn1 : Nat) (aa1 : Nat) (pp2 : Int32) (KK3 : Int32 → xS → Option (Int32 × xS)) : Nat → Int32 → Int32 → xS → Option (Int32 × xS)
  | 0, _, _, _ => none
  | nn_8 + 1, zz5, zz6, σ7 => if xin (0 : Int32) nn1 = true then (xlet (σ7 aa1 (0 : Int32).toNatClampNeg) (fun (zz10 : Int32) => if zz10 ≤ zz6 then (KK3 zz5 σ7)
 else (xbI (F_X6_of nn1 aa1 zz6 pp2 σ7) (fun (zz12 : Int32) (σ11 : xS) => xlet (zz5 + zz12) (fun (zz13 : Int32) => xlet (zz6 + 1) (fun (zz14 : Int32) => L_X6_sum_4 nn1 aa1 pp2 KK3 nn_8 zz13 zz14 σ11)))))) else none
def F_X6_sum (nn1 aa1 : Nat) (pp2 : Int32) (σ : xS) : Option (Int32 × xS) :=
  L_X6_sum_4 nn1 aa1 pp2 (fun (zz1 : Int32) (σ2 : xS) => some (zz1, σ2)) 1000 0 0 σ
abbrev rm_X6_sum : Room := { frames := 1, cells := 0, slots := 0, locals := 22 }
set_option maxHeartbeats 4000000 in
set_option maxRecDepth 100000 in
theorem c_X6_sum (l : Launch) {D : va_G} {ad : Nat → Nat} {N : Nat} {Sh : xSh} (hI : ∀ i j, i < N → j < N → ad i = ad j → i = j) (nn1 aa1 : Nat) (hh1 : xHas N Sh aa1 (shI D nn1)) (pp2 : Int32) (σ : xS) : xKI l yX6_sum (Cond.code yX6_sum cX6_sum 4 (some .int) :: wG) rm_X6_sum 0 0 D ad N Sh [.ref (ad aa1), .int pp2] σ (F_X6_sum nn1 aa1 pp2 σ) := by
  refine x_startI (own := RX6) (maxL := 4) (by decide) rfl rfl (Nat.le_of_ble_eq_true rfl) rfl hI (fun Γ hl hnL X => ?_)
  subst hl
  unfold F_X6_sum
  refine xr_iconst (pc := 0) X dX6_sum_0 (v := 0) (by decide) ?_
  refine xr_istore_n (pc := 1) X (hf := rfl) (i := 2) [1, 2, 0] (Nat.le_of_ble_eq_true rfl) hnL rfl dX6_sum_1 ?_
  refine xr_iconst (pc := 2) X dX6_sum_2 (v := 0) (by decide) ?_
  refine xr_istore_n (pc := 3) X (hf := rfl) (i := 3) [1, 2, 3, 0] (Nat.le_of_ble_eq_true rfl) hnL rfl dX6_sum_3 ?_
  have hLL15 : ∀ (KK3 : Int32 → xS → Option (Int32 × xS)) (hKK4 : ∀ zz1 σ2, xM Γ D ad N Sh (xQI Γ D ad N Sh 0 0) 0 0 (KK3 zz1 σ2) σ2 26 [(2, .int zz1)] []), ∀ (nn_8 : Nat) zz5 zz6 σ7, xM Γ D ad N Sh (xQI Γ D ad N Sh 0 0) 0 0 (L_X6_sum_4 nn1 aa1 pp2 KK3 nn_8 zz5 zz6 σ7) σ7 4 [(0, .ref (ad aa1)), (1, .int pp2), (2, .int zz5), (3, .int zz6)] [] := by
    intro KK3 hKK4 nn_8
    induction nn_8 with
    | zero => intro zz5 zz6 σ7; exact xM_none
    | succ nn_8 ihh9 =>
      intro zz5 zz6 σ7
      rw [L_X6_sum_4]
      refine xr_iload_n (pc := 4) X (i := 3) 3 rfl rfl dX6_sum_4 ?_
      refine xr_aload_n (pc := 5) X (i := 0) 0 rfl rfl dX6_sum_5 ?_
      refine xr_iconst (pc := 6) X dX6_sum_6 (v := 0) (by decide) ?_
      refine xr_iald (pc := 7) X (aa1) (nn1) hh1.1 hh1.2 dX6_sum_7 (fun zz10 => ?_)
      refine xr_icmp_ge (pc := 8) X 26 (by decide) dX6_sum_8 (fun _ => ?_) (fun _ => ?_)
      · exact x_sub [2] rfl (hKK4 _ _)
      refine xr_iload_n (pc := 11) X (i := 2) 2 rfl rfl dX6_sum_11 ?_
      refine xr_aload_n (pc := 12) X (i := 0) 0 rfl rfl dX6_sum_12 ?_
      refine xr_iload_n (pc := 13) X (i := 3) 3 rfl rfl dX6_sum_13 ?_
      refine xr_iload_n (pc := 14) X (i := 1) 1 rfl rfl dX6_sum_14 ?_
      refine xr_callSI (na := 3) (pc := 15) X [.ref (ad aa1), .int zz6, .int pp2] (c_X6_of Γ.2.1 hI nn1 aa1 hh1 zz6 pp2 σ7) (wG_S wm_11_14 wm_11_12 wm_11_13 wm_1_5) rfl rfl rfl (by decide +kernel) ⟨Nat.le_of_ble_eq_true rfl, Nat.le_of_ble_eq_true rfl⟩ rfl rfl (Nat.le_of_ble_eq_true rfl) ⟨Nat.le_of_ble_eq_true rfl, Nat.le_of_ble_eq_true rfl⟩ dX6_sum_15 (fun zz12 σ11 => ?_)
      refine xr_iadd (pc := 18) X dX6_sum_18 ?_
      refine x_leti (fun zz13 => ?_)
      refine xr_istore_n (pc := 19) X (hf := rfl) (i := 2) [1, 2, 0, 3] (Nat.le_of_ble_eq_true rfl) hnL rfl dX6_sum_19 ?_
      refine xr_iinc (pc := 20) X (i := 3) (j := 3) [1, 2, 3, 0] (Nat.le_of_ble_eq_true rfl) hnL rfl rfl (fun zz14 => [(0, .ref (ad aa1)), (1, .int pp2), (2, .int zz13), (3, .int zz14)]) (fun _ => rfl) dX6_sum_20 (fun zz14 => ?_)
      refine xr_goto (pc := 23) X 4 (by decide) dX6_sum_23 ?_
      exact ihh9 _ _ _
  refine hLL15 _ (fun zz1 σ2 => ?_) _ _ _ _
  refine xr_iload_n (pc := 26) X (i := 2) 0 rfl rfl dX6_sum_26 ?_
  exact xr_iret (pc := 27) X (Nat.le_of_ble_eq_true rfl) (Nat.le_of_ble_eq_true rfl) dX6_sum_27
def F_X6_letterGoes (nn1 aa1 : Nat) (pp2 : Int32) (pp3 : Int32) (σ : xS) : Option xS :=
  if xin (1 : Int32) nn1 = true then (xlet (σ aa1 (1 : Int32).toNatClampNeg) (fun (zz1 : Int32) => if xin (3 : Int32) nn1 = true then (xlet (σ aa1 (3 : Int32).toNatClampNeg) (fun (zz2 : Int32) => xlet (zz1 + zz2) (fun (zz3 : Int32) => xbI (F_X6_of nn1 aa1 pp2 7 σ) (fun (zz5 : Int32) (σ4 : xS) => xjn (fun (zz6 : Int32) (σ7 : xS) => xbI (F_X6_of nn1 aa1 pp2 6 σ7) (fun (zz9 : Int32) (σ8 : xS) => xbV (F_X6_lay nn1 aa1 pp2 (15 + (2 * zz9)) pp3 σ8) (fun (σ10 : xS) => xbV (F_X6_lay nn1 aa1 pp2 ((15 + (2 * zz9)) + 1) zz6 σ10) (fun (σ11 : xS) => xbV (F_X6_lay nn1 aa1 pp2 6 (zz9 + 1) σ11) (fun (σ12 : xS) => xbV (F_X6_lay nn1 aa1 pp2 7 zz6 σ12) (fun (σ13 : xS) => xbI (F_X6_of nn1 aa1 pp2 3 σ13) (fun (zz15 : Int32) (σ14 : xS) => xbV (F_X6_lay nn1 aa1 pp2 3 (zz15 + 1) σ14) (fun (σ16 : xS) => xbI (F_X6_of nn1 aa1 pp2 0 σ16) (fun (zz18 : Int32) (σ17 : xS) => xbV (F_X6_lay nn1 aa1 pp2 0 (zz18 - pp3) σ17) (fun (σ19 : xS) => some σ19))))))))))
 (fun (KK20 : Int32 → xS → Option xS) => if zz5 ≤ zz3 then (KK20 zz3 σ4)
 else (xbI (F_X6_of nn1 aa1 pp2 7 σ4) (fun (zz23 : Int32) (σ22 : xS) => KK20 zz23 σ22))))))) else none)) else none
abbrev rm_X6_letterGoes : Room := { frames := 1, cells := 0, slots := 0, locals := 23 }
set_option maxHeartbeats 4000000 in
set_option maxRecDepth 100000 in
theorem c_X6_letterGoes (l : Launch) {D : va_G} {ad : Nat → Nat} {N : Nat} {Sh : xSh} (hI : ∀ i j, i < N → j < N → ad i = ad j → i = j) (nn1 aa1 : Nat) (hh1 : xHas N Sh aa1 (shI D nn1)) (pp2 : Int32) (pp3 : Int32) (σ : xS) : xKV l yX6_letterGoes (Cond.code yX6_letterGoes cX6_letterGoes 5 none :: wG) rm_X6_letterGoes 0 0 D ad N Sh [.ref (ad aa1), .int pp2, .int pp3] σ (F_X6_letterGoes nn1 aa1 pp2 pp3 σ) := by
  refine x_startV (own := RX6) (maxL := 5) (by decide) rfl rfl (Nat.le_of_ble_eq_true rfl) rfl hI (fun Γ hl hnL X => ?_)
  subst hl
  unfold F_X6_letterGoes
  refine xr_aload_n (pc := 0) X (i := 0) 0 rfl rfl dX6_letterGoes_0 ?_
  refine xr_iconst (pc := 1) X dX6_letterGoes_1 (v := 1) (by decide) ?_
  refine xr_iald (pc := 2) X (aa1) (nn1) hh1.1 hh1.2 dX6_letterGoes_2 (fun zz1 => ?_)
  refine xr_aload_n (pc := 3) X (i := 0) 0 rfl rfl dX6_letterGoes_3 ?_
  refine xr_iconst (pc := 4) X dX6_letterGoes_4 (v := 3) (by decide) ?_
  refine xr_iald (pc := 5) X (aa1) (nn1) hh1.1 hh1.2 dX6_letterGoes_5 (fun zz2 => ?_)
  refine xr_iadd (pc := 6) X dX6_letterGoes_6 ?_
  refine x_leti (fun zz3 => ?_)
  refine xr_istore_n (pc := 7) X (hf := rfl) (i := 3) [1, 2, 3, 0] (Nat.le_of_ble_eq_true rfl) hnL rfl dX6_letterGoes_7 ?_
  refine xr_iload_n (pc := 8) X (i := 3) 3 rfl rfl dX6_letterGoes_8 ?_
  refine xr_aload_n (pc := 9) X (i := 0) 0 rfl rfl dX6_letterGoes_9 ?_
  refine xr_iload_n (pc := 10) X (i := 1) 1 rfl rfl dX6_letterGoes_10 ?_
  refine xr_bipush (pc := 11) X dX6_letterGoes_11 (v := 7) (by decide) ?_
  refine xr_callSI (na := 3) (pc := 13) X [.ref (ad aa1), .int pp2, .int 7] (c_X6_of Γ.2.1 hI nn1 aa1 hh1 pp2 7 σ) (wG_S wm_11_14 wm_11_12 wm_11_13 wm_1_5) rfl rfl rfl (by decide +kernel) ⟨Nat.le_of_ble_eq_true rfl, Nat.le_of_ble_eq_true rfl⟩ rfl rfl (Nat.le_of_ble_eq_true rfl) ⟨Nat.le_of_ble_eq_true rfl, Nat.le_of_ble_eq_true rfl⟩ dX6_letterGoes_13 (fun zz5 σ4 => ?_)
  refine x_jn (fun (KK20 : Int32 → xS → Option xS) => ∀ zz6 σ7, xM Γ D ad N Sh (xQV Γ D ad N Sh 0 0) 0 0 (KK20 zz6 σ7) σ7 30 [(0, .ref (ad aa1)), (1, .int pp2), (2, .int pp3)] [.int zz6]) (fun zz6 σ7 => ?_) (fun KK20 hKK21 => ?_)
  · refine xr_istore_n (pc := 30) X (hf := rfl) (i := 3) [1, 2, 3, 0] (Nat.le_of_ble_eq_true rfl) hnL rfl dX6_letterGoes_30 ?_
    refine xr_aload_n (pc := 31) X (i := 0) 0 rfl rfl dX6_letterGoes_31 ?_
    refine xr_iload_n (pc := 32) X (i := 1) 1 rfl rfl dX6_letterGoes_32 ?_
    refine xr_bipush (pc := 33) X dX6_letterGoes_33 (v := 6) (by decide) ?_
    refine xr_callSI (na := 3) (pc := 35) X [.ref (ad aa1), .int pp2, .int 6] (c_X6_of Γ.2.1 hI nn1 aa1 hh1 pp2 6 σ7) (wG_S wm_11_14 wm_11_12 wm_11_13 wm_1_5) rfl rfl rfl (by decide +kernel) ⟨Nat.le_of_ble_eq_true rfl, Nat.le_of_ble_eq_true rfl⟩ rfl rfl (Nat.le_of_ble_eq_true rfl) ⟨Nat.le_of_ble_eq_true rfl, Nat.le_of_ble_eq_true rfl⟩ dX6_letterGoes_35 (fun zz9 σ8 => ?_)
    refine xr_istore (pc := 38) X (i := 4) [1, 2, 3, 4, 0] (Nat.le_of_ble_eq_true rfl) hnL rfl dX6_letterGoes_38 ?_
    refine xr_aload_n (pc := 40) X (i := 0) 0 rfl rfl dX6_letterGoes_40 ?_
    refine xr_iload_n (pc := 41) X (i := 1) 1 rfl rfl dX6_letterGoes_41 ?_
    refine xr_bipush (pc := 42) X dX6_letterGoes_42 (v := 15) (by decide) ?_
    refine xr_iconst (pc := 44) X dX6_letterGoes_44 (v := 2) (by decide) ?_
    refine xr_iload (pc := 45) X (i := 4) 4 rfl dX6_letterGoes_45 ?_
    refine xr_imul (pc := 47) X dX6_letterGoes_47 ?_
    refine xr_iadd (pc := 48) X dX6_letterGoes_48 ?_
    refine xr_iload_n (pc := 49) X (i := 2) 2 rfl rfl dX6_letterGoes_49 ?_
    refine xr_callSV (na := 4) (pc := 50) X [.ref (ad aa1), .int pp2, .int (15 + (2 * zz9)), .int pp3] (c_X6_lay Γ.2.1 hI nn1 aa1 hh1 pp2 (15 + (2 * zz9)) pp3 σ8) (wG_S wm_6_8 wm_6_6 wm_6_7 wm_1_5) rfl rfl rfl (by decide +kernel) ⟨Nat.le_of_ble_eq_true rfl, Nat.le_of_ble_eq_true rfl⟩ rfl rfl (Nat.le_of_ble_eq_true rfl) ⟨Nat.le_of_ble_eq_true rfl, Nat.le_of_ble_eq_true rfl⟩ dX6_letterGoes_50 (fun σ10 => ?_)
    refine xr_aload_n (pc := 53) X (i := 0) 0 rfl rfl dX6_letterGoes_53 ?_
    refine xr_iload_n (pc := 54) X (i := 1) 1 rfl rfl dX6_letterGoes_54 ?_
    refine xr_bipush (pc := 55) X dX6_letterGoes_55 (v := 15) (by decide) ?_
    refine xr_iconst (pc := 57) X dX6_letterGoes_57 (v := 2) (by decide) ?_
    refine xr_iload (pc := 58) X (i := 4) 4 rfl dX6_letterGoes_58 ?_
    refine xr_imul (pc := 60) X dX6_letterGoes_60 ?_
    refine xr_iadd (pc := 61) X dX6_letterGoes_61 ?_
    refine xr_iconst (pc := 62) X dX6_letterGoes_62 (v := 1) (by decide) ?_
    refine xr_iadd (pc := 63) X dX6_letterGoes_63 ?_
    refine xr_iload_n (pc := 64) X (i := 3) 3 rfl rfl dX6_letterGoes_64 ?_
    refine xr_callSV (na := 4) (pc := 65) X [.ref (ad aa1), .int pp2, .int ((15 + (2 * zz9)) + 1), .int zz6] (c_X6_lay Γ.2.1 hI nn1 aa1 hh1 pp2 ((15 + (2 * zz9)) + 1) zz6 σ10) (wG_S wm_6_8 wm_6_6 wm_6_7 wm_1_5) rfl rfl rfl (by decide +kernel) ⟨Nat.le_of_ble_eq_true rfl, Nat.le_of_ble_eq_true rfl⟩ rfl rfl (Nat.le_of_ble_eq_true rfl) ⟨Nat.le_of_ble_eq_true rfl, Nat.le_of_ble_eq_true rfl⟩ dX6_letterGoes_65 (fun σ11 => ?_)
    refine xr_aload_n (pc := 68) X (i := 0) 0 rfl rfl dX6_letterGoes_68 ?_
    refine xr_iload_n (pc := 69) X (i := 1) 1 rfl rfl dX6_letterGoes_69 ?_
    refine xr_bipush (pc := 70) X dX6_letterGoes_70 (v := 6) (by decide) ?_
    refine xr_iload (pc := 72) X (i := 4) 4 rfl dX6_letterGoes_72 ?_
    refine xr_iconst (pc := 74) X dX6_letterGoes_74 (v := 1) (by decide) ?_
    refine xr_iadd (pc := 75) X dX6_letterGoes_75 ?_
    refine xr_callSV (na := 4) (pc := 76) X [.ref (ad aa1), .int pp2, .int 6, .int (zz9 + 1)] (c_X6_lay Γ.2.1 hI nn1 aa1 hh1 pp2 6 (zz9 + 1) σ11) (wG_S wm_6_8 wm_6_6 wm_6_7 wm_1_5) rfl rfl rfl (by decide +kernel) ⟨Nat.le_of_ble_eq_true rfl, Nat.le_of_ble_eq_true rfl⟩ rfl rfl (Nat.le_of_ble_eq_true rfl) ⟨Nat.le_of_ble_eq_true rfl, Nat.le_of_ble_eq_true rfl⟩ dX6_letterGoes_76 (fun σ12 => ?_)
    refine xr_aload_n (pc := 79) X (i := 0) 0 rfl rfl dX6_letterGoes_79 ?_
    refine xr_iload_n (pc := 80) X (i := 1) 1 rfl rfl dX6_letterGoes_80 ?_
    refine xr_bipush (pc := 81) X dX6_letterGoes_81 (v := 7) (by decide) ?_
    refine xr_iload_n (pc := 83) X (i := 3) 3 rfl rfl dX6_letterGoes_83 ?_
    refine xr_callSV (na := 4) (pc := 84) X [.ref (ad aa1), .int pp2, .int 7, .int zz6] (c_X6_lay Γ.2.1 hI nn1 aa1 hh1 pp2 7 zz6 σ12) (wG_S wm_6_8 wm_6_6 wm_6_7 wm_1_5) rfl rfl rfl (by decide +kernel) ⟨Nat.le_of_ble_eq_true rfl, Nat.le_of_ble_eq_true rfl⟩ rfl rfl (Nat.le_of_ble_eq_true rfl) ⟨Nat.le_of_ble_eq_true rfl, Nat.le_of_ble_eq_true rfl⟩ dX6_letterGoes_84 (fun σ13 => ?_)
    refine xr_aload_n (pc := 87) X (i := 0) 0 rfl rfl dX6_letterGoes_87 ?_
    refine xr_iload_n (pc := 88) X (i := 1) 1 rfl rfl dX6_letterGoes_88 ?_
    refine xr_iconst (pc := 89) X dX6_letterGoes_89 (v := 3) (by decide) ?_
    refine xr_aload_n (pc := 90) X (i := 0) 0 rfl rfl dX6_letterGoes_90 ?_
    refine xr_iload_n (pc := 91) X (i := 1) 1 rfl rfl dX6_letterGoes_91 ?_
    refine xr_iconst (pc := 92) X dX6_letterGoes_92 (v := 3) (by decide) ?_
    refine xr_callSI (na := 3) (pc := 93) X [.ref (ad aa1), .int pp2, .int 3] (c_X6_of Γ.2.1 hI nn1 aa1 hh1 pp2 3 σ13) (wG_S wm_11_14 wm_11_12 wm_11_13 wm_1_5) rfl rfl rfl (by decide +kernel) ⟨Nat.le_of_ble_eq_true rfl, Nat.le_of_ble_eq_true rfl⟩ rfl rfl (Nat.le_of_ble_eq_true rfl) ⟨Nat.le_of_ble_eq_true rfl, Nat.le_of_ble_eq_true rfl⟩ dX6_letterGoes_93 (fun zz15 σ14 => ?_)
    refine xr_iconst (pc := 96) X dX6_letterGoes_96 (v := 1) (by decide) ?_
    refine xr_iadd (pc := 97) X dX6_letterGoes_97 ?_
    refine xr_callSV (na := 4) (pc := 98) X [.ref (ad aa1), .int pp2, .int 3, .int (zz15 + 1)] (c_X6_lay Γ.2.1 hI nn1 aa1 hh1 pp2 3 (zz15 + 1) σ14) (wG_S wm_6_8 wm_6_6 wm_6_7 wm_1_5) rfl rfl rfl (by decide +kernel) ⟨Nat.le_of_ble_eq_true rfl, Nat.le_of_ble_eq_true rfl⟩ rfl rfl (Nat.le_of_ble_eq_true rfl) ⟨Nat.le_of_ble_eq_true rfl, Nat.le_of_ble_eq_true rfl⟩ dX6_letterGoes_98 (fun σ16 => ?_)
    refine xr_aload_n (pc := 101) X (i := 0) 0 rfl rfl dX6_letterGoes_101 ?_
    refine xr_iload_n (pc := 102) X (i := 1) 1 rfl rfl dX6_letterGoes_102 ?_
    refine xr_iconst (pc := 103) X dX6_letterGoes_103 (v := 0) (by decide) ?_
    refine xr_aload_n (pc := 104) X (i := 0) 0 rfl rfl dX6_letterGoes_104 ?_
    refine xr_iload_n (pc := 105) X (i := 1) 1 rfl rfl dX6_letterGoes_105 ?_
    refine xr_iconst (pc := 106) X dX6_letterGoes_106 (v := 0) (by decide) ?_
    refine xr_callSI (na := 3) (pc := 107) X [.ref (ad aa1), .int pp2, .int 0] (c_X6_of Γ.2.1 hI nn1 aa1 hh1 pp2 0 σ16) (wG_S wm_11_14 wm_11_12 wm_11_13 wm_1_5) rfl rfl rfl (by decide +kernel) ⟨Nat.le_of_ble_eq_true rfl, Nat.le_of_ble_eq_true rfl⟩ rfl rfl (Nat.le_of_ble_eq_true rfl) ⟨Nat.le_of_ble_eq_true rfl, Nat.le_of_ble_eq_true rfl⟩ dX6_letterGoes_107 (fun zz18 σ17 => ?_)
    refine xr_iload_n (pc := 110) X (i := 2) 2 rfl rfl dX6_letterGoes_110 ?_
    refine xr_isub (pc := 111) X dX6_letterGoes_111 ?_
    refine xr_callSV (na := 4) (pc := 112) X [.ref (ad aa1), .int pp2, .int 0, .int (zz18 - pp3)] (c_X6_lay Γ.2.1 hI nn1 aa1 hh1 pp2 0 (zz18 - pp3) σ17) (wG_S wm_6_8 wm_6_6 wm_6_7 wm_1_5) rfl rfl rfl (by decide +kernel) ⟨Nat.le_of_ble_eq_true rfl, Nat.le_of_ble_eq_true rfl⟩ rfl rfl (Nat.le_of_ble_eq_true rfl) ⟨Nat.le_of_ble_eq_true rfl, Nat.le_of_ble_eq_true rfl⟩ dX6_letterGoes_112 (fun σ19 => ?_)
    exact xr_vret (pc := 115) X (Nat.le_refl _) (Nat.le_refl _) dX6_letterGoes_115
  refine xr_icmp_ge (pc := 16) X 29 (by decide) dX6_letterGoes_16 (fun _ => ?_) (fun _ => ?_)
  · refine xr_iload_n (pc := 29) X (i := 3) 3 rfl rfl dX6_letterGoes_29 ?_
    exact x_sub [0, 1, 2] rfl (hKK21 _ _)
  refine xr_aload_n (pc := 19) X (i := 0) 0 rfl rfl dX6_letterGoes_19 ?_
  refine xr_iload_n (pc := 20) X (i := 1) 1 rfl rfl dX6_letterGoes_20 ?_
  refine xr_bipush (pc := 21) X dX6_letterGoes_21 (v := 7) (by decide) ?_
  refine xr_callSI (na := 3) (pc := 23) X [.ref (ad aa1), .int pp2, .int 7] (c_X6_of Γ.2.1 hI nn1 aa1 hh1 pp2 7 σ4) (wG_S wm_11_14 wm_11_12 wm_11_13 wm_1_5) rfl rfl rfl (by decide +kernel) ⟨Nat.le_of_ble_eq_true rfl, Nat.le_of_ble_eq_true rfl⟩ rfl rfl (Nat.le_of_ble_eq_true rfl) ⟨Nat.le_of_ble_eq_true rfl, Nat.le_of_ble_eq_true rfl⟩ dX6_letterGoes_23 (fun zz23 σ22 => ?_)
  refine xr_goto (pc := 26) X 30 (by decide) dX6_letterGoes_26 ?_
  exact x_sub [0, 1, 2] rfl (hKK21 _ _)
def L_X6_sends_10 (nn1 : Nat) (aa1 : Nat) (pp2 : Int32) (pp3 : Int32) (KK6 : xS → Option (Int32 × xS)) : Nat → Int32 → xS → Option (Int32 × xS)
  | 0, _, _ => none
  | nn_10 + 1, zz8, σ9 => if zz8 = 0 then (KK6 σ9)
 else (xbI (F_X6_of nn1 aa1 pp2 0 σ9) (fun (zz13 : Int32) (σ12 : xS) => if zz13 ≤ 0 then (KK6 σ12)
 else (xbI (F_X6_of nn1 aa1 pp2 6 σ12) (fun (zz15 : Int32) (σ14 : xS) => if xin (6 : Int32) nn1 = true then (xlet (σ14 aa1 (6 : Int32).toNatClampNeg) (fun (zz16 : Int32) => if zz16 ≤ zz15 then (KK6 σ14)
 else (xbI (F_X6_of nn1 aa1 pp2 0 σ14) (fun (zz18 : Int32) (σ17 : xS) => if xin (5 : Int32) nn1 = true then (xlet (σ17 aa1 (5 : Int32).toNatClampNeg) (fun (zz19 : Int32) => xjn (fun (zz20 : Int32) (σ21 : xS) => xjn (fun (zz22 : Int32) (σ23 : xS) => if zz22 = 0 then (L_X6_sends_10 nn1 aa1 pp2 pp3 KK6 nn_10 zz22 σ23)
 else (if zz20 = 0 then (xbI (F_X6_of nn1 aa1 pp2 0 σ23) (fun (zz25 : Int32) (σ24 : xS) => xbV (F_X6_letterGoes nn1 aa1 pp2 zz25 σ24) (fun (σ26 : xS) => L_X6_sends_10 nn1 aa1 pp2 pp3 KK6 nn_10 zz22 σ26)))
 else (if xin (5 : Int32) nn1 = true then (xlet (σ23 aa1 (5 : Int32).toNatClampNeg) (fun (zz27 : Int32) => xbV (F_X6_letterGoes nn1 aa1 pp2 zz27 σ23) (fun (σ28 : xS) => L_X6_sends_10 nn1 aa1 pp2 pp3 KK6 nn_10 zz22 σ28))) else none)))
 (fun (KK29 : Int32 → xS → Option (Int32 × xS)) => xjn (fun (σ31 : xS) => KK29 1 σ31)
 (fun (KK32 : xS → Option (Int32 × xS)) => if ¬ zz20 = 0 then (KK32 σ21)
 else (if pp3 = 0 then (KK32 σ21)
 else (xbI (F_X6_of nn1 aa1 pp2 6 σ21) (fun (zz35 : Int32) (σ34 : xS) => if ¬ zz35 = 0 then (KK29 0 σ34)
 else (KK32 σ34)))))))
 (fun (KK36 : Int32 → xS → Option (Int32 × xS)) => if zz18 < zz19 then (KK36 0 σ17)
 else (KK36 1 σ17)))) else none)))) else none))))
def F_X6_sends (nn1 aa1 : Nat) (pp2 : Int32) (pp3 : Int32) (σ : xS) : Option (Int32 × xS) :=
  xbI (F_X6_of nn1 aa1 pp2 3 σ) (fun (zz2 : Int32) (σ1 : xS) => L_X6_sends_10 nn1 aa1 pp2 pp3 (fun (σ3 : xS) => xbI (F_X6_of nn1 aa1 pp2 3 σ3) (fun (zz5 : Int32) (σ4 : xS) => some ((zz5 - zz2), σ4))) 1000 1 σ1)
abbrev rm_X6_sends : Room := { frames := 2, cells := 0, slots := 0, locals := 47 }
set_option maxHeartbeats 4000000 in
set_option maxRecDepth 100000 in
theorem c_X6_sends (l : Launch) {D : va_G} {ad : Nat → Nat} {N : Nat} {Sh : xSh} (hI : ∀ i j, i < N → j < N → ad i = ad j → i = j) (nn1 aa1 : Nat) (hh1 : xHas N Sh aa1 (shI D nn1)) (pp2 : Int32) (pp3 : Int32) (σ : xS) : xKI l yX6_sends (Cond.code yX6_sends cX6_sends 6 (some .int) :: wG) rm_X6_sends 0 0 D ad N Sh [.ref (ad aa1), .int pp2, .int pp3] σ (F_X6_sends nn1 aa1 pp2 pp3 σ) := by
  refine x_startI (own := RX6) (maxL := 6) (by decide) rfl rfl (Nat.le_of_ble_eq_true rfl) rfl hI (fun Γ hl hnL X => ?_)
  subst hl
  unfold F_X6_sends
  refine xr_aload_n (pc := 0) X (i := 0) 0 rfl rfl dX6_sends_0 ?_
  refine xr_iload_n (pc := 1) X (i := 1) 1 rfl rfl dX6_sends_1 ?_
  refine xr_iconst (pc := 2) X dX6_sends_2 (v := 3) (by decide) ?_
  refine xr_callSI (na := 3) (pc := 3) X [.ref (ad aa1), .int pp2, .int 3] (c_X6_of Γ.2.1 hI nn1 aa1 hh1 pp2 3 σ) (wG_S wm_11_14 wm_11_12 wm_11_13 wm_1_5) rfl rfl rfl (by decide +kernel) ⟨Nat.le_of_ble_eq_true rfl, Nat.le_of_ble_eq_true rfl⟩ rfl rfl (Nat.le_of_ble_eq_true rfl) ⟨Nat.le_of_ble_eq_true rfl, Nat.le_of_ble_eq_true rfl⟩ dX6_sends_3 (fun zz2 σ1 => ?_)
  refine xr_istore_n (pc := 6) X (hf := rfl) (i := 3) [1, 2, 3, 0] (Nat.le_of_ble_eq_true rfl) hnL rfl dX6_sends_6 ?_
  refine xr_iconst (pc := 7) X dX6_sends_7 (v := 1) (by decide) ?_
  refine xr_istore (pc := 8) X (i := 4) [1, 2, 3, 4, 0] (Nat.le_of_ble_eq_true rfl) hnL rfl dX6_sends_8 ?_
  have hLL38 : ∀ (KK6 : xS → Option (Int32 × xS)) (hKK7 : ∀ σ3, xM Γ D ad N Sh (xQI Γ D ad N Sh 0 0) 0 0 (KK6 σ3) σ3 113 [(0, .ref (ad aa1)), (1, .int pp2), (3, .int zz2)] []), ∀ (nn_10 : Nat) zz8 σ9, xM Γ D ad N Sh (xQI Γ D ad N Sh 0 0) 0 0 (L_X6_sends_10 nn1 aa1 pp2 pp3 KK6 nn_10 zz8 σ9) σ9 10 [(0, .ref (ad aa1)), (1, .int pp2), (2, .int pp3), (3, .int zz2), (4, .int zz8)] [] := by
    intro KK6 hKK7 nn_10
    induction nn_10 with
    | zero => intro zz8 σ9; exact xM_none
    | succ nn_10 ihh11 =>
      intro zz8 σ9
      rw [L_X6_sends_10]
      refine xr_iload (pc := 10) X (i := 4) 4 rfl dX6_sends_10 ?_
      refine xr_if_eq (pc := 12) X 113 (by decide) dX6_sends_12 (fun _ => ?_) (fun _ => ?_)
      · exact x_sub [0, 1, 3] rfl (hKK7  _)
      refine xr_aload_n (pc := 15) X (i := 0) 0 rfl rfl dX6_sends_15 ?_
      refine xr_iload_n (pc := 16) X (i := 1) 1 rfl rfl dX6_sends_16 ?_
      refine xr_iconst (pc := 17) X dX6_sends_17 (v := 0) (by decide) ?_
      refine xr_callSI (na := 3) (pc := 18) X [.ref (ad aa1), .int pp2, .int 0] (c_X6_of Γ.2.1 hI nn1 aa1 hh1 pp2 0 σ9) (wG_S wm_11_14 wm_11_12 wm_11_13 wm_1_5) rfl rfl rfl (by decide +kernel) ⟨Nat.le_of_ble_eq_true rfl, Nat.le_of_ble_eq_true rfl⟩ rfl rfl (Nat.le_of_ble_eq_true rfl) ⟨Nat.le_of_ble_eq_true rfl, Nat.le_of_ble_eq_true rfl⟩ dX6_sends_18 (fun zz13 σ12 => ?_)
      refine xr_if_le (pc := 21) X 113 (by decide) dX6_sends_21 (fun _ => ?_) (fun _ => ?_)
      · exact x_sub [0, 1, 3] rfl (hKK7  _)
      refine xr_aload_n (pc := 24) X (i := 0) 0 rfl rfl dX6_sends_24 ?_
      refine xr_iload_n (pc := 25) X (i := 1) 1 rfl rfl dX6_sends_25 ?_
      refine xr_bipush (pc := 26) X dX6_sends_26 (v := 6) (by decide) ?_
      refine xr_callSI (na := 3) (pc := 28) X [.ref (ad aa1), .int pp2, .int 6] (c_X6_of Γ.2.1 hI nn1 aa1 hh1 pp2 6 σ12) (wG_S wm_11_14 wm_11_12 wm_11_13 wm_1_5) rfl rfl rfl (by decide +kernel) ⟨Nat.le_of_ble_eq_true rfl, Nat.le_of_ble_eq_true rfl⟩ rfl rfl (Nat.le_of_ble_eq_true rfl) ⟨Nat.le_of_ble_eq_true rfl, Nat.le_of_ble_eq_true rfl⟩ dX6_sends_28 (fun zz15 σ14 => ?_)
      refine xr_aload_n (pc := 31) X (i := 0) 0 rfl rfl dX6_sends_31 ?_
      refine xr_bipush (pc := 32) X dX6_sends_32 (v := 6) (by decide) ?_
      refine xr_iald (pc := 34) X (aa1) (nn1) hh1.1 hh1.2 dX6_sends_34 (fun zz16 => ?_)
      refine xr_icmp_ge (pc := 35) X 113 (by decide) dX6_sends_35 (fun _ => ?_) (fun _ => ?_)
      · exact x_sub [0, 1, 3] rfl (hKK7  _)
      refine xr_aload_n (pc := 38) X (i := 0) 0 rfl rfl dX6_sends_38 ?_
      refine xr_iload_n (pc := 39) X (i := 1) 1 rfl rfl dX6_sends_39 ?_
      refine xr_iconst (pc := 40) X dX6_sends_40 (v := 0) (by decide) ?_
      refine xr_callSI (na := 3) (pc := 41) X [.ref (ad aa1), .int pp2, .int 0] (c_X6_of Γ.2.1 hI nn1 aa1 hh1 pp2 0 σ14) (wG_S wm_11_14 wm_11_12 wm_11_13 wm_1_5) rfl rfl rfl (by decide +kernel) ⟨Nat.le_of_ble_eq_true rfl, Nat.le_of_ble_eq_true rfl⟩ rfl rfl (Nat.le_of_ble_eq_true rfl) ⟨Nat.le_of_ble_eq_true rfl, Nat.le_of_ble_eq_true rfl⟩ dX6_sends_41 (fun zz18 σ17 => ?_)
      refine xr_aload_n (pc := 44) X (i := 0) 0 rfl rfl dX6_sends_44 ?_
      refine xr_iconst (pc := 45) X dX6_sends_45 (v := 5) (by decide) ?_
      refine xr_iald (pc := 46) X (aa1) (nn1) hh1.1 hh1.2 dX6_sends_46 (fun zz19 => ?_)
      refine x_jn (fun (KK36 : Int32 → xS → Option (Int32 × xS)) => ∀ zz20 σ21, xM Γ D ad N Sh (xQI Γ D ad N Sh 0 0) 0 0 (KK36 zz20 σ21) σ21 55 [(0, .ref (ad aa1)), (1, .int pp2), (2, .int pp3), (3, .int zz2)] [.int zz20]) (fun zz20 σ21 => ?_) (fun KK36 hKK37 => ?_)
      · refine xr_istore (pc := 55) X (i := 5) [1, 2, 3, 4, 0] (Nat.le_of_ble_eq_true rfl) hnL rfl dX6_sends_55 ?_
        refine xr_iload (pc := 57) X (i := 5) 4 rfl dX6_sends_57 ?_
        refine x_jn (fun (KK29 : Int32 → xS → Option (Int32 × xS)) => ∀ zz22 σ23, xM Γ D ad N Sh (xQI Γ D ad N Sh 0 0) 0 0 (KK29 zz22 σ23) σ23 81 [(0, .ref (ad aa1)), (1, .int pp2), (2, .int pp3), (3, .int zz2), (5, .int zz20)] [.int zz22]) (fun zz22 σ23 => ?_) (fun KK29 hKK30 => ?_)
        · refine xr_istore (pc := 81) X (i := 4) [1, 2, 3, 4, 0, 5] (Nat.le_of_ble_eq_true rfl) hnL rfl dX6_sends_81 ?_
          refine xr_iload (pc := 83) X (i := 4) 4 rfl dX6_sends_83 ?_
          refine xr_if_eq (pc := 85) X 110 (by decide) dX6_sends_85 (fun _ => ?_) (fun _ => ?_)
          · refine xr_goto (pc := 110) X 10 (by decide) dX6_sends_110 ?_
            exact x_sub [0, 1, 2, 3, 4] rfl (ihh11 _ _)
          refine xr_aload_n (pc := 88) X (i := 0) 0 rfl rfl dX6_sends_88 ?_
          refine xr_iload_n (pc := 89) X (i := 1) 1 rfl rfl dX6_sends_89 ?_
          refine xr_iload (pc := 90) X (i := 5) 5 rfl dX6_sends_90 ?_
          refine xr_if_eq (pc := 92) X 101 (by decide) dX6_sends_92 (fun _ => ?_) (fun _ => ?_)
          · refine xr_aload_n (pc := 101) X (i := 0) 0 rfl rfl dX6_sends_101 ?_
            refine xr_iload_n (pc := 102) X (i := 1) 1 rfl rfl dX6_sends_102 ?_
            refine xr_iconst (pc := 103) X dX6_sends_103 (v := 0) (by decide) ?_
            refine xr_callSI (na := 3) (pc := 104) X [.ref (ad aa1), .int pp2, .int 0] (c_X6_of Γ.2.1 hI nn1 aa1 hh1 pp2 0 σ23) (wG_S wm_11_14 wm_11_12 wm_11_13 wm_1_5) rfl rfl rfl (by decide +kernel) ⟨Nat.le_of_ble_eq_true rfl, Nat.le_of_ble_eq_true rfl⟩ rfl rfl (Nat.le_of_ble_eq_true rfl) ⟨Nat.le_of_ble_eq_true rfl, Nat.le_of_ble_eq_true rfl⟩ dX6_sends_104 (fun zz25 σ24 => ?_)
            refine xr_callSV (na := 3) (pc := 107) X [.ref (ad aa1), .int pp2, .int zz25] (c_X6_letterGoes Γ.2.1 hI nn1 aa1 hh1 pp2 zz25 σ24) (wG_S wm_12_2 wm_12_0 wm_12_1 wm_1_5) rfl rfl rfl (by decide +kernel) ⟨Nat.le_of_ble_eq_true rfl, Nat.le_of_ble_eq_true rfl⟩ rfl rfl (Nat.le_of_ble_eq_true rfl) ⟨Nat.le_of_ble_eq_true rfl, Nat.le_of_ble_eq_true rfl⟩ dX6_sends_107 (fun σ26 => ?_)
            refine xr_goto (pc := 110) X 10 (by decide) dX6_sends_110 ?_
            exact x_sub [0, 1, 2, 3, 4] rfl (ihh11 _ _)
          refine xr_aload_n (pc := 95) X (i := 0) 0 rfl rfl dX6_sends_95 ?_
          refine xr_iconst (pc := 96) X dX6_sends_96 (v := 5) (by decide) ?_
          refine xr_iald (pc := 97) X (aa1) (nn1) hh1.1 hh1.2 dX6_sends_97 (fun zz27 => ?_)
          refine xr_goto (pc := 98) X 107 (by decide) dX6_sends_98 ?_
          refine xr_callSV (na := 3) (pc := 107) X [.ref (ad aa1), .int pp2, .int zz27] (c_X6_letterGoes Γ.2.1 hI nn1 aa1 hh1 pp2 zz27 σ23) (wG_S wm_12_2 wm_12_0 wm_12_1 wm_1_5) rfl rfl rfl (by decide +kernel) ⟨Nat.le_of_ble_eq_true rfl, Nat.le_of_ble_eq_true rfl⟩ rfl rfl (Nat.le_of_ble_eq_true rfl) ⟨Nat.le_of_ble_eq_true rfl, Nat.le_of_ble_eq_true rfl⟩ dX6_sends_107 (fun σ28 => ?_)
          refine xr_goto (pc := 110) X 10 (by decide) dX6_sends_110 ?_
          exact x_sub [0, 1, 2, 3, 4] rfl (ihh11 _ _)
        refine x_jn (fun (KK32 : xS → Option (Int32 × xS)) => ∀ σ31, xM Γ D ad N Sh (xQI Γ D ad N Sh 0 0) 0 0 (KK32 σ31) σ31 76 [(0, .ref (ad aa1)), (1, .int pp2), (2, .int pp3), (3, .int zz2), (5, .int zz20)] []) (fun σ31 => ?_) (fun KK32 hKK33 => ?_)
        · refine xr_iconst (pc := 76) X dX6_sends_76 (v := 1) (by decide) ?_
          refine xr_goto (pc := 77) X 81 (by decide) dX6_sends_77 ?_
          exact hKK30 _ _
        refine xr_if_ne (pc := 59) X 76 (by decide) dX6_sends_59 (fun _ => ?_) (fun _ => ?_)
        · exact hKK33  _
        refine xr_iload_n (pc := 62) X (i := 2) 2 rfl rfl dX6_sends_62 ?_
        refine xr_if_eq (pc := 63) X 76 (by decide) dX6_sends_63 (fun _ => ?_) (fun _ => ?_)
        · exact hKK33  _
        refine xr_aload_n (pc := 66) X (i := 0) 0 rfl rfl dX6_sends_66 ?_
        refine xr_iload_n (pc := 67) X (i := 1) 1 rfl rfl dX6_sends_67 ?_
        refine xr_bipush (pc := 68) X dX6_sends_68 (v := 6) (by decide) ?_
        refine xr_callSI (na := 3) (pc := 70) X [.ref (ad aa1), .int pp2, .int 6] (c_X6_of Γ.2.1 hI nn1 aa1 hh1 pp2 6 σ21) (wG_S wm_11_14 wm_11_12 wm_11_13 wm_1_5) rfl rfl rfl (by decide +kernel) ⟨Nat.le_of_ble_eq_true rfl, Nat.le_of_ble_eq_true rfl⟩ rfl rfl (Nat.le_of_ble_eq_true rfl) ⟨Nat.le_of_ble_eq_true rfl, Nat.le_of_ble_eq_true rfl⟩ dX6_sends_70 (fun zz35 σ34 => ?_)
        refine xr_if_ne (pc := 73) X 80 (by decide) dX6_sends_73 (fun _ => ?_) (fun _ => ?_)
        · refine xr_iconst (pc := 80) X dX6_sends_80 (v := 0) (by decide) ?_
          exact hKK30 _ _
        exact hKK33  _
      refine xr_icmp_lt (pc := 47) X 54 (by decide) dX6_sends_47 (fun _ => ?_) (fun _ => ?_)
      · refine xr_iconst (pc := 54) X dX6_sends_54 (v := 0) (by decide) ?_
        exact x_sub [0, 1, 2, 3] rfl (hKK37 _ _)
      refine xr_iconst (pc := 50) X dX6_sends_50 (v := 1) (by decide) ?_
      refine xr_goto (pc := 51) X 55 (by decide) dX6_sends_51 ?_
      exact x_sub [0, 1, 2, 3] rfl (hKK37 _ _)
  refine hLL38 _ (fun σ3 => ?_) _ _ _
  refine xr_aload_n (pc := 113) X (i := 0) 0 rfl rfl dX6_sends_113 ?_
  refine xr_iload_n (pc := 114) X (i := 1) 1 rfl rfl dX6_sends_114 ?_
  refine xr_iconst (pc := 115) X dX6_sends_115 (v := 3) (by decide) ?_
  refine xr_callSI (na := 3) (pc := 116) X [.ref (ad aa1), .int pp2, .int 3] (c_X6_of Γ.2.1 hI nn1 aa1 hh1 pp2 3 σ3) (wG_S wm_11_14 wm_11_12 wm_11_13 wm_1_5) rfl rfl rfl (by decide +kernel) ⟨Nat.le_of_ble_eq_true rfl, Nat.le_of_ble_eq_true rfl⟩ rfl rfl (Nat.le_of_ble_eq_true rfl) ⟨Nat.le_of_ble_eq_true rfl, Nat.le_of_ble_eq_true rfl⟩ dX6_sends_116 (fun zz5 σ4 => ?_)
  refine xr_iload_n (pc := 119) X (i := 3) 2 rfl rfl dX6_sends_119 ?_
  refine xr_isub (pc := 120) X dX6_sends_120 ?_
  exact xr_iret (pc := 121) X (Nat.le_of_ble_eq_true rfl) (Nat.le_of_ble_eq_true rfl) dX6_sends_121
def F_X6_sendsAsItDoes (nn1 aa1 : Nat) (pp2 : Int32) (σ : xS) : Option (Int32 × xS) :=
  xbI (F_X6_of nn1 aa1 pp2 1 σ) (fun (zz2 : Int32) (σ1 : xS) => if ¬ zz2 = 1 then (xbI (F_X6_sends nn1 aa1 pp2 0 σ1) (fun (zz4 : Int32) (σ3 : xS) => some (zz4, σ3)))
 else (xbI (F_X6_sends nn1 aa1 pp2 1 σ1) (fun (zz6 : Int32) (σ5 : xS) => some (zz6, σ5))))
abbrev rm_X6_sendsAsItDoes : Room := { frames := 3, cells := 0, slots := 0, locals := 72 }
set_option maxHeartbeats 4000000 in
set_option maxRecDepth 100000 in
theorem c_X6_sendsAsItDoes (l : Launch) {D : va_G} {ad : Nat → Nat} {N : Nat} {Sh : xSh} (hI : ∀ i j, i < N → j < N → ad i = ad j → i = j) (nn1 aa1 : Nat) (hh1 : xHas N Sh aa1 (shI D nn1)) (pp2 : Int32) (σ : xS) : xKI l yX6_sendsAsItDoes (Cond.code yX6_sendsAsItDoes cX6_sendsAsItDoes 2 (some .int) :: wG) rm_X6_sendsAsItDoes 0 0 D ad N Sh [.ref (ad aa1), .int pp2] σ (F_X6_sendsAsItDoes nn1 aa1 pp2 σ) := by
  refine x_startI (own := RX6) (maxL := 2) (by decide) rfl rfl (Nat.le_of_ble_eq_true rfl) rfl hI (fun Γ hl hnL X => ?_)
  subst hl
  unfold F_X6_sendsAsItDoes
  refine xr_aload_n (pc := 0) X (i := 0) 0 rfl rfl dX6_sendsAsItDoes_0 ?_
  refine xr_iload_n (pc := 1) X (i := 1) 1 rfl rfl dX6_sendsAsItDoes_1 ?_
  refine xr_aload_n (pc := 2) X (i := 0) 0 rfl rfl dX6_sendsAsItDoes_2 ?_
  refine xr_iload_n (pc := 3) X (i := 1) 1 rfl rfl dX6_sendsAsItDoes_3 ?_
  refine xr_iconst (pc := 4) X dX6_sendsAsItDoes_4 (v := 1) (by decide) ?_
  refine xr_callSI (na := 3) (pc := 5) X [.ref (ad aa1), .int pp2, .int 1] (c_X6_of Γ.2.1 hI nn1 aa1 hh1 pp2 1 σ) (wG_S wm_11_14 wm_11_12 wm_11_13 wm_1_5) rfl rfl rfl (by decide +kernel) ⟨Nat.le_of_ble_eq_true rfl, Nat.le_of_ble_eq_true rfl⟩ rfl rfl (Nat.le_of_ble_eq_true rfl) ⟨Nat.le_of_ble_eq_true rfl, Nat.le_of_ble_eq_true rfl⟩ dX6_sendsAsItDoes_5 (fun zz2 σ1 => ?_)
  refine xr_iconst (pc := 8) X dX6_sendsAsItDoes_8 (v := 1) (by decide) ?_
  refine xr_icmp_ne (pc := 9) X 16 (by decide) dX6_sendsAsItDoes_9 (fun _ => ?_) (fun _ => ?_)
  · refine xr_iconst (pc := 16) X dX6_sendsAsItDoes_16 (v := 0) (by decide) ?_
    refine xr_callSI (na := 3) (pc := 17) X [.ref (ad aa1), .int pp2, .int 0] (c_X6_sends Γ.2.1 hI nn1 aa1 hh1 pp2 0 σ1) (wG_S wm_11_23 wm_11_21 wm_11_22 wm_1_5) rfl rfl rfl (by decide +kernel) ⟨Nat.le_of_ble_eq_true rfl, Nat.le_of_ble_eq_true rfl⟩ rfl rfl (Nat.le_of_ble_eq_true rfl) ⟨Nat.le_of_ble_eq_true rfl, Nat.le_of_ble_eq_true rfl⟩ dX6_sendsAsItDoes_17 (fun zz4 σ3 => ?_)
    exact xr_iret (pc := 20) X (Nat.le_of_ble_eq_true rfl) (Nat.le_of_ble_eq_true rfl) dX6_sendsAsItDoes_20
  refine xr_iconst (pc := 12) X dX6_sendsAsItDoes_12 (v := 1) (by decide) ?_
  refine xr_goto (pc := 13) X 17 (by decide) dX6_sendsAsItDoes_13 ?_
  refine xr_callSI (na := 3) (pc := 17) X [.ref (ad aa1), .int pp2, .int 1] (c_X6_sends Γ.2.1 hI nn1 aa1 hh1 pp2 1 σ1) (wG_S wm_11_23 wm_11_21 wm_11_22 wm_1_5) rfl rfl rfl (by decide +kernel) ⟨Nat.le_of_ble_eq_true rfl, Nat.le_of_ble_eq_true rfl⟩ rfl rfl (Nat.le_of_ble_eq_true rfl) ⟨Nat.le_of_ble_eq_true rfl, Nat.le_of_ble_eq_true rfl⟩ dX6_sendsAsItDoes_17 (fun zz6 σ5 => ?_)
  exact xr_iret (pc := 20) X (Nat.le_of_ble_eq_true rfl) (Nat.le_of_ble_eq_true rfl) dX6_sendsAsItDoes_20
def F_X6_canWrite (nn1 aa1 : Nat) (pp2 : Int32) (pp3 : Int32) (σ : xS) : Option (Int32 × xS) :=
  xbI (F_X6_of nn1 aa1 pp2 0 σ) (fun (zz2 : Int32) (σ1 : xS) => if 9999 < (zz2 + pp3) then (some ((0 : Int32), σ1))
 else (some ((1 : Int32), σ1)))
abbrev rm_X6_canWrite : Room := { frames := 1, cells := 0, slots := 0, locals := 22 }
set_option maxHeartbeats 4000000 in
set_option maxRecDepth 100000 in
theorem c_X6_canWrite (l : Launch) {D : va_G} {ad : Nat → Nat} {N : Nat} {Sh : xSh} (hI : ∀ i j, i < N → j < N → ad i = ad j → i = j) (nn1 aa1 : Nat) (hh1 : xHas N Sh aa1 (shI D nn1)) (pp2 : Int32) (pp3 : Int32) (σ : xS) : xKI l yX6_canWrite (Cond.code yX6_canWrite cX6_canWrite 3 (some .boolean) :: wG) rm_X6_canWrite 0 0 D ad N Sh [.ref (ad aa1), .int pp2, .int pp3] σ (F_X6_canWrite nn1 aa1 pp2 pp3 σ) := by
  refine x_startI (own := RX6) (maxL := 3) (by decide) rfl rfl (Nat.le_of_ble_eq_true rfl) rfl hI (fun Γ hl hnL X => ?_)
  subst hl
  unfold F_X6_canWrite
  refine xr_aload_n (pc := 0) X (i := 0) 0 rfl rfl dX6_canWrite_0 ?_
  refine xr_iload_n (pc := 1) X (i := 1) 1 rfl rfl dX6_canWrite_1 ?_
  refine xr_iconst (pc := 2) X dX6_canWrite_2 (v := 0) (by decide) ?_
  refine xr_callSI (na := 3) (pc := 3) X [.ref (ad aa1), .int pp2, .int 0] (c_X6_of Γ.2.1 hI nn1 aa1 hh1 pp2 0 σ) (wG_S wm_11_14 wm_11_12 wm_11_13 wm_1_5) rfl rfl rfl (by decide +kernel) ⟨Nat.le_of_ble_eq_true rfl, Nat.le_of_ble_eq_true rfl⟩ rfl rfl (Nat.le_of_ble_eq_true rfl) ⟨Nat.le_of_ble_eq_true rfl, Nat.le_of_ble_eq_true rfl⟩ dX6_canWrite_3 (fun zz2 σ1 => ?_)
  refine xr_iload_n (pc := 6) X (i := 2) 2 rfl rfl dX6_canWrite_6 ?_
  refine xr_iadd (pc := 7) X dX6_canWrite_7 ?_
  refine xr_sipush (pc := 8) X dX6_canWrite_8 (v := 9999) (by decide) ?_
  refine xr_icmp_gt (pc := 11) X 18 (by decide) dX6_canWrite_11 (fun _ => ?_) (fun _ => ?_)
  · refine xr_iconst (pc := 18) X dX6_canWrite_18 (v := 0) (by decide) ?_
    exact xr_zret (pc := 19) X rfl (Nat.le_refl _) (Nat.le_refl _) dX6_canWrite_19
  refine xr_iconst (pc := 14) X dX6_canWrite_14 (v := 1) (by decide) ?_
  refine xr_goto (pc := 15) X 19 (by decide) dX6_canWrite_15 ?_
  exact xr_zret (pc := 19) X rfl (Nat.le_refl _) (Nat.le_refl _) dX6_canWrite_19
def F_X6_writeOn (nn1 aa1 : Nat) (pp2 : Int32) (pp3 : Int32) (σ : xS) : Option (Int32 × xS) :=
  xbI (F_X6_of nn1 aa1 pp2 0 σ) (fun (zz2 : Int32) (σ1 : xS) => xbV (F_X6_lay nn1 aa1 pp2 0 (zz2 + pp3) σ1) (fun (σ3 : xS) => xbI (F_X6_of nn1 aa1 pp2 2 σ3) (fun (zz5 : Int32) (σ4 : xS) => xbV (F_X6_lay nn1 aa1 pp2 2 (zz5 + pp3) σ4) (fun (σ6 : xS) => xbI (F_X6_sendsAsItDoes nn1 aa1 pp2 σ6) (fun (zz8 : Int32) (σ7 : xS) => some (zz8, σ7))))))
abbrev rm_X6_writeOn : Room := { frames := 4, cells := 0, slots := 0, locals := 93 }
set_option maxHeartbeats 4000000 in
set_option maxRecDepth 100000 in
theorem c_X6_writeOn (l : Launch) {D : va_G} {ad : Nat → Nat} {N : Nat} {Sh : xSh} (hI : ∀ i j, i < N → j < N → ad i = ad j → i = j) (nn1 aa1 : Nat) (hh1 : xHas N Sh aa1 (shI D nn1)) (pp2 : Int32) (pp3 : Int32) (σ : xS) : xKI l yX6_writeOn (Cond.code yX6_writeOn cX6_writeOn 3 (some .int) :: wG) rm_X6_writeOn 0 0 D ad N Sh [.ref (ad aa1), .int pp2, .int pp3] σ (F_X6_writeOn nn1 aa1 pp2 pp3 σ) := by
  refine x_startI (own := RX6) (maxL := 3) (by decide) rfl rfl (Nat.le_of_ble_eq_true rfl) rfl hI (fun Γ hl hnL X => ?_)
  subst hl
  unfold F_X6_writeOn
  refine xr_aload_n (pc := 0) X (i := 0) 0 rfl rfl dX6_writeOn_0 ?_
  refine xr_iload_n (pc := 1) X (i := 1) 1 rfl rfl dX6_writeOn_1 ?_
  refine xr_iconst (pc := 2) X dX6_writeOn_2 (v := 0) (by decide) ?_
  refine xr_aload_n (pc := 3) X (i := 0) 0 rfl rfl dX6_writeOn_3 ?_
  refine xr_iload_n (pc := 4) X (i := 1) 1 rfl rfl dX6_writeOn_4 ?_
  refine xr_iconst (pc := 5) X dX6_writeOn_5 (v := 0) (by decide) ?_
  refine xr_callSI (na := 3) (pc := 6) X [.ref (ad aa1), .int pp2, .int 0] (c_X6_of Γ.2.1 hI nn1 aa1 hh1 pp2 0 σ) (wG_S wm_11_14 wm_11_12 wm_11_13 wm_1_5) rfl rfl rfl (by decide +kernel) ⟨Nat.le_of_ble_eq_true rfl, Nat.le_of_ble_eq_true rfl⟩ rfl rfl (Nat.le_of_ble_eq_true rfl) ⟨Nat.le_of_ble_eq_true rfl, Nat.le_of_ble_eq_true rfl⟩ dX6_writeOn_6 (fun zz2 σ1 => ?_)
  refine xr_iload_n (pc := 9) X (i := 2) 2 rfl rfl dX6_writeOn_9 ?_
  refine xr_iadd (pc := 10) X dX6_writeOn_10 ?_
  refine xr_callSV (na := 4) (pc := 11) X [.ref (ad aa1), .int pp2, .int 0, .int (zz2 + pp3)] (c_X6_lay Γ.2.1 hI nn1 aa1 hh1 pp2 0 (zz2 + pp3) σ1) (wG_S wm_6_8 wm_6_6 wm_6_7 wm_1_5) rfl rfl rfl (by decide +kernel) ⟨Nat.le_of_ble_eq_true rfl, Nat.le_of_ble_eq_true rfl⟩ rfl rfl (Nat.le_of_ble_eq_true rfl) ⟨Nat.le_of_ble_eq_true rfl, Nat.le_of_ble_eq_true rfl⟩ dX6_writeOn_11 (fun σ3 => ?_)
  refine xr_aload_n (pc := 14) X (i := 0) 0 rfl rfl dX6_writeOn_14 ?_
  refine xr_iload_n (pc := 15) X (i := 1) 1 rfl rfl dX6_writeOn_15 ?_
  refine xr_iconst (pc := 16) X dX6_writeOn_16 (v := 2) (by decide) ?_
  refine xr_aload_n (pc := 17) X (i := 0) 0 rfl rfl dX6_writeOn_17 ?_
  refine xr_iload_n (pc := 18) X (i := 1) 1 rfl rfl dX6_writeOn_18 ?_
  refine xr_iconst (pc := 19) X dX6_writeOn_19 (v := 2) (by decide) ?_
  refine xr_callSI (na := 3) (pc := 20) X [.ref (ad aa1), .int pp2, .int 2] (c_X6_of Γ.2.1 hI nn1 aa1 hh1 pp2 2 σ3) (wG_S wm_11_14 wm_11_12 wm_11_13 wm_1_5) rfl rfl rfl (by decide +kernel) ⟨Nat.le_of_ble_eq_true rfl, Nat.le_of_ble_eq_true rfl⟩ rfl rfl (Nat.le_of_ble_eq_true rfl) ⟨Nat.le_of_ble_eq_true rfl, Nat.le_of_ble_eq_true rfl⟩ dX6_writeOn_20 (fun zz5 σ4 => ?_)
  refine xr_iload_n (pc := 23) X (i := 2) 2 rfl rfl dX6_writeOn_23 ?_
  refine xr_iadd (pc := 24) X dX6_writeOn_24 ?_
  refine xr_callSV (na := 4) (pc := 25) X [.ref (ad aa1), .int pp2, .int 2, .int (zz5 + pp3)] (c_X6_lay Γ.2.1 hI nn1 aa1 hh1 pp2 2 (zz5 + pp3) σ4) (wG_S wm_6_8 wm_6_6 wm_6_7 wm_1_5) rfl rfl rfl (by decide +kernel) ⟨Nat.le_of_ble_eq_true rfl, Nat.le_of_ble_eq_true rfl⟩ rfl rfl (Nat.le_of_ble_eq_true rfl) ⟨Nat.le_of_ble_eq_true rfl, Nat.le_of_ble_eq_true rfl⟩ dX6_writeOn_25 (fun σ6 => ?_)
  refine xr_aload_n (pc := 28) X (i := 0) 0 rfl rfl dX6_writeOn_28 ?_
  refine xr_iload_n (pc := 29) X (i := 1) 1 rfl rfl dX6_writeOn_29 ?_
  refine xr_callSI (na := 2) (pc := 30) X [.ref (ad aa1), .int pp2] (c_X6_sendsAsItDoes Γ.2.1 hI nn1 aa1 hh1 pp2 σ6) (wG_S wm_11_20 wm_11_18 wm_11_19 wm_1_5) rfl rfl rfl (by decide +kernel) ⟨Nat.le_of_ble_eq_true rfl, Nat.le_of_ble_eq_true rfl⟩ rfl rfl (Nat.le_of_ble_eq_true rfl) ⟨Nat.le_of_ble_eq_true rfl, Nat.le_of_ble_eq_true rfl⟩ dX6_writeOn_30 (fun zz8 σ7 => ?_)
  exact xr_iret (pc := 33) X (Nat.le_of_ble_eq_true rfl) (Nat.le_of_ble_eq_true rfl) dX6_writeOn_33
def F_X6_answers (nn1 aa1 : Nat) (pp2 : Int32) (σ : xS) : Option xS :=
  if xin (1 : Int32) nn1 = true then (xlet (σ aa1 (1 : Int32).toNatClampNeg) (fun (zz1 : Int32) => if xin (3 : Int32) nn1 = true then (xlet (σ aa1 (3 : Int32).toNatClampNeg) (fun (zz2 : Int32) => xlet (zz1 + zz2) (fun (zz3 : Int32) => xbI (F_X6_of nn1 aa1 pp2 14 σ) (fun (zz5 : Int32) (σ4 : xS) => xjn (fun (zz6 : Int32) (σ7 : xS) => xbI (F_X6_of nn1 aa1 pp2 13 σ7) (fun (zz9 : Int32) (σ8 : xS) => xbV (F_X6_lay nn1 aa1 pp2 (27 + zz9) zz6 σ8) (fun (σ10 : xS) => xbI (F_X6_of nn1 aa1 pp2 9 σ10) (fun (zz12 : Int32) (σ11 : xS) => xbV (F_X6_lay nn1 aa1 pp2 (33 + zz9) zz12 σ11) (fun (σ13 : xS) => xbV (F_X6_lay nn1 aa1 pp2 13 (zz9 + 1) σ13) (fun (σ14 : xS) => xbV (F_X6_lay nn1 aa1 pp2 14 zz6 σ14) (fun (σ15 : xS) => xbI (F_X6_of nn1 aa1 pp2 12 σ15) (fun (zz17 : Int32) (σ16 : xS) => xbV (F_X6_lay nn1 aa1 pp2 12 (zz17 + 1) σ16) (fun (σ18 : xS) => xbV (F_X6_lay nn1 aa1 pp2 10 0 σ18) (fun (σ19 : xS) => xbV (F_X6_lay nn1 aa1 pp2 11 ((-1)) σ19) (fun (σ20 : xS) => some σ20)))))))))))
 (fun (KK21 : Int32 → xS → Option xS) => if zz5 ≤ zz3 then (KK21 zz3 σ4)
 else (xbI (F_X6_of nn1 aa1 pp2 14 σ4) (fun (zz24 : Int32) (σ23 : xS) => KK21 zz24 σ23))))))) else none)) else none
abbrev rm_X6_answers : Room := { frames := 1, cells := 0, slots := 0, locals := 23 }
set_option maxHeartbeats 4000000 in
set_option maxRecDepth 100000 in
theorem c_X6_answers (l : Launch) {D : va_G} {ad : Nat → Nat} {N : Nat} {Sh : xSh} (hI : ∀ i j, i < N → j < N → ad i = ad j → i = j) (nn1 aa1 : Nat) (hh1 : xHas N Sh aa1 (shI D nn1)) (pp2 : Int32) (σ : xS) : xKV l yX6_answers (Cond.code yX6_answers cX6_answers 4 none :: wG) rm_X6_answers 0 0 D ad N Sh [.ref (ad aa1), .int pp2] σ (F_X6_answers nn1 aa1 pp2 σ) := by
  refine x_startV (own := RX6) (maxL := 4) (by decide) rfl rfl (Nat.le_of_ble_eq_true rfl) rfl hI (fun Γ hl hnL X => ?_)
  subst hl
  unfold F_X6_answers
  refine xr_aload_n (pc := 0) X (i := 0) 0 rfl rfl dX6_answers_0 ?_
  refine xr_iconst (pc := 1) X dX6_answers_1 (v := 1) (by decide) ?_
  refine xr_iald (pc := 2) X (aa1) (nn1) hh1.1 hh1.2 dX6_answers_2 (fun zz1 => ?_)
  refine xr_aload_n (pc := 3) X (i := 0) 0 rfl rfl dX6_answers_3 ?_
  refine xr_iconst (pc := 4) X dX6_answers_4 (v := 3) (by decide) ?_
  refine xr_iald (pc := 5) X (aa1) (nn1) hh1.1 hh1.2 dX6_answers_5 (fun zz2 => ?_)
  refine xr_iadd (pc := 6) X dX6_answers_6 ?_
  refine x_leti (fun zz3 => ?_)
  refine xr_istore_n (pc := 7) X (hf := rfl) (i := 2) [1, 2, 0] (Nat.le_of_ble_eq_true rfl) hnL rfl dX6_answers_7 ?_
  refine xr_iload_n (pc := 8) X (i := 2) 2 rfl rfl dX6_answers_8 ?_
  refine xr_aload_n (pc := 9) X (i := 0) 0 rfl rfl dX6_answers_9 ?_
  refine xr_iload_n (pc := 10) X (i := 1) 1 rfl rfl dX6_answers_10 ?_
  refine xr_bipush (pc := 11) X dX6_answers_11 (v := 14) (by decide) ?_
  refine xr_callSI (na := 3) (pc := 13) X [.ref (ad aa1), .int pp2, .int 14] (c_X6_of Γ.2.1 hI nn1 aa1 hh1 pp2 14 σ) (wG_S wm_11_14 wm_11_12 wm_11_13 wm_1_5) rfl rfl rfl (by decide +kernel) ⟨Nat.le_of_ble_eq_true rfl, Nat.le_of_ble_eq_true rfl⟩ rfl rfl (Nat.le_of_ble_eq_true rfl) ⟨Nat.le_of_ble_eq_true rfl, Nat.le_of_ble_eq_true rfl⟩ dX6_answers_13 (fun zz5 σ4 => ?_)
  refine x_jn (fun (KK21 : Int32 → xS → Option xS) => ∀ zz6 σ7, xM Γ D ad N Sh (xQV Γ D ad N Sh 0 0) 0 0 (KK21 zz6 σ7) σ7 30 [(0, .ref (ad aa1)), (1, .int pp2)] [.int zz6]) (fun zz6 σ7 => ?_) (fun KK21 hKK22 => ?_)
  · refine xr_istore_n (pc := 30) X (hf := rfl) (i := 2) [1, 2, 0] (Nat.le_of_ble_eq_true rfl) hnL rfl dX6_answers_30 ?_
    refine xr_aload_n (pc := 31) X (i := 0) 0 rfl rfl dX6_answers_31 ?_
    refine xr_iload_n (pc := 32) X (i := 1) 1 rfl rfl dX6_answers_32 ?_
    refine xr_bipush (pc := 33) X dX6_answers_33 (v := 13) (by decide) ?_
    refine xr_callSI (na := 3) (pc := 35) X [.ref (ad aa1), .int pp2, .int 13] (c_X6_of Γ.2.1 hI nn1 aa1 hh1 pp2 13 σ7) (wG_S wm_11_14 wm_11_12 wm_11_13 wm_1_5) rfl rfl rfl (by decide +kernel) ⟨Nat.le_of_ble_eq_true rfl, Nat.le_of_ble_eq_true rfl⟩ rfl rfl (Nat.le_of_ble_eq_true rfl) ⟨Nat.le_of_ble_eq_true rfl, Nat.le_of_ble_eq_true rfl⟩ dX6_answers_35 (fun zz9 σ8 => ?_)
    refine xr_istore_n (pc := 38) X (hf := rfl) (i := 3) [1, 2, 3, 0] (Nat.le_of_ble_eq_true rfl) hnL rfl dX6_answers_38 ?_
    refine xr_aload_n (pc := 39) X (i := 0) 0 rfl rfl dX6_answers_39 ?_
    refine xr_iload_n (pc := 40) X (i := 1) 1 rfl rfl dX6_answers_40 ?_
    refine xr_bipush (pc := 41) X dX6_answers_41 (v := 27) (by decide) ?_
    refine xr_iload_n (pc := 43) X (i := 3) 3 rfl rfl dX6_answers_43 ?_
    refine xr_iadd (pc := 44) X dX6_answers_44 ?_
    refine xr_iload_n (pc := 45) X (i := 2) 2 rfl rfl dX6_answers_45 ?_
    refine xr_callSV (na := 4) (pc := 46) X [.ref (ad aa1), .int pp2, .int (27 + zz9), .int zz6] (c_X6_lay Γ.2.1 hI nn1 aa1 hh1 pp2 (27 + zz9) zz6 σ8) (wG_S wm_6_8 wm_6_6 wm_6_7 wm_1_5) rfl rfl rfl (by decide +kernel) ⟨Nat.le_of_ble_eq_true rfl, Nat.le_of_ble_eq_true rfl⟩ rfl rfl (Nat.le_of_ble_eq_true rfl) ⟨Nat.le_of_ble_eq_true rfl, Nat.le_of_ble_eq_true rfl⟩ dX6_answers_46 (fun σ10 => ?_)
    refine xr_aload_n (pc := 49) X (i := 0) 0 rfl rfl dX6_answers_49 ?_
    refine xr_iload_n (pc := 50) X (i := 1) 1 rfl rfl dX6_answers_50 ?_
    refine xr_bipush (pc := 51) X dX6_answers_51 (v := 33) (by decide) ?_
    refine xr_iload_n (pc := 53) X (i := 3) 3 rfl rfl dX6_answers_53 ?_
    refine xr_iadd (pc := 54) X dX6_answers_54 ?_
    refine xr_aload_n (pc := 55) X (i := 0) 0 rfl rfl dX6_answers_55 ?_
    refine xr_iload_n (pc := 56) X (i := 1) 1 rfl rfl dX6_answers_56 ?_
    refine xr_bipush (pc := 57) X dX6_answers_57 (v := 9) (by decide) ?_
    refine xr_callSI (na := 3) (pc := 59) X [.ref (ad aa1), .int pp2, .int 9] (c_X6_of Γ.2.1 hI nn1 aa1 hh1 pp2 9 σ10) (wG_S wm_11_14 wm_11_12 wm_11_13 wm_1_5) rfl rfl rfl (by decide +kernel) ⟨Nat.le_of_ble_eq_true rfl, Nat.le_of_ble_eq_true rfl⟩ rfl rfl (Nat.le_of_ble_eq_true rfl) ⟨Nat.le_of_ble_eq_true rfl, Nat.le_of_ble_eq_true rfl⟩ dX6_answers_59 (fun zz12 σ11 => ?_)
    refine xr_callSV (na := 4) (pc := 62) X [.ref (ad aa1), .int pp2, .int (33 + zz9), .int zz12] (c_X6_lay Γ.2.1 hI nn1 aa1 hh1 pp2 (33 + zz9) zz12 σ11) (wG_S wm_6_8 wm_6_6 wm_6_7 wm_1_5) rfl rfl rfl (by decide +kernel) ⟨Nat.le_of_ble_eq_true rfl, Nat.le_of_ble_eq_true rfl⟩ rfl rfl (Nat.le_of_ble_eq_true rfl) ⟨Nat.le_of_ble_eq_true rfl, Nat.le_of_ble_eq_true rfl⟩ dX6_answers_62 (fun σ13 => ?_)
    refine xr_aload_n (pc := 65) X (i := 0) 0 rfl rfl dX6_answers_65 ?_
    refine xr_iload_n (pc := 66) X (i := 1) 1 rfl rfl dX6_answers_66 ?_
    refine xr_bipush (pc := 67) X dX6_answers_67 (v := 13) (by decide) ?_
    refine xr_iload_n (pc := 69) X (i := 3) 3 rfl rfl dX6_answers_69 ?_
    refine xr_iconst (pc := 70) X dX6_answers_70 (v := 1) (by decide) ?_
    refine xr_iadd (pc := 71) X dX6_answers_71 ?_
    refine xr_callSV (na := 4) (pc := 72) X [.ref (ad aa1), .int pp2, .int 13, .int (zz9 + 1)] (c_X6_lay Γ.2.1 hI nn1 aa1 hh1 pp2 13 (zz9 + 1) σ13) (wG_S wm_6_8 wm_6_6 wm_6_7 wm_1_5) rfl rfl rfl (by decide +kernel) ⟨Nat.le_of_ble_eq_true rfl, Nat.le_of_ble_eq_true rfl⟩ rfl rfl (Nat.le_of_ble_eq_true rfl) ⟨Nat.le_of_ble_eq_true rfl, Nat.le_of_ble_eq_true rfl⟩ dX6_answers_72 (fun σ14 => ?_)
    refine xr_aload_n (pc := 75) X (i := 0) 0 rfl rfl dX6_answers_75 ?_
    refine xr_iload_n (pc := 76) X (i := 1) 1 rfl rfl dX6_answers_76 ?_
    refine xr_bipush (pc := 77) X dX6_answers_77 (v := 14) (by decide) ?_
    refine xr_iload_n (pc := 79) X (i := 2) 2 rfl rfl dX6_answers_79 ?_
    refine xr_callSV (na := 4) (pc := 80) X [.ref (ad aa1), .int pp2, .int 14, .int zz6] (c_X6_lay Γ.2.1 hI nn1 aa1 hh1 pp2 14 zz6 σ14) (wG_S wm_6_8 wm_6_6 wm_6_7 wm_1_5) rfl rfl rfl (by decide +kernel) ⟨Nat.le_of_ble_eq_true rfl, Nat.le_of_ble_eq_true rfl⟩ rfl rfl (Nat.le_of_ble_eq_true rfl) ⟨Nat.le_of_ble_eq_true rfl, Nat.le_of_ble_eq_true rfl⟩ dX6_answers_80 (fun σ15 => ?_)
    refine xr_aload_n (pc := 83) X (i := 0) 0 rfl rfl dX6_answers_83 ?_
    refine xr_iload_n (pc := 84) X (i := 1) 1 rfl rfl dX6_answers_84 ?_
    refine xr_bipush (pc := 85) X dX6_answers_85 (v := 12) (by decide) ?_
    refine xr_aload_n (pc := 87) X (i := 0) 0 rfl rfl dX6_answers_87 ?_
    refine xr_iload_n (pc := 88) X (i := 1) 1 rfl rfl dX6_answers_88 ?_
    refine xr_bipush (pc := 89) X dX6_answers_89 (v := 12) (by decide) ?_
    refine xr_callSI (na := 3) (pc := 91) X [.ref (ad aa1), .int pp2, .int 12] (c_X6_of Γ.2.1 hI nn1 aa1 hh1 pp2 12 σ15) (wG_S wm_11_14 wm_11_12 wm_11_13 wm_1_5) rfl rfl rfl (by decide +kernel) ⟨Nat.le_of_ble_eq_true rfl, Nat.le_of_ble_eq_true rfl⟩ rfl rfl (Nat.le_of_ble_eq_true rfl) ⟨Nat.le_of_ble_eq_true rfl, Nat.le_of_ble_eq_true rfl⟩ dX6_answers_91 (fun zz17 σ16 => ?_)
    refine xr_iconst (pc := 94) X dX6_answers_94 (v := 1) (by decide) ?_
    refine xr_iadd (pc := 95) X dX6_answers_95 ?_
    refine xr_callSV (na := 4) (pc := 96) X [.ref (ad aa1), .int pp2, .int 12, .int (zz17 + 1)] (c_X6_lay Γ.2.1 hI nn1 aa1 hh1 pp2 12 (zz17 + 1) σ16) (wG_S wm_6_8 wm_6_6 wm_6_7 wm_1_5) rfl rfl rfl (by decide +kernel) ⟨Nat.le_of_ble_eq_true rfl, Nat.le_of_ble_eq_true rfl⟩ rfl rfl (Nat.le_of_ble_eq_true rfl) ⟨Nat.le_of_ble_eq_true rfl, Nat.le_of_ble_eq_true rfl⟩ dX6_answers_96 (fun σ18 => ?_)
    refine xr_aload_n (pc := 99) X (i := 0) 0 rfl rfl dX6_answers_99 ?_
    refine xr_iload_n (pc := 100) X (i := 1) 1 rfl rfl dX6_answers_100 ?_
    refine xr_bipush (pc := 101) X dX6_answers_101 (v := 10) (by decide) ?_
    refine xr_iconst (pc := 103) X dX6_answers_103 (v := 0) (by decide) ?_
    refine xr_callSV (na := 4) (pc := 104) X [.ref (ad aa1), .int pp2, .int 10, .int 0] (c_X6_lay Γ.2.1 hI nn1 aa1 hh1 pp2 10 0 σ18) (wG_S wm_6_8 wm_6_6 wm_6_7 wm_1_5) rfl rfl rfl (by decide +kernel) ⟨Nat.le_of_ble_eq_true rfl, Nat.le_of_ble_eq_true rfl⟩ rfl rfl (Nat.le_of_ble_eq_true rfl) ⟨Nat.le_of_ble_eq_true rfl, Nat.le_of_ble_eq_true rfl⟩ dX6_answers_104 (fun σ19 => ?_)
    refine xr_aload_n (pc := 107) X (i := 0) 0 rfl rfl dX6_answers_107 ?_
    refine xr_iload_n (pc := 108) X (i := 1) 1 rfl rfl dX6_answers_108 ?_
    refine xr_bipush (pc := 109) X dX6_answers_109 (v := 11) (by decide) ?_
    refine xr_iconst (pc := 111) X dX6_answers_111 (v := (-1)) (by decide) ?_
    refine xr_callSV (na := 4) (pc := 112) X [.ref (ad aa1), .int pp2, .int 11, .int ((-1))] (c_X6_lay Γ.2.1 hI nn1 aa1 hh1 pp2 11 ((-1)) σ19) (wG_S wm_6_8 wm_6_6 wm_6_7 wm_1_5) rfl rfl rfl (by decide +kernel) ⟨Nat.le_of_ble_eq_true rfl, Nat.le_of_ble_eq_true rfl⟩ rfl rfl (Nat.le_of_ble_eq_true rfl) ⟨Nat.le_of_ble_eq_true rfl, Nat.le_of_ble_eq_true rfl⟩ dX6_answers_112 (fun σ20 => ?_)
    exact xr_vret (pc := 115) X (Nat.le_refl _) (Nat.le_refl _) dX6_answers_115
  refine xr_icmp_ge (pc := 16) X 29 (by decide) dX6_answers_16 (fun _ => ?_) (fun _ => ?_)
  · refine xr_iload_n (pc := 29) X (i := 2) 2 rfl rfl dX6_answers_29 ?_
    exact x_sub [0, 1] rfl (hKK22 _ _)
  refine xr_aload_n (pc := 19) X (i := 0) 0 rfl rfl dX6_answers_19 ?_
  refine xr_iload_n (pc := 20) X (i := 1) 1 rfl rfl dX6_answers_20 ?_
  refine xr_bipush (pc := 21) X dX6_answers_21 (v := 14) (by decide) ?_
  refine xr_callSI (na := 3) (pc := 23) X [.ref (ad aa1), .int pp2, .int 14] (c_X6_of Γ.2.1 hI nn1 aa1 hh1 pp2 14 σ4) (wG_S wm_11_14 wm_11_12 wm_11_13 wm_1_5) rfl rfl rfl (by decide +kernel) ⟨Nat.le_of_ble_eq_true rfl, Nat.le_of_ble_eq_true rfl⟩ rfl rfl (Nat.le_of_ble_eq_true rfl) ⟨Nat.le_of_ble_eq_true rfl, Nat.le_of_ble_eq_true rfl⟩ dX6_answers_23 (fun zz24 σ23 => ?_)
  refine xr_goto (pc := 26) X 30 (by decide) dX6_answers_26 ?_
  exact x_sub [0, 1] rfl (hKK22 _ _)
def F_X6_letterComes (nn1 aa1 : Nat) (pp2 : Int32) (pp3 : Int32) (σ : xS) : Option xS :=
  xbI (F_X6_of nn1 aa1 pp2 8 σ) (fun (zz2 : Int32) (σ1 : xS) => xbV (F_X6_lay nn1 aa1 pp2 8 (zz2 + pp3) σ1) (fun (σ3 : xS) => xbI (F_X6_of nn1 aa1 pp2 9 σ3) (fun (zz5 : Int32) (σ4 : xS) => xbV (F_X6_lay nn1 aa1 pp2 9 (zz5 + 1) σ4) (fun (σ6 : xS) => xbI (F_X6_of nn1 aa1 pp2 10 σ6) (fun (zz8 : Int32) (σ7 : xS) => xbV (F_X6_lay nn1 aa1 pp2 10 (zz8 + 1) σ7) (fun (σ9 : xS) => xbI (F_X6_of nn1 aa1 pp2 10 σ9) (fun (zz11 : Int32) (σ10 : xS) => if zz11 = 2 then (xbV (F_X6_answers nn1 aa1 pp2 σ10) (fun (σ12 : xS) => some σ12))
 else (if xin (4 : Int32) nn1 = true then (xlet (σ10 aa1 (4 : Int32).toNatClampNeg) (fun (zz13 : Int32) => if ¬ zz13 = 0 then (xbI (F_X6_of nn1 aa1 pp2 11 σ10) (fun (zz15 : Int32) (σ14 : xS) => if ¬ zz15 = ((-1)) then (some σ14)
 else (if xin (1 : Int32) nn1 = true then (xlet (σ14 aa1 (1 : Int32).toNatClampNeg) (fun (zz16 : Int32) => if xin (4 : Int32) nn1 = true then (xlet (σ14 aa1 (4 : Int32).toNatClampNeg) (fun (zz17 : Int32) => xbV (F_X6_lay nn1 aa1 pp2 11 (zz16 + zz17) σ14) (fun (σ18 : xS) => some σ18))) else none)) else none)))
 else (xbV (F_X6_answers nn1 aa1 pp2 σ10) (fun (σ19 : xS) => some σ19)))) else none))))))))
abbrev rm_X6_letterComes : Room := { frames := 2, cells := 0, slots := 0, locals := 46 }
set_option maxHeartbeats 4000000 in
set_option maxRecDepth 100000 in
theorem c_X6_letterComes (l : Launch) {D : va_G} {ad : Nat → Nat} {N : Nat} {Sh : xSh} (hI : ∀ i j, i < N → j < N → ad i = ad j → i = j) (nn1 aa1 : Nat) (hh1 : xHas N Sh aa1 (shI D nn1)) (pp2 : Int32) (pp3 : Int32) (σ : xS) : xKV l yX6_letterComes (Cond.code yX6_letterComes cX6_letterComes 3 none :: wG) rm_X6_letterComes 0 0 D ad N Sh [.ref (ad aa1), .int pp2, .int pp3] σ (F_X6_letterComes nn1 aa1 pp2 pp3 σ) := by
  refine x_startV (own := RX6) (maxL := 3) (by decide) rfl rfl (Nat.le_of_ble_eq_true rfl) rfl hI (fun Γ hl hnL X => ?_)
  subst hl
  unfold F_X6_letterComes
  refine xr_aload_n (pc := 0) X (i := 0) 0 rfl rfl dX6_letterComes_0 ?_
  refine xr_iload_n (pc := 1) X (i := 1) 1 rfl rfl dX6_letterComes_1 ?_
  refine xr_bipush (pc := 2) X dX6_letterComes_2 (v := 8) (by decide) ?_
  refine xr_aload_n (pc := 4) X (i := 0) 0 rfl rfl dX6_letterComes_4 ?_
  refine xr_iload_n (pc := 5) X (i := 1) 1 rfl rfl dX6_letterComes_5 ?_
  refine xr_bipush (pc := 6) X dX6_letterComes_6 (v := 8) (by decide) ?_
  refine xr_callSI (na := 3) (pc := 8) X [.ref (ad aa1), .int pp2, .int 8] (c_X6_of Γ.2.1 hI nn1 aa1 hh1 pp2 8 σ) (wG_S wm_11_14 wm_11_12 wm_11_13 wm_1_5) rfl rfl rfl (by decide +kernel) ⟨Nat.le_of_ble_eq_true rfl, Nat.le_of_ble_eq_true rfl⟩ rfl rfl (Nat.le_of_ble_eq_true rfl) ⟨Nat.le_of_ble_eq_true rfl, Nat.le_of_ble_eq_true rfl⟩ dX6_letterComes_8 (fun zz2 σ1 => ?_)
  refine xr_iload_n (pc := 11) X (i := 2) 2 rfl rfl dX6_letterComes_11 ?_
  refine xr_iadd (pc := 12) X dX6_letterComes_12 ?_
  refine xr_callSV (na := 4) (pc := 13) X [.ref (ad aa1), .int pp2, .int 8, .int (zz2 + pp3)] (c_X6_lay Γ.2.1 hI nn1 aa1 hh1 pp2 8 (zz2 + pp3) σ1) (wG_S wm_6_8 wm_6_6 wm_6_7 wm_1_5) rfl rfl rfl (by decide +kernel) ⟨Nat.le_of_ble_eq_true rfl, Nat.le_of_ble_eq_true rfl⟩ rfl rfl (Nat.le_of_ble_eq_true rfl) ⟨Nat.le_of_ble_eq_true rfl, Nat.le_of_ble_eq_true rfl⟩ dX6_letterComes_13 (fun σ3 => ?_)
  refine xr_aload_n (pc := 16) X (i := 0) 0 rfl rfl dX6_letterComes_16 ?_
  refine xr_iload_n (pc := 17) X (i := 1) 1 rfl rfl dX6_letterComes_17 ?_
  refine xr_bipush (pc := 18) X dX6_letterComes_18 (v := 9) (by decide) ?_
  refine xr_aload_n (pc := 20) X (i := 0) 0 rfl rfl dX6_letterComes_20 ?_
  refine xr_iload_n (pc := 21) X (i := 1) 1 rfl rfl dX6_letterComes_21 ?_
  refine xr_bipush (pc := 22) X dX6_letterComes_22 (v := 9) (by decide) ?_
  refine xr_callSI (na := 3) (pc := 24) X [.ref (ad aa1), .int pp2, .int 9] (c_X6_of Γ.2.1 hI nn1 aa1 hh1 pp2 9 σ3) (wG_S wm_11_14 wm_11_12 wm_11_13 wm_1_5) rfl rfl rfl (by decide +kernel) ⟨Nat.le_of_ble_eq_true rfl, Nat.le_of_ble_eq_true rfl⟩ rfl rfl (Nat.le_of_ble_eq_true rfl) ⟨Nat.le_of_ble_eq_true rfl, Nat.le_of_ble_eq_true rfl⟩ dX6_letterComes_24 (fun zz5 σ4 => ?_)
  refine xr_iconst (pc := 27) X dX6_letterComes_27 (v := 1) (by decide) ?_
  refine xr_iadd (pc := 28) X dX6_letterComes_28 ?_
  refine xr_callSV (na := 4) (pc := 29) X [.ref (ad aa1), .int pp2, .int 9, .int (zz5 + 1)] (c_X6_lay Γ.2.1 hI nn1 aa1 hh1 pp2 9 (zz5 + 1) σ4) (wG_S wm_6_8 wm_6_6 wm_6_7 wm_1_5) rfl rfl rfl (by decide +kernel) ⟨Nat.le_of_ble_eq_true rfl, Nat.le_of_ble_eq_true rfl⟩ rfl rfl (Nat.le_of_ble_eq_true rfl) ⟨Nat.le_of_ble_eq_true rfl, Nat.le_of_ble_eq_true rfl⟩ dX6_letterComes_29 (fun σ6 => ?_)
  refine xr_aload_n (pc := 32) X (i := 0) 0 rfl rfl dX6_letterComes_32 ?_
  refine xr_iload_n (pc := 33) X (i := 1) 1 rfl rfl dX6_letterComes_33 ?_
  refine xr_bipush (pc := 34) X dX6_letterComes_34 (v := 10) (by decide) ?_
  refine xr_aload_n (pc := 36) X (i := 0) 0 rfl rfl dX6_letterComes_36 ?_
  refine xr_iload_n (pc := 37) X (i := 1) 1 rfl rfl dX6_letterComes_37 ?_
  refine xr_bipush (pc := 38) X dX6_letterComes_38 (v := 10) (by decide) ?_
  refine xr_callSI (na := 3) (pc := 40) X [.ref (ad aa1), .int pp2, .int 10] (c_X6_of Γ.2.1 hI nn1 aa1 hh1 pp2 10 σ6) (wG_S wm_11_14 wm_11_12 wm_11_13 wm_1_5) rfl rfl rfl (by decide +kernel) ⟨Nat.le_of_ble_eq_true rfl, Nat.le_of_ble_eq_true rfl⟩ rfl rfl (Nat.le_of_ble_eq_true rfl) ⟨Nat.le_of_ble_eq_true rfl, Nat.le_of_ble_eq_true rfl⟩ dX6_letterComes_40 (fun zz8 σ7 => ?_)
  refine xr_iconst (pc := 43) X dX6_letterComes_43 (v := 1) (by decide) ?_
  refine xr_iadd (pc := 44) X dX6_letterComes_44 ?_
  refine xr_callSV (na := 4) (pc := 45) X [.ref (ad aa1), .int pp2, .int 10, .int (zz8 + 1)] (c_X6_lay Γ.2.1 hI nn1 aa1 hh1 pp2 10 (zz8 + 1) σ7) (wG_S wm_6_8 wm_6_6 wm_6_7 wm_1_5) rfl rfl rfl (by decide +kernel) ⟨Nat.le_of_ble_eq_true rfl, Nat.le_of_ble_eq_true rfl⟩ rfl rfl (Nat.le_of_ble_eq_true rfl) ⟨Nat.le_of_ble_eq_true rfl, Nat.le_of_ble_eq_true rfl⟩ dX6_letterComes_45 (fun σ9 => ?_)
  refine xr_aload_n (pc := 48) X (i := 0) 0 rfl rfl dX6_letterComes_48 ?_
  refine xr_iload_n (pc := 49) X (i := 1) 1 rfl rfl dX6_letterComes_49 ?_
  refine xr_bipush (pc := 50) X dX6_letterComes_50 (v := 10) (by decide) ?_
  refine xr_callSI (na := 3) (pc := 52) X [.ref (ad aa1), .int pp2, .int 10] (c_X6_of Γ.2.1 hI nn1 aa1 hh1 pp2 10 σ9) (wG_S wm_11_14 wm_11_12 wm_11_13 wm_1_5) rfl rfl rfl (by decide +kernel) ⟨Nat.le_of_ble_eq_true rfl, Nat.le_of_ble_eq_true rfl⟩ rfl rfl (Nat.le_of_ble_eq_true rfl) ⟨Nat.le_of_ble_eq_true rfl, Nat.le_of_ble_eq_true rfl⟩ dX6_letterComes_52 (fun zz11 σ10 => ?_)
  refine xr_iconst (pc := 55) X dX6_letterComes_55 (v := 2) (by decide) ?_
  refine xr_icmp_eq (pc := 56) X 65 (by decide) dX6_letterComes_56 (fun _ => ?_) (fun _ => ?_)
  · refine xr_aload_n (pc := 65) X (i := 0) 0 rfl rfl dX6_letterComes_65 ?_
    refine xr_iload_n (pc := 66) X (i := 1) 1 rfl rfl dX6_letterComes_66 ?_
    refine xr_callSV (na := 2) (pc := 67) X [.ref (ad aa1), .int pp2] (c_X6_answers Γ.2.1 hI nn1 aa1 hh1 pp2 σ10) (wG_S wm_13_9 wm_13_7 wm_13_8 wm_1_5) rfl rfl rfl (by decide +kernel) ⟨Nat.le_of_ble_eq_true rfl, Nat.le_of_ble_eq_true rfl⟩ rfl rfl (Nat.le_of_ble_eq_true rfl) ⟨Nat.le_of_ble_eq_true rfl, Nat.le_of_ble_eq_true rfl⟩ dX6_letterComes_67 (fun σ12 => ?_)
    refine xr_goto (pc := 70) X 98 (by decide) dX6_letterComes_70 ?_
    exact xr_vret (pc := 98) X (Nat.le_refl _) (Nat.le_refl _) dX6_letterComes_98
  refine xr_aload_n (pc := 59) X (i := 0) 0 rfl rfl dX6_letterComes_59 ?_
  refine xr_iconst (pc := 60) X dX6_letterComes_60 (v := 4) (by decide) ?_
  refine xr_iald (pc := 61) X (aa1) (nn1) hh1.1 hh1.2 dX6_letterComes_61 (fun zz13 => ?_)
  refine xr_if_ne (pc := 62) X 73 (by decide) dX6_letterComes_62 (fun _ => ?_) (fun _ => ?_)
  · refine xr_aload_n (pc := 73) X (i := 0) 0 rfl rfl dX6_letterComes_73 ?_
    refine xr_iload_n (pc := 74) X (i := 1) 1 rfl rfl dX6_letterComes_74 ?_
    refine xr_bipush (pc := 75) X dX6_letterComes_75 (v := 11) (by decide) ?_
    refine xr_callSI (na := 3) (pc := 77) X [.ref (ad aa1), .int pp2, .int 11] (c_X6_of Γ.2.1 hI nn1 aa1 hh1 pp2 11 σ10) (wG_S wm_11_14 wm_11_12 wm_11_13 wm_1_5) rfl rfl rfl (by decide +kernel) ⟨Nat.le_of_ble_eq_true rfl, Nat.le_of_ble_eq_true rfl⟩ rfl rfl (Nat.le_of_ble_eq_true rfl) ⟨Nat.le_of_ble_eq_true rfl, Nat.le_of_ble_eq_true rfl⟩ dX6_letterComes_77 (fun zz15 σ14 => ?_)
    refine xr_iconst (pc := 80) X dX6_letterComes_80 (v := (-1)) (by decide) ?_
    refine xr_icmp_ne (pc := 81) X 98 (by decide) dX6_letterComes_81 (fun _ => ?_) (fun _ => ?_)
    · exact xr_vret (pc := 98) X (Nat.le_refl _) (Nat.le_refl _) dX6_letterComes_98
    refine xr_aload_n (pc := 84) X (i := 0) 0 rfl rfl dX6_letterComes_84 ?_
    refine xr_iload_n (pc := 85) X (i := 1) 1 rfl rfl dX6_letterComes_85 ?_
    refine xr_bipush (pc := 86) X dX6_letterComes_86 (v := 11) (by decide) ?_
    refine xr_aload_n (pc := 88) X (i := 0) 0 rfl rfl dX6_letterComes_88 ?_
    refine xr_iconst (pc := 89) X dX6_letterComes_89 (v := 1) (by decide) ?_
    refine xr_iald (pc := 90) X (aa1) (nn1) hh1.1 hh1.2 dX6_letterComes_90 (fun zz16 => ?_)
    refine xr_aload_n (pc := 91) X (i := 0) 0 rfl rfl dX6_letterComes_91 ?_
    refine xr_iconst (pc := 92) X dX6_letterComes_92 (v := 4) (by decide) ?_
    refine xr_iald (pc := 93) X (aa1) (nn1) hh1.1 hh1.2 dX6_letterComes_93 (fun zz17 => ?_)
    refine xr_iadd (pc := 94) X dX6_letterComes_94 ?_
    refine xr_callSV (na := 4) (pc := 95) X [.ref (ad aa1), .int pp2, .int 11, .int (zz16 + zz17)] (c_X6_lay Γ.2.1 hI nn1 aa1 hh1 pp2 11 (zz16 + zz17) σ14) (wG_S wm_6_8 wm_6_6 wm_6_7 wm_1_5) rfl rfl rfl (by decide +kernel) ⟨Nat.le_of_ble_eq_true rfl, Nat.le_of_ble_eq_true rfl⟩ rfl rfl (Nat.le_of_ble_eq_true rfl) ⟨Nat.le_of_ble_eq_true rfl, Nat.le_of_ble_eq_true rfl⟩ dX6_letterComes_95 (fun σ18 => ?_)
    exact xr_vret (pc := 98) X (Nat.le_refl _) (Nat.le_refl _) dX6_letterComes_98
  refine xr_aload_n (pc := 65) X (i := 0) 0 rfl rfl dX6_letterComes_65 ?_
  refine xr_iload_n (pc := 66) X (i := 1) 1 rfl rfl dX6_letterComes_66 ?_
  refine xr_callSV (na := 2) (pc := 67) X [.ref (ad aa1), .int pp2] (c_X6_answers Γ.2.1 hI nn1 aa1 hh1 pp2 σ10) (wG_S wm_13_9 wm_13_7 wm_13_8 wm_1_5) rfl rfl rfl (by decide +kernel) ⟨Nat.le_of_ble_eq_true rfl, Nat.le_of_ble_eq_true rfl⟩ rfl rfl (Nat.le_of_ble_eq_true rfl) ⟨Nat.le_of_ble_eq_true rfl, Nat.le_of_ble_eq_true rfl⟩ dX6_letterComes_67 (fun σ19 => ?_)
  refine xr_goto (pc := 70) X 98 (by decide) dX6_letterComes_70 ?_
  exact xr_vret (pc := 98) X (Nat.le_refl _) (Nat.le_refl _) dX6_letterComes_98
def L_X6_firstAnswered_12 (nn1 : Nat) (aa1 : Nat) (pp2 : Int32) (zz3 : Int32) (KK9 : xS → Option xS) : Nat → Int32 → xS → Option xS
  | 0, _, _ => none
  | nn_13 + 1, zz11, σ12 => if (2 * zz3) ≤ zz11 then (KK9 σ12)
 else (xbI (F_X6_of nn1 aa1 pp2 ((15 + zz11) + 2) σ12) (fun (zz16 : Int32) (σ15 : xS) => xbV (F_X6_lay nn1 aa1 pp2 (15 + zz11) zz16 σ15) (fun (σ17 : xS) => xlet (zz11 + 1) (fun (zz18 : Int32) => L_X6_firstAnswered_12 nn1 aa1 pp2 zz3 KK9 nn_13 zz18 σ17))))
def F_X6_firstAnswered (nn1 aa1 : Nat) (pp2 : Int32) (σ : xS) : Option xS :=
  xbI (F_X6_of nn1 aa1 pp2 6 σ) (fun (zz2 : Int32) (σ1 : xS) => xlet (zz2 - 1) (fun (zz3 : Int32) => L_X6_firstAnswered_12 nn1 aa1 pp2 zz3 (fun (σ4 : xS) => xbV (F_X6_lay nn1 aa1 pp2 6 zz3 σ4) (fun (σ5 : xS) => xbI (F_X6_of nn1 aa1 pp2 5 σ5) (fun (zz7 : Int32) (σ6 : xS) => xbV (F_X6_lay nn1 aa1 pp2 5 (zz7 + 1) σ6) (fun (σ8 : xS) => some σ8)))) 1000 0 σ1))
abbrev rm_X6_firstAnswered : Room := { frames := 1, cells := 0, slots := 0, locals := 23 }
set_option maxHeartbeats 4000000 in
set_option maxRecDepth 100000 in
theorem c_X6_firstAnswered (l : Launch) {D : va_G} {ad : Nat → Nat} {N : Nat} {Sh : xSh} (hI : ∀ i j, i < N → j < N → ad i = ad j → i = j) (nn1 aa1 : Nat) (hh1 : xHas N Sh aa1 (shI D nn1)) (pp2 : Int32) (σ : xS) : xKV l yX6_firstAnswered (Cond.code yX6_firstAnswered cX6_firstAnswered 4 none :: wG) rm_X6_firstAnswered 0 0 D ad N Sh [.ref (ad aa1), .int pp2] σ (F_X6_firstAnswered nn1 aa1 pp2 σ) := by
  refine x_startV (own := RX6) (maxL := 4) (by decide) rfl rfl (Nat.le_of_ble_eq_true rfl) rfl hI (fun Γ hl hnL X => ?_)
  subst hl
  unfold F_X6_firstAnswered
  refine xr_aload_n (pc := 0) X (i := 0) 0 rfl rfl dX6_firstAnswered_0 ?_
  refine xr_iload_n (pc := 1) X (i := 1) 1 rfl rfl dX6_firstAnswered_1 ?_
  refine xr_bipush (pc := 2) X dX6_firstAnswered_2 (v := 6) (by decide) ?_
  refine xr_callSI (na := 3) (pc := 4) X [.ref (ad aa1), .int pp2, .int 6] (c_X6_of Γ.2.1 hI nn1 aa1 hh1 pp2 6 σ) (wG_S wm_11_14 wm_11_12 wm_11_13 wm_1_5) rfl rfl rfl (by decide +kernel) ⟨Nat.le_of_ble_eq_true rfl, Nat.le_of_ble_eq_true rfl⟩ rfl rfl (Nat.le_of_ble_eq_true rfl) ⟨Nat.le_of_ble_eq_true rfl, Nat.le_of_ble_eq_true rfl⟩ dX6_firstAnswered_4 (fun zz2 σ1 => ?_)
  refine xr_iconst (pc := 7) X dX6_firstAnswered_7 (v := 1) (by decide) ?_
  refine xr_isub (pc := 8) X dX6_firstAnswered_8 ?_
  refine x_leti (fun zz3 => ?_)
  refine xr_istore_n (pc := 9) X (hf := rfl) (i := 2) [1, 2, 0] (Nat.le_of_ble_eq_true rfl) hnL rfl dX6_firstAnswered_9 ?_
  refine xr_iconst (pc := 10) X dX6_firstAnswered_10 (v := 0) (by decide) ?_
  refine xr_istore_n (pc := 11) X (hf := rfl) (i := 3) [1, 2, 3, 0] (Nat.le_of_ble_eq_true rfl) hnL rfl dX6_firstAnswered_11 ?_
  have hLL19 : ∀ (KK9 : xS → Option xS) (hKK10 : ∀ σ4, xM Γ D ad N Sh (xQV Γ D ad N Sh 0 0) 0 0 (KK9 σ4) σ4 45 [(0, .ref (ad aa1)), (1, .int pp2), (2, .int zz3)] []), ∀ (nn_13 : Nat) zz11 σ12, xM Γ D ad N Sh (xQV Γ D ad N Sh 0 0) 0 0 (L_X6_firstAnswered_12 nn1 aa1 pp2 zz3 KK9 nn_13 zz11 σ12) σ12 12 [(0, .ref (ad aa1)), (1, .int pp2), (2, .int zz3), (3, .int zz11)] [] := by
    intro KK9 hKK10 nn_13
    induction nn_13 with
    | zero => intro zz11 σ12; exact xM_none
    | succ nn_13 ihh14 =>
      intro zz11 σ12
      rw [L_X6_firstAnswered_12]
      refine xr_iload_n (pc := 12) X (i := 3) 3 rfl rfl dX6_firstAnswered_12 ?_
      refine xr_iconst (pc := 13) X dX6_firstAnswered_13 (v := 2) (by decide) ?_
      refine xr_iload_n (pc := 14) X (i := 2) 2 rfl rfl dX6_firstAnswered_14 ?_
      refine xr_imul (pc := 15) X dX6_firstAnswered_15 ?_
      refine xr_icmp_ge (pc := 16) X 45 (by decide) dX6_firstAnswered_16 (fun _ => ?_) (fun _ => ?_)
      · exact x_sub [0, 1, 2] rfl (hKK10  _)
      refine xr_aload_n (pc := 19) X (i := 0) 0 rfl rfl dX6_firstAnswered_19 ?_
      refine xr_iload_n (pc := 20) X (i := 1) 1 rfl rfl dX6_firstAnswered_20 ?_
      refine xr_bipush (pc := 21) X dX6_firstAnswered_21 (v := 15) (by decide) ?_
      refine xr_iload_n (pc := 23) X (i := 3) 3 rfl rfl dX6_firstAnswered_23 ?_
      refine xr_iadd (pc := 24) X dX6_firstAnswered_24 ?_
      refine xr_aload_n (pc := 25) X (i := 0) 0 rfl rfl dX6_firstAnswered_25 ?_
      refine xr_iload_n (pc := 26) X (i := 1) 1 rfl rfl dX6_firstAnswered_26 ?_
      refine xr_bipush (pc := 27) X dX6_firstAnswered_27 (v := 15) (by decide) ?_
      refine xr_iload_n (pc := 29) X (i := 3) 3 rfl rfl dX6_firstAnswered_29 ?_
      refine xr_iadd (pc := 30) X dX6_firstAnswered_30 ?_
      refine xr_iconst (pc := 31) X dX6_firstAnswered_31 (v := 2) (by decide) ?_
      refine xr_iadd (pc := 32) X dX6_firstAnswered_32 ?_
      refine xr_callSI (na := 3) (pc := 33) X [.ref (ad aa1), .int pp2, .int ((15 + zz11) + 2)] (c_X6_of Γ.2.1 hI nn1 aa1 hh1 pp2 ((15 + zz11) + 2) σ12) (wG_S wm_11_14 wm_11_12 wm_11_13 wm_1_5) rfl rfl rfl (by decide +kernel) ⟨Nat.le_of_ble_eq_true rfl, Nat.le_of_ble_eq_true rfl⟩ rfl rfl (Nat.le_of_ble_eq_true rfl) ⟨Nat.le_of_ble_eq_true rfl, Nat.le_of_ble_eq_true rfl⟩ dX6_firstAnswered_33 (fun zz16 σ15 => ?_)
      refine xr_callSV (na := 4) (pc := 36) X [.ref (ad aa1), .int pp2, .int (15 + zz11), .int zz16] (c_X6_lay Γ.2.1 hI nn1 aa1 hh1 pp2 (15 + zz11) zz16 σ15) (wG_S wm_6_8 wm_6_6 wm_6_7 wm_1_5) rfl rfl rfl (by decide +kernel) ⟨Nat.le_of_ble_eq_true rfl, Nat.le_of_ble_eq_true rfl⟩ rfl rfl (Nat.le_of_ble_eq_true rfl) ⟨Nat.le_of_ble_eq_true rfl, Nat.le_of_ble_eq_true rfl⟩ dX6_firstAnswered_36 (fun σ17 => ?_)
      refine xr_iinc (pc := 39) X (i := 3) (j := 3) [1, 2, 3, 0] (Nat.le_of_ble_eq_true rfl) hnL rfl rfl (fun zz18 => [(0, .ref (ad aa1)), (1, .int pp2), (2, .int zz3), (3, .int zz18)]) (fun _ => rfl) dX6_firstAnswered_39 (fun zz18 => ?_)
      refine xr_goto (pc := 42) X 12 (by decide) dX6_firstAnswered_42 ?_
      exact ihh14 _ _
  refine hLL19 _ (fun σ4 => ?_) _ _ _
  refine xr_aload_n (pc := 45) X (i := 0) 0 rfl rfl dX6_firstAnswered_45 ?_
  refine xr_iload_n (pc := 46) X (i := 1) 1 rfl rfl dX6_firstAnswered_46 ?_
  refine xr_bipush (pc := 47) X dX6_firstAnswered_47 (v := 6) (by decide) ?_
  refine xr_iload_n (pc := 49) X (i := 2) 2 rfl rfl dX6_firstAnswered_49 ?_
  refine xr_callSV (na := 4) (pc := 50) X [.ref (ad aa1), .int pp2, .int 6, .int zz3] (c_X6_lay Γ.2.1 hI nn1 aa1 hh1 pp2 6 zz3 σ4) (wG_S wm_6_8 wm_6_6 wm_6_7 wm_1_5) rfl rfl rfl (by decide +kernel) ⟨Nat.le_of_ble_eq_true rfl, Nat.le_of_ble_eq_true rfl⟩ rfl rfl (Nat.le_of_ble_eq_true rfl) ⟨Nat.le_of_ble_eq_true rfl, Nat.le_of_ble_eq_true rfl⟩ dX6_firstAnswered_50 (fun σ5 => ?_)
  refine xr_aload_n (pc := 53) X (i := 0) 0 rfl rfl dX6_firstAnswered_53 ?_
  refine xr_iload_n (pc := 54) X (i := 1) 1 rfl rfl dX6_firstAnswered_54 ?_
  refine xr_iconst (pc := 55) X dX6_firstAnswered_55 (v := 5) (by decide) ?_
  refine xr_aload_n (pc := 56) X (i := 0) 0 rfl rfl dX6_firstAnswered_56 ?_
  refine xr_iload_n (pc := 57) X (i := 1) 1 rfl rfl dX6_firstAnswered_57 ?_
  refine xr_iconst (pc := 58) X dX6_firstAnswered_58 (v := 5) (by decide) ?_
  refine xr_callSI (na := 3) (pc := 59) X [.ref (ad aa1), .int pp2, .int 5] (c_X6_of Γ.2.1 hI nn1 aa1 hh1 pp2 5 σ5) (wG_S wm_11_14 wm_11_12 wm_11_13 wm_1_5) rfl rfl rfl (by decide +kernel) ⟨Nat.le_of_ble_eq_true rfl, Nat.le_of_ble_eq_true rfl⟩ rfl rfl (Nat.le_of_ble_eq_true rfl) ⟨Nat.le_of_ble_eq_true rfl, Nat.le_of_ble_eq_true rfl⟩ dX6_firstAnswered_59 (fun zz7 σ6 => ?_)
  refine xr_iconst (pc := 62) X dX6_firstAnswered_62 (v := 1) (by decide) ?_
  refine xr_iadd (pc := 63) X dX6_firstAnswered_63 ?_
  refine xr_callSV (na := 4) (pc := 64) X [.ref (ad aa1), .int pp2, .int 5, .int (zz7 + 1)] (c_X6_lay Γ.2.1 hI nn1 aa1 hh1 pp2 5 (zz7 + 1) σ6) (wG_S wm_6_8 wm_6_6 wm_6_7 wm_1_5) rfl rfl rfl (by decide +kernel) ⟨Nat.le_of_ble_eq_true rfl, Nat.le_of_ble_eq_true rfl⟩ rfl rfl (Nat.le_of_ble_eq_true rfl) ⟨Nat.le_of_ble_eq_true rfl, Nat.le_of_ble_eq_true rfl⟩ dX6_firstAnswered_64 (fun σ8 => ?_)
  exact xr_vret (pc := 67) X (Nat.le_refl _) (Nat.le_refl _) dX6_firstAnswered_67
def L_X6_answerComes_83 (nn1 : Nat) (aa1 : Nat) (pp2 : Int32) (zz2 : Int32) (KK9 : xS → Option xS) : Nat → xS → Option xS
  | 0, _ => none
  | nn_12 + 1, σ11 => xbI (F_X6_of nn1 aa1 pp2 5 σ11) (fun (zz15 : Int32) (σ14 : xS) => if zz2 ≤ zz15 then (KK9 σ14)
 else (xbI (F_X6_of nn1 aa1 pp2 6 σ14) (fun (zz17 : Int32) (σ16 : xS) => if zz17 ≤ 0 then (KK9 σ16)
 else (xbV (F_X6_firstAnswered nn1 aa1 pp2 σ16) (fun (σ18 : xS) => L_X6_answerComes_83 nn1 aa1 pp2 zz2 KK9 nn_12 σ18)))))
def L_X6_answerComes_21 (nn1 : Nat) (aa1 : Nat) (pp2 : Int32) (zz5 : Int32) (KK20 : xS → Option xS) : Nat → Int32 → xS → Option xS
  | 0, _, _ => none
  | nn_24 + 1, zz22, σ23 => if zz5 ≤ zz22 then (KK20 σ23)
 else (xbI (F_X6_of nn1 aa1 pp2 ((27 + zz22) + 1) σ23) (fun (zz27 : Int32) (σ26 : xS) => xbV (F_X6_lay nn1 aa1 pp2 (27 + zz22) zz27 σ26) (fun (σ28 : xS) => xbI (F_X6_of nn1 aa1 pp2 (34 + zz22) σ28) (fun (zz30 : Int32) (σ29 : xS) => xbV (F_X6_lay nn1 aa1 pp2 (33 + zz22) zz30 σ29) (fun (σ31 : xS) => xlet (zz22 + 1) (fun (zz32 : Int32) => L_X6_answerComes_21 nn1 aa1 pp2 zz5 KK20 nn_24 zz32 σ31))))))
def F_X6_answerComes (nn1 aa1 : Nat) (pp2 : Int32) (σ : xS) : Option xS :=
  xbI (F_X6_of nn1 aa1 pp2 33 σ) (fun (zz2 : Int32) (σ1 : xS) => xbI (F_X6_of nn1 aa1 pp2 13 σ1) (fun (zz4 : Int32) (σ3 : xS) => xlet (zz4 - 1) (fun (zz5 : Int32) => L_X6_answerComes_21 nn1 aa1 pp2 zz5 (fun (σ6 : xS) => xbV (F_X6_lay nn1 aa1 pp2 13 zz5 σ6) (fun (σ7 : xS) => L_X6_answerComes_83 nn1 aa1 pp2 zz2 (fun (σ8 : xS) => some σ8) 1000  σ7)) 1000 0 σ3)))
abbrev rm_X6_answerComes : Room := { frames := 2, cells := 0, slots := 0, locals := 46 }
set_option maxHeartbeats 4000000 in
set_option maxRecDepth 100000 in
theorem c_X6_answerComes (l : Launch) {D : va_G} {ad : Nat → Nat} {N : Nat} {Sh : xSh} (hI : ∀ i j, i < N → j < N → ad i = ad j → i = j) (nn1 aa1 : Nat) (hh1 : xHas N Sh aa1 (shI D nn1)) (pp2 : Int32) (σ : xS) : xKV l yX6_answerComes (Cond.code yX6_answerComes cX6_answerComes 5 none :: wG) rm_X6_answerComes 0 0 D ad N Sh [.ref (ad aa1), .int pp2] σ (F_X6_answerComes nn1 aa1 pp2 σ) := by
  refine x_startV (own := RX6) (maxL := 5) (by decide) rfl rfl (Nat.le_of_ble_eq_true rfl) rfl hI (fun Γ hl hnL X => ?_)
  subst hl
  unfold F_X6_answerComes
  refine xr_aload_n (pc := 0) X (i := 0) 0 rfl rfl dX6_answerComes_0 ?_
  refine xr_iload_n (pc := 1) X (i := 1) 1 rfl rfl dX6_answerComes_1 ?_
  refine xr_bipush (pc := 2) X dX6_answerComes_2 (v := 33) (by decide) ?_
  refine xr_callSI (na := 3) (pc := 4) X [.ref (ad aa1), .int pp2, .int 33] (c_X6_of Γ.2.1 hI nn1 aa1 hh1 pp2 33 σ) (wG_S wm_11_14 wm_11_12 wm_11_13 wm_1_5) rfl rfl rfl (by decide +kernel) ⟨Nat.le_of_ble_eq_true rfl, Nat.le_of_ble_eq_true rfl⟩ rfl rfl (Nat.le_of_ble_eq_true rfl) ⟨Nat.le_of_ble_eq_true rfl, Nat.le_of_ble_eq_true rfl⟩ dX6_answerComes_4 (fun zz2 σ1 => ?_)
  refine xr_istore_n (pc := 7) X (hf := rfl) (i := 2) [1, 2, 0] (Nat.le_of_ble_eq_true rfl) hnL rfl dX6_answerComes_7 ?_
  refine xr_aload_n (pc := 8) X (i := 0) 0 rfl rfl dX6_answerComes_8 ?_
  refine xr_iload_n (pc := 9) X (i := 1) 1 rfl rfl dX6_answerComes_9 ?_
  refine xr_bipush (pc := 10) X dX6_answerComes_10 (v := 13) (by decide) ?_
  refine xr_callSI (na := 3) (pc := 12) X [.ref (ad aa1), .int pp2, .int 13] (c_X6_of Γ.2.1 hI nn1 aa1 hh1 pp2 13 σ1) (wG_S wm_11_14 wm_11_12 wm_11_13 wm_1_5) rfl rfl rfl (by decide +kernel) ⟨Nat.le_of_ble_eq_true rfl, Nat.le_of_ble_eq_true rfl⟩ rfl rfl (Nat.le_of_ble_eq_true rfl) ⟨Nat.le_of_ble_eq_true rfl, Nat.le_of_ble_eq_true rfl⟩ dX6_answerComes_12 (fun zz4 σ3 => ?_)
  refine xr_iconst (pc := 15) X dX6_answerComes_15 (v := 1) (by decide) ?_
  refine xr_isub (pc := 16) X dX6_answerComes_16 ?_
  refine x_leti (fun zz5 => ?_)
  refine xr_istore_n (pc := 17) X (hf := rfl) (i := 3) [1, 2, 3, 0] (Nat.le_of_ble_eq_true rfl) hnL rfl dX6_answerComes_17 ?_
  refine xr_iconst (pc := 18) X dX6_answerComes_18 (v := 0) (by decide) ?_
  refine xr_istore (pc := 19) X (i := 4) [1, 2, 3, 4, 0] (Nat.le_of_ble_eq_true rfl) hnL rfl dX6_answerComes_19 ?_
  have hLL33 : ∀ (KK20 : xS → Option xS) (hKK21 : ∀ σ6, xM Γ D ad N Sh (xQV Γ D ad N Sh 0 0) 0 0 (KK20 σ6) σ6 75 [(0, .ref (ad aa1)), (1, .int pp2), (2, .int zz2), (3, .int zz5)] []), ∀ (nn_24 : Nat) zz22 σ23, xM Γ D ad N Sh (xQV Γ D ad N Sh 0 0) 0 0 (L_X6_answerComes_21 nn1 aa1 pp2 zz5 KK20 nn_24 zz22 σ23) σ23 21 [(0, .ref (ad aa1)), (1, .int pp2), (2, .int zz2), (3, .int zz5), (4, .int zz22)] [] := by
    intro KK20 hKK21 nn_24
    induction nn_24 with
    | zero => intro zz22 σ23; exact xM_none
    | succ nn_24 ihh25 =>
      intro zz22 σ23
      rw [L_X6_answerComes_21]
      refine xr_iload (pc := 21) X (i := 4) 4 rfl dX6_answerComes_21 ?_
      refine xr_iload_n (pc := 23) X (i := 3) 3 rfl rfl dX6_answerComes_23 ?_
      refine xr_icmp_ge (pc := 24) X 75 (by decide) dX6_answerComes_24 (fun _ => ?_) (fun _ => ?_)
      · exact x_sub [0, 1, 2, 3] rfl (hKK21  _)
      refine xr_aload_n (pc := 27) X (i := 0) 0 rfl rfl dX6_answerComes_27 ?_
      refine xr_iload_n (pc := 28) X (i := 1) 1 rfl rfl dX6_answerComes_28 ?_
      refine xr_bipush (pc := 29) X dX6_answerComes_29 (v := 27) (by decide) ?_
      refine xr_iload (pc := 31) X (i := 4) 4 rfl dX6_answerComes_31 ?_
      refine xr_iadd (pc := 33) X dX6_answerComes_33 ?_
      refine xr_aload_n (pc := 34) X (i := 0) 0 rfl rfl dX6_answerComes_34 ?_
      refine xr_iload_n (pc := 35) X (i := 1) 1 rfl rfl dX6_answerComes_35 ?_
      refine xr_bipush (pc := 36) X dX6_answerComes_36 (v := 27) (by decide) ?_
      refine xr_iload (pc := 38) X (i := 4) 4 rfl dX6_answerComes_38 ?_
      refine xr_iadd (pc := 40) X dX6_answerComes_40 ?_
      refine xr_iconst (pc := 41) X dX6_answerComes_41 (v := 1) (by decide) ?_
      refine xr_iadd (pc := 42) X dX6_answerComes_42 ?_
      refine xr_callSI (na := 3) (pc := 43) X [.ref (ad aa1), .int pp2, .int ((27 + zz22) + 1)] (c_X6_of Γ.2.1 hI nn1 aa1 hh1 pp2 ((27 + zz22) + 1) σ23) (wG_S wm_11_14 wm_11_12 wm_11_13 wm_1_5) rfl rfl rfl (by decide +kernel) ⟨Nat.le_of_ble_eq_true rfl, Nat.le_of_ble_eq_true rfl⟩ rfl rfl (Nat.le_of_ble_eq_true rfl) ⟨Nat.le_of_ble_eq_true rfl, Nat.le_of_ble_eq_true rfl⟩ dX6_answerComes_43 (fun zz27 σ26 => ?_)
      refine xr_callSV (na := 4) (pc := 46) X [.ref (ad aa1), .int pp2, .int (27 + zz22), .int zz27] (c_X6_lay Γ.2.1 hI nn1 aa1 hh1 pp2 (27 + zz22) zz27 σ26) (wG_S wm_6_8 wm_6_6 wm_6_7 wm_1_5) rfl rfl rfl (by decide +kernel) ⟨Nat.le_of_ble_eq_true rfl, Nat.le_of_ble_eq_true rfl⟩ rfl rfl (Nat.le_of_ble_eq_true rfl) ⟨Nat.le_of_ble_eq_true rfl, Nat.le_of_ble_eq_true rfl⟩ dX6_answerComes_46 (fun σ28 => ?_)
      refine xr_aload_n (pc := 49) X (i := 0) 0 rfl rfl dX6_answerComes_49 ?_
      refine xr_iload_n (pc := 50) X (i := 1) 1 rfl rfl dX6_answerComes_50 ?_
      refine xr_bipush (pc := 51) X dX6_answerComes_51 (v := 33) (by decide) ?_
      refine xr_iload (pc := 53) X (i := 4) 4 rfl dX6_answerComes_53 ?_
      refine xr_iadd (pc := 55) X dX6_answerComes_55 ?_
      refine xr_aload_n (pc := 56) X (i := 0) 0 rfl rfl dX6_answerComes_56 ?_
      refine xr_iload_n (pc := 57) X (i := 1) 1 rfl rfl dX6_answerComes_57 ?_
      refine xr_bipush (pc := 58) X dX6_answerComes_58 (v := 34) (by decide) ?_
      refine xr_iload (pc := 60) X (i := 4) 4 rfl dX6_answerComes_60 ?_
      refine xr_iadd (pc := 62) X dX6_answerComes_62 ?_
      refine xr_callSI (na := 3) (pc := 63) X [.ref (ad aa1), .int pp2, .int (34 + zz22)] (c_X6_of Γ.2.1 hI nn1 aa1 hh1 pp2 (34 + zz22) σ28) (wG_S wm_11_14 wm_11_12 wm_11_13 wm_1_5) rfl rfl rfl (by decide +kernel) ⟨Nat.le_of_ble_eq_true rfl, Nat.le_of_ble_eq_true rfl⟩ rfl rfl (Nat.le_of_ble_eq_true rfl) ⟨Nat.le_of_ble_eq_true rfl, Nat.le_of_ble_eq_true rfl⟩ dX6_answerComes_63 (fun zz30 σ29 => ?_)
      refine xr_callSV (na := 4) (pc := 66) X [.ref (ad aa1), .int pp2, .int (33 + zz22), .int zz30] (c_X6_lay Γ.2.1 hI nn1 aa1 hh1 pp2 (33 + zz22) zz30 σ29) (wG_S wm_6_8 wm_6_6 wm_6_7 wm_1_5) rfl rfl rfl (by decide +kernel) ⟨Nat.le_of_ble_eq_true rfl, Nat.le_of_ble_eq_true rfl⟩ rfl rfl (Nat.le_of_ble_eq_true rfl) ⟨Nat.le_of_ble_eq_true rfl, Nat.le_of_ble_eq_true rfl⟩ dX6_answerComes_66 (fun σ31 => ?_)
      refine xr_iinc (pc := 69) X (i := 4) (j := 4) [1, 2, 3, 4, 0] (Nat.le_of_ble_eq_true rfl) hnL rfl rfl (fun zz32 => [(0, .ref (ad aa1)), (1, .int pp2), (2, .int zz2), (3, .int zz5), (4, .int zz32)]) (fun _ => rfl) dX6_answerComes_69 (fun zz32 => ?_)
      refine xr_goto (pc := 72) X 21 (by decide) dX6_answerComes_72 ?_
      exact ihh25 _ _
  refine hLL33 _ (fun σ6 => ?_) _ _ _
  refine xr_aload_n (pc := 75) X (i := 0) 0 rfl rfl dX6_answerComes_75 ?_
  refine xr_iload_n (pc := 76) X (i := 1) 1 rfl rfl dX6_answerComes_76 ?_
  refine xr_bipush (pc := 77) X dX6_answerComes_77 (v := 13) (by decide) ?_
  refine xr_iload_n (pc := 79) X (i := 3) 3 rfl rfl dX6_answerComes_79 ?_
  refine xr_callSV (na := 4) (pc := 80) X [.ref (ad aa1), .int pp2, .int 13, .int zz5] (c_X6_lay Γ.2.1 hI nn1 aa1 hh1 pp2 13 zz5 σ6) (wG_S wm_6_8 wm_6_6 wm_6_7 wm_1_5) rfl rfl rfl (by decide +kernel) ⟨Nat.le_of_ble_eq_true rfl, Nat.le_of_ble_eq_true rfl⟩ rfl rfl (Nat.le_of_ble_eq_true rfl) ⟨Nat.le_of_ble_eq_true rfl, Nat.le_of_ble_eq_true rfl⟩ dX6_answerComes_80 (fun σ7 => ?_)
  have hLL19 : ∀ (KK9 : xS → Option xS) (hKK10 : ∀ σ8, xM Γ D ad N Sh (xQV Γ D ad N Sh 0 0) 0 0 (KK9 σ8) σ8 111 [] []), ∀ (nn_12 : Nat) σ11, xM Γ D ad N Sh (xQV Γ D ad N Sh 0 0) 0 0 (L_X6_answerComes_83 nn1 aa1 pp2 zz2 KK9 nn_12 σ11) σ11 83 [(0, .ref (ad aa1)), (1, .int pp2), (2, .int zz2)] [] := by
    intro KK9 hKK10 nn_12
    induction nn_12 with
    | zero => intro σ11; exact xM_none
    | succ nn_12 ihh13 =>
      intro σ11
      rw [L_X6_answerComes_83]
      refine xr_aload_n (pc := 83) X (i := 0) 0 rfl rfl dX6_answerComes_83 ?_
      refine xr_iload_n (pc := 84) X (i := 1) 1 rfl rfl dX6_answerComes_84 ?_
      refine xr_iconst (pc := 85) X dX6_answerComes_85 (v := 5) (by decide) ?_
      refine xr_callSI (na := 3) (pc := 86) X [.ref (ad aa1), .int pp2, .int 5] (c_X6_of Γ.2.1 hI nn1 aa1 hh1 pp2 5 σ11) (wG_S wm_11_14 wm_11_12 wm_11_13 wm_1_5) rfl rfl rfl (by decide +kernel) ⟨Nat.le_of_ble_eq_true rfl, Nat.le_of_ble_eq_true rfl⟩ rfl rfl (Nat.le_of_ble_eq_true rfl) ⟨Nat.le_of_ble_eq_true rfl, Nat.le_of_ble_eq_true rfl⟩ dX6_answerComes_86 (fun zz15 σ14 => ?_)
      refine xr_iload_n (pc := 89) X (i := 2) 2 rfl rfl dX6_answerComes_89 ?_
      refine xr_icmp_ge (pc := 90) X 111 (by decide) dX6_answerComes_90 (fun _ => ?_) (fun _ => ?_)
      · exact x_sub [] rfl (hKK10  _)
      refine xr_aload_n (pc := 93) X (i := 0) 0 rfl rfl dX6_answerComes_93 ?_
      refine xr_iload_n (pc := 94) X (i := 1) 1 rfl rfl dX6_answerComes_94 ?_
      refine xr_bipush (pc := 95) X dX6_answerComes_95 (v := 6) (by decide) ?_
      refine xr_callSI (na := 3) (pc := 97) X [.ref (ad aa1), .int pp2, .int 6] (c_X6_of Γ.2.1 hI nn1 aa1 hh1 pp2 6 σ14) (wG_S wm_11_14 wm_11_12 wm_11_13 wm_1_5) rfl rfl rfl (by decide +kernel) ⟨Nat.le_of_ble_eq_true rfl, Nat.le_of_ble_eq_true rfl⟩ rfl rfl (Nat.le_of_ble_eq_true rfl) ⟨Nat.le_of_ble_eq_true rfl, Nat.le_of_ble_eq_true rfl⟩ dX6_answerComes_97 (fun zz17 σ16 => ?_)
      refine xr_if_le (pc := 100) X 111 (by decide) dX6_answerComes_100 (fun _ => ?_) (fun _ => ?_)
      · exact x_sub [] rfl (hKK10  _)
      refine xr_aload_n (pc := 103) X (i := 0) 0 rfl rfl dX6_answerComes_103 ?_
      refine xr_iload_n (pc := 104) X (i := 1) 1 rfl rfl dX6_answerComes_104 ?_
      refine xr_callSV (na := 2) (pc := 105) X [.ref (ad aa1), .int pp2] (c_X6_firstAnswered Γ.2.1 hI nn1 aa1 hh1 pp2 σ16) (wG_S wm_13_15 wm_13_13 wm_13_14 wm_1_5) rfl rfl rfl (by decide +kernel) ⟨Nat.le_of_ble_eq_true rfl, Nat.le_of_ble_eq_true rfl⟩ rfl rfl (Nat.le_of_ble_eq_true rfl) ⟨Nat.le_of_ble_eq_true rfl, Nat.le_of_ble_eq_true rfl⟩ dX6_answerComes_105 (fun σ18 => ?_)
      refine xr_goto (pc := 108) X 83 (by decide) dX6_answerComes_108 ?_
      exact ihh13  _
  refine x_sub [0, 1, 2] rfl (hLL19 _ (fun σ8 => ?_) _ _)
  exact xr_vret (pc := 111) X (Nat.le_refl _) (Nat.le_refl _) dX6_answerComes_111
def L_X6_writerTicks_96 (nn1 : Nat) (aa1 : Nat) (pp2 : Int32) (KK26 : Int32 → xS → Option xS) : Nat → Int32 → xS → Option xS
  | 0, _, _ => none
  | nn_30 + 1, zz28, σ29 => xbI (F_X6_of nn1 aa1 pp2 13 σ29) (fun (zz33 : Int32) (σ32 : xS) => if zz33 ≤ 0 then (KK26 zz28 σ32)
 else (xbI (F_X6_of nn1 aa1 pp2 27 σ32) (fun (zz35 : Int32) (σ34 : xS) => if xin (1 : Int32) nn1 = true then (xlet (σ34 aa1 (1 : Int32).toNatClampNeg) (fun (zz36 : Int32) => if ¬ zz35 = zz36 then (KK26 zz28 σ34)
 else (xbV (F_X6_answerComes nn1 aa1 pp2 σ34) (fun (σ37 : xS) => L_X6_writerTicks_96 nn1 aa1 pp2 KK26 nn_30 1 σ37)))) else none)))
def L_X6_writerTicks_26 (nn1 : Nat) (aa1 : Nat) (pp2 : Int32) (zz7 : Int32) (KK42 : xS → Option xS) : Nat → Int32 → xS → Option xS
  | 0, _, _ => none
  | nn_46 + 1, zz44, σ45 => if zz7 ≤ zz44 then (KK42 σ45)
 else (xbI (F_X6_of nn1 aa1 pp2 ((15 + (2 * zz44)) + 1) σ45) (fun (zz49 : Int32) (σ48 : xS) => if xin (1 : Int32) nn1 = true then (xlet (σ48 aa1 (1 : Int32).toNatClampNeg) (fun (zz50 : Int32) => if ¬ zz49 = zz50 then (xlet (zz44 + 1) (fun (zz51 : Int32) => L_X6_writerTicks_26 nn1 aa1 pp2 zz7 KK42 nn_46 zz51 σ48))
 else (xbI (F_X6_of nn1 aa1 pp2 (15 + (2 * zz44)) σ48) (fun (zz53 : Int32) (σ52 : xS) => xbV (F_X6_letterComes nn1 aa1 pp2 zz53 σ52) (fun (σ54 : xS) => xlet (zz44 + 1) (fun (zz55 : Int32) => L_X6_writerTicks_26 nn1 aa1 pp2 zz7 KK42 nn_46 zz55 σ54)))))) else none))
def F_X6_writerTicks (nn1 aa1 : Nat) (pp2 : Int32) (σ : xS) : Option xS :=
  xbI (F_X6_of nn1 aa1 pp2 9 σ) (fun (zz2 : Int32) (σ1 : xS) => xbI (F_X6_of nn1 aa1 pp2 5 σ1) (fun (zz4 : Int32) (σ3 : xS) => xlet (zz2 - zz4) (fun (zz5 : Int32) => xbI (F_X6_of nn1 aa1 pp2 6 σ3) (fun (zz7 : Int32) (σ6 : xS) => L_X6_writerTicks_26 nn1 aa1 pp2 zz7 (fun (σ8 : xS) => xbI (F_X6_of nn1 aa1 pp2 11 σ8) (fun (zz10 : Int32) (σ9 : xS) => if xin (1 : Int32) nn1 = true then (xlet (σ9 aa1 (1 : Int32).toNatClampNeg) (fun (zz11 : Int32) => xjn (fun (σ12 : xS) => L_X6_writerTicks_96 nn1 aa1 pp2 (fun (zz13 : Int32) (σ14 : xS) => xjn (fun (σ15 : xS) => xbI (F_X6_of nn1 aa1 pp2 4 σ15) (fun (zz17 : Int32) (σ16 : xS) => xbI (F_X6_of nn1 aa1 pp2 0 σ16) (fun (zz19 : Int32) (σ18 : xS) => if zz19 ≤ 0 then (xbV (F_X6_lay nn1 aa1 pp2 4 (zz17 + 0) σ18) (fun (σ20 : xS) => some σ20))
 else (xbV (F_X6_lay nn1 aa1 pp2 4 (zz17 + 1) σ18) (fun (σ21 : xS) => some σ21)))))
 (fun (KK22 : xS → Option xS) => if zz13 = 0 then (KK22 σ14)
 else (xbI (F_X6_sendsAsItDoes nn1 aa1 pp2 σ14) (fun (zz25 : Int32) (σ24 : xS) => KK22 σ24)))) 1000 0 σ12)
 (fun (KK39 : xS → Option xS) => if ¬ zz10 = zz11 then (KK39 σ9)
 else (xbV (F_X6_answers nn1 aa1 pp2 σ9) (fun (σ41 : xS) => KK39 σ41))))) else none)) 1000 zz5 σ6))))
abbrev rm_X6_writerTicks : Room := { frames := 4, cells := 0, slots := 0, locals := 93 }
set_option maxHeartbeats 4000000 in
set_option maxRecDepth 100000 in
theorem c_X6_writerTicks (l : Launch) {D : va_G} {ad : Nat → Nat} {N : Nat} {Sh : xSh} (hI : ∀ i j, i < N → j < N → ad i = ad j → i = j) (nn1 aa1 : Nat) (hh1 : xHas N Sh aa1 (shI D nn1)) (pp2 : Int32) (σ : xS) : xKV l yX6_writerTicks (Cond.code yX6_writerTicks cX6_writerTicks 5 none :: wG) rm_X6_writerTicks 0 0 D ad N Sh [.ref (ad aa1), .int pp2] σ (F_X6_writerTicks nn1 aa1 pp2 σ) := by
  refine x_startV (own := RX6) (maxL := 5) (by decide) rfl rfl (Nat.le_of_ble_eq_true rfl) rfl hI (fun Γ hl hnL X => ?_)
  subst hl
  unfold F_X6_writerTicks
  refine xr_aload_n (pc := 0) X (i := 0) 0 rfl rfl dX6_writerTicks_0 ?_
  refine xr_iload_n (pc := 1) X (i := 1) 1 rfl rfl dX6_writerTicks_1 ?_
  refine xr_bipush (pc := 2) X dX6_writerTicks_2 (v := 9) (by decide) ?_
  refine xr_callSI (na := 3) (pc := 4) X [.ref (ad aa1), .int pp2, .int 9] (c_X6_of Γ.2.1 hI nn1 aa1 hh1 pp2 9 σ) (wG_S wm_11_14 wm_11_12 wm_11_13 wm_1_5) rfl rfl rfl (by decide +kernel) ⟨Nat.le_of_ble_eq_true rfl, Nat.le_of_ble_eq_true rfl⟩ rfl rfl (Nat.le_of_ble_eq_true rfl) ⟨Nat.le_of_ble_eq_true rfl, Nat.le_of_ble_eq_true rfl⟩ dX6_writerTicks_4 (fun zz2 σ1 => ?_)
  refine xr_aload_n (pc := 7) X (i := 0) 0 rfl rfl dX6_writerTicks_7 ?_
  refine xr_iload_n (pc := 8) X (i := 1) 1 rfl rfl dX6_writerTicks_8 ?_
  refine xr_iconst (pc := 9) X dX6_writerTicks_9 (v := 5) (by decide) ?_
  refine xr_callSI (na := 3) (pc := 10) X [.ref (ad aa1), .int pp2, .int 5] (c_X6_of Γ.2.1 hI nn1 aa1 hh1 pp2 5 σ1) (wG_S wm_11_14 wm_11_12 wm_11_13 wm_1_5) rfl rfl rfl (by decide +kernel) ⟨Nat.le_of_ble_eq_true rfl, Nat.le_of_ble_eq_true rfl⟩ rfl rfl (Nat.le_of_ble_eq_true rfl) ⟨Nat.le_of_ble_eq_true rfl, Nat.le_of_ble_eq_true rfl⟩ dX6_writerTicks_10 (fun zz4 σ3 => ?_)
  refine xr_isub (pc := 13) X dX6_writerTicks_13 ?_
  refine x_leti (fun zz5 => ?_)
  refine xr_istore_n (pc := 14) X (hf := rfl) (i := 2) [1, 2, 0] (Nat.le_of_ble_eq_true rfl) hnL rfl dX6_writerTicks_14 ?_
  refine xr_aload_n (pc := 15) X (i := 0) 0 rfl rfl dX6_writerTicks_15 ?_
  refine xr_iload_n (pc := 16) X (i := 1) 1 rfl rfl dX6_writerTicks_16 ?_
  refine xr_bipush (pc := 17) X dX6_writerTicks_17 (v := 6) (by decide) ?_
  refine xr_callSI (na := 3) (pc := 19) X [.ref (ad aa1), .int pp2, .int 6] (c_X6_of Γ.2.1 hI nn1 aa1 hh1 pp2 6 σ3) (wG_S wm_11_14 wm_11_12 wm_11_13 wm_1_5) rfl rfl rfl (by decide +kernel) ⟨Nat.le_of_ble_eq_true rfl, Nat.le_of_ble_eq_true rfl⟩ rfl rfl (Nat.le_of_ble_eq_true rfl) ⟨Nat.le_of_ble_eq_true rfl, Nat.le_of_ble_eq_true rfl⟩ dX6_writerTicks_19 (fun zz7 σ6 => ?_)
  refine xr_istore_n (pc := 22) X (hf := rfl) (i := 3) [1, 2, 3, 0] (Nat.le_of_ble_eq_true rfl) hnL rfl dX6_writerTicks_22 ?_
  refine xr_iload_n (pc := 23) X (i := 2) 2 rfl rfl dX6_writerTicks_23 ?_
  refine xr_istore (pc := 24) X (i := 4) [1, 2, 4, 0] (Nat.le_of_ble_eq_true rfl) hnL rfl dX6_writerTicks_24 ?_
  have hLL56 : ∀ (KK42 : xS → Option xS) (hKK43 : ∀ σ8, xM Γ D ad N Sh (xQV Γ D ad N Sh 0 0) 0 0 (KK42 σ8) σ8 75 [(0, .ref (ad aa1)), (1, .int pp2)] []), ∀ (nn_46 : Nat) zz44 σ45, xM Γ D ad N Sh (xQV Γ D ad N Sh 0 0) 0 0 (L_X6_writerTicks_26 nn1 aa1 pp2 zz7 KK42 nn_46 zz44 σ45) σ45 26 [(0, .ref (ad aa1)), (1, .int pp2), (3, .int zz7), (4, .int zz44)] [] := by
    intro KK42 hKK43 nn_46
    induction nn_46 with
    | zero => intro zz44 σ45; exact xM_none
    | succ nn_46 ihh47 =>
      intro zz44 σ45
      rw [L_X6_writerTicks_26]
      refine xr_iload (pc := 26) X (i := 4) 3 rfl dX6_writerTicks_26 ?_
      refine xr_iload_n (pc := 28) X (i := 3) 2 rfl rfl dX6_writerTicks_28 ?_
      refine xr_icmp_ge (pc := 29) X 75 (by decide) dX6_writerTicks_29 (fun _ => ?_) (fun _ => ?_)
      · exact x_sub [0, 1] rfl (hKK43  _)
      refine xr_aload_n (pc := 32) X (i := 0) 0 rfl rfl dX6_writerTicks_32 ?_
      refine xr_iload_n (pc := 33) X (i := 1) 1 rfl rfl dX6_writerTicks_33 ?_
      refine xr_bipush (pc := 34) X dX6_writerTicks_34 (v := 15) (by decide) ?_
      refine xr_iconst (pc := 36) X dX6_writerTicks_36 (v := 2) (by decide) ?_
      refine xr_iload (pc := 37) X (i := 4) 3 rfl dX6_writerTicks_37 ?_
      refine xr_imul (pc := 39) X dX6_writerTicks_39 ?_
      refine xr_iadd (pc := 40) X dX6_writerTicks_40 ?_
      refine xr_iconst (pc := 41) X dX6_writerTicks_41 (v := 1) (by decide) ?_
      refine xr_iadd (pc := 42) X dX6_writerTicks_42 ?_
      refine xr_callSI (na := 3) (pc := 43) X [.ref (ad aa1), .int pp2, .int ((15 + (2 * zz44)) + 1)] (c_X6_of Γ.2.1 hI nn1 aa1 hh1 pp2 ((15 + (2 * zz44)) + 1) σ45) (wG_S wm_11_14 wm_11_12 wm_11_13 wm_1_5) rfl rfl rfl (by decide +kernel) ⟨Nat.le_of_ble_eq_true rfl, Nat.le_of_ble_eq_true rfl⟩ rfl rfl (Nat.le_of_ble_eq_true rfl) ⟨Nat.le_of_ble_eq_true rfl, Nat.le_of_ble_eq_true rfl⟩ dX6_writerTicks_43 (fun zz49 σ48 => ?_)
      refine xr_aload_n (pc := 46) X (i := 0) 0 rfl rfl dX6_writerTicks_46 ?_
      refine xr_iconst (pc := 47) X dX6_writerTicks_47 (v := 1) (by decide) ?_
      refine xr_iald (pc := 48) X (aa1) (nn1) hh1.1 hh1.2 dX6_writerTicks_48 (fun zz50 => ?_)
      refine xr_icmp_ne (pc := 49) X 69 (by decide) dX6_writerTicks_49 (fun _ => ?_) (fun _ => ?_)
      · refine xr_iinc (pc := 69) X (i := 4) (j := 3) [1, 2, 3, 0] (Nat.le_of_ble_eq_true rfl) hnL rfl rfl (fun zz51 => [(0, .ref (ad aa1)), (1, .int pp2), (3, .int zz7), (4, .int zz51)]) (fun _ => rfl) dX6_writerTicks_69 (fun zz51 => ?_)
        refine xr_goto (pc := 72) X 26 (by decide) dX6_writerTicks_72 ?_
        exact ihh47 _ _
      refine xr_aload_n (pc := 52) X (i := 0) 0 rfl rfl dX6_writerTicks_52 ?_
      refine xr_iload_n (pc := 53) X (i := 1) 1 rfl rfl dX6_writerTicks_53 ?_
      refine xr_aload_n (pc := 54) X (i := 0) 0 rfl rfl dX6_writerTicks_54 ?_
      refine xr_iload_n (pc := 55) X (i := 1) 1 rfl rfl dX6_writerTicks_55 ?_
      refine xr_bipush (pc := 56) X dX6_writerTicks_56 (v := 15) (by decide) ?_
      refine xr_iconst (pc := 58) X dX6_writerTicks_58 (v := 2) (by decide) ?_
      refine xr_iload (pc := 59) X (i := 4) 3 rfl dX6_writerTicks_59 ?_
      refine xr_imul (pc := 61) X dX6_writerTicks_61 ?_
      refine xr_iadd (pc := 62) X dX6_writerTicks_62 ?_
      refine xr_callSI (na := 3) (pc := 63) X [.ref (ad aa1), .int pp2, .int (15 + (2 * zz44))] (c_X6_of Γ.2.1 hI nn1 aa1 hh1 pp2 (15 + (2 * zz44)) σ48) (wG_S wm_11_14 wm_11_12 wm_11_13 wm_1_5) rfl rfl rfl (by decide +kernel) ⟨Nat.le_of_ble_eq_true rfl, Nat.le_of_ble_eq_true rfl⟩ rfl rfl (Nat.le_of_ble_eq_true rfl) ⟨Nat.le_of_ble_eq_true rfl, Nat.le_of_ble_eq_true rfl⟩ dX6_writerTicks_63 (fun zz53 σ52 => ?_)
      refine xr_callSV (na := 3) (pc := 66) X [.ref (ad aa1), .int pp2, .int zz53] (c_X6_letterComes Γ.2.1 hI nn1 aa1 hh1 pp2 zz53 σ52) (wG_S wm_13_6 wm_13_4 wm_13_5 wm_1_5) rfl rfl rfl (by decide +kernel) ⟨Nat.le_of_ble_eq_true rfl, Nat.le_of_ble_eq_true rfl⟩ rfl rfl (Nat.le_of_ble_eq_true rfl) ⟨Nat.le_of_ble_eq_true rfl, Nat.le_of_ble_eq_true rfl⟩ dX6_writerTicks_66 (fun σ54 => ?_)
      refine xr_iinc (pc := 69) X (i := 4) (j := 3) [1, 2, 3, 0] (Nat.le_of_ble_eq_true rfl) hnL rfl rfl (fun zz55 => [(0, .ref (ad aa1)), (1, .int pp2), (3, .int zz7), (4, .int zz55)]) (fun _ => rfl) dX6_writerTicks_69 (fun zz55 => ?_)
      refine xr_goto (pc := 72) X 26 (by decide) dX6_writerTicks_72 ?_
      exact ihh47 _ _
  refine hLL56 _ (fun σ8 => ?_) _ _ _
  refine xr_aload_n (pc := 75) X (i := 0) 0 rfl rfl dX6_writerTicks_75 ?_
  refine xr_iload_n (pc := 76) X (i := 1) 1 rfl rfl dX6_writerTicks_76 ?_
  refine xr_bipush (pc := 77) X dX6_writerTicks_77 (v := 11) (by decide) ?_
  refine xr_callSI (na := 3) (pc := 79) X [.ref (ad aa1), .int pp2, .int 11] (c_X6_of Γ.2.1 hI nn1 aa1 hh1 pp2 11 σ8) (wG_S wm_11_14 wm_11_12 wm_11_13 wm_1_5) rfl rfl rfl (by decide +kernel) ⟨Nat.le_of_ble_eq_true rfl, Nat.le_of_ble_eq_true rfl⟩ rfl rfl (Nat.le_of_ble_eq_true rfl) ⟨Nat.le_of_ble_eq_true rfl, Nat.le_of_ble_eq_true rfl⟩ dX6_writerTicks_79 (fun zz10 σ9 => ?_)
  refine xr_aload_n (pc := 82) X (i := 0) 0 rfl rfl dX6_writerTicks_82 ?_
  refine xr_iconst (pc := 83) X dX6_writerTicks_83 (v := 1) (by decide) ?_
  refine xr_iald (pc := 84) X (aa1) (nn1) hh1.1 hh1.2 dX6_writerTicks_84 (fun zz11 => ?_)
  refine x_jn (fun (KK39 : xS → Option xS) => ∀ σ12, xM Γ D ad N Sh (xQV Γ D ad N Sh 0 0) 0 0 (KK39 σ12) σ12 93 [(0, .ref (ad aa1)), (1, .int pp2)] []) (fun σ12 => ?_) (fun KK39 hKK40 => ?_)
  · refine xr_iconst (pc := 93) X dX6_writerTicks_93 (v := 0) (by decide) ?_
    refine xr_istore (pc := 94) X (i := 4) [1, 2, 0] (Nat.le_of_ble_eq_true rfl) hnL rfl dX6_writerTicks_94 ?_
    have hLL38 : ∀ (KK26 : Int32 → xS → Option xS) (hKK27 : ∀ zz13 σ14, xM Γ D ad N Sh (xQV Γ D ad N Sh 0 0) 0 0 (KK26 zz13 σ14) σ14 130 [(0, .ref (ad aa1)), (1, .int pp2), (4, .int zz13)] []), ∀ (nn_30 : Nat) zz28 σ29, xM Γ D ad N Sh (xQV Γ D ad N Sh 0 0) 0 0 (L_X6_writerTicks_96 nn1 aa1 pp2 KK26 nn_30 zz28 σ29) σ29 96 [(0, .ref (ad aa1)), (1, .int pp2), (4, .int zz28)] [] := by
      intro KK26 hKK27 nn_30
      induction nn_30 with
      | zero => intro zz28 σ29; exact xM_none
      | succ nn_30 ihh31 =>
        intro zz28 σ29
        rw [L_X6_writerTicks_96]
        refine xr_aload_n (pc := 96) X (i := 0) 0 rfl rfl dX6_writerTicks_96 ?_
        refine xr_iload_n (pc := 97) X (i := 1) 1 rfl rfl dX6_writerTicks_97 ?_
        refine xr_bipush (pc := 98) X dX6_writerTicks_98 (v := 13) (by decide) ?_
        refine xr_callSI (na := 3) (pc := 100) X [.ref (ad aa1), .int pp2, .int 13] (c_X6_of Γ.2.1 hI nn1 aa1 hh1 pp2 13 σ29) (wG_S wm_11_14 wm_11_12 wm_11_13 wm_1_5) rfl rfl rfl (by decide +kernel) ⟨Nat.le_of_ble_eq_true rfl, Nat.le_of_ble_eq_true rfl⟩ rfl rfl (Nat.le_of_ble_eq_true rfl) ⟨Nat.le_of_ble_eq_true rfl, Nat.le_of_ble_eq_true rfl⟩ dX6_writerTicks_100 (fun zz33 σ32 => ?_)
        refine xr_if_le (pc := 103) X 130 (by decide) dX6_writerTicks_103 (fun _ => ?_) (fun _ => ?_)
        · exact hKK27 _ _
        refine xr_aload_n (pc := 106) X (i := 0) 0 rfl rfl dX6_writerTicks_106 ?_
        refine xr_iload_n (pc := 107) X (i := 1) 1 rfl rfl dX6_writerTicks_107 ?_
        refine xr_bipush (pc := 108) X dX6_writerTicks_108 (v := 27) (by decide) ?_
        refine xr_callSI (na := 3) (pc := 110) X [.ref (ad aa1), .int pp2, .int 27] (c_X6_of Γ.2.1 hI nn1 aa1 hh1 pp2 27 σ32) (wG_S wm_11_14 wm_11_12 wm_11_13 wm_1_5) rfl rfl rfl (by decide +kernel) ⟨Nat.le_of_ble_eq_true rfl, Nat.le_of_ble_eq_true rfl⟩ rfl rfl (Nat.le_of_ble_eq_true rfl) ⟨Nat.le_of_ble_eq_true rfl, Nat.le_of_ble_eq_true rfl⟩ dX6_writerTicks_110 (fun zz35 σ34 => ?_)
        refine xr_aload_n (pc := 113) X (i := 0) 0 rfl rfl dX6_writerTicks_113 ?_
        refine xr_iconst (pc := 114) X dX6_writerTicks_114 (v := 1) (by decide) ?_
        refine xr_iald (pc := 115) X (aa1) (nn1) hh1.1 hh1.2 dX6_writerTicks_115 (fun zz36 => ?_)
        refine xr_icmp_ne (pc := 116) X 130 (by decide) dX6_writerTicks_116 (fun _ => ?_) (fun _ => ?_)
        · exact hKK27 _ _
        refine xr_aload_n (pc := 119) X (i := 0) 0 rfl rfl dX6_writerTicks_119 ?_
        refine xr_iload_n (pc := 120) X (i := 1) 1 rfl rfl dX6_writerTicks_120 ?_
        refine xr_callSV (na := 2) (pc := 121) X [.ref (ad aa1), .int pp2] (c_X6_answerComes Γ.2.1 hI nn1 aa1 hh1 pp2 σ34) (wG_S wm_13_12 wm_13_10 wm_13_11 wm_1_5) rfl rfl rfl (by decide +kernel) ⟨Nat.le_of_ble_eq_true rfl, Nat.le_of_ble_eq_true rfl⟩ rfl rfl (Nat.le_of_ble_eq_true rfl) ⟨Nat.le_of_ble_eq_true rfl, Nat.le_of_ble_eq_true rfl⟩ dX6_writerTicks_121 (fun σ37 => ?_)
        refine xr_iconst (pc := 124) X dX6_writerTicks_124 (v := 1) (by decide) ?_
        refine xr_istore (pc := 125) X (i := 4) [1, 2, 0] (Nat.le_of_ble_eq_true rfl) hnL rfl dX6_writerTicks_125 ?_
        refine xr_goto (pc := 127) X 96 (by decide) dX6_writerTicks_127 ?_
        exact ihh31 _ _
    refine hLL38 _ (fun zz13 σ14 => ?_) _ _ _
    refine xr_iload (pc := 130) X (i := 4) 2 rfl dX6_writerTicks_130 ?_
    refine x_jn (fun (KK22 : xS → Option xS) => ∀ σ15, xM Γ D ad N Sh (xQV Γ D ad N Sh 0 0) 0 0 (KK22 σ15) σ15 141 [(0, .ref (ad aa1)), (1, .int pp2)] []) (fun σ15 => ?_) (fun KK22 hKK23 => ?_)
    · refine xr_aload_n (pc := 141) X (i := 0) 0 rfl rfl dX6_writerTicks_141 ?_
      refine xr_iload_n (pc := 142) X (i := 1) 1 rfl rfl dX6_writerTicks_142 ?_
      refine xr_iconst (pc := 143) X dX6_writerTicks_143 (v := 4) (by decide) ?_
      refine xr_aload_n (pc := 144) X (i := 0) 0 rfl rfl dX6_writerTicks_144 ?_
      refine xr_iload_n (pc := 145) X (i := 1) 1 rfl rfl dX6_writerTicks_145 ?_
      refine xr_iconst (pc := 146) X dX6_writerTicks_146 (v := 4) (by decide) ?_
      refine xr_callSI (na := 3) (pc := 147) X [.ref (ad aa1), .int pp2, .int 4] (c_X6_of Γ.2.1 hI nn1 aa1 hh1 pp2 4 σ15) (wG_S wm_11_14 wm_11_12 wm_11_13 wm_1_5) rfl rfl rfl (by decide +kernel) ⟨Nat.le_of_ble_eq_true rfl, Nat.le_of_ble_eq_true rfl⟩ rfl rfl (Nat.le_of_ble_eq_true rfl) ⟨Nat.le_of_ble_eq_true rfl, Nat.le_of_ble_eq_true rfl⟩ dX6_writerTicks_147 (fun zz17 σ16 => ?_)
      refine xr_aload_n (pc := 150) X (i := 0) 0 rfl rfl dX6_writerTicks_150 ?_
      refine xr_iload_n (pc := 151) X (i := 1) 1 rfl rfl dX6_writerTicks_151 ?_
      refine xr_iconst (pc := 152) X dX6_writerTicks_152 (v := 0) (by decide) ?_
      refine xr_callSI (na := 3) (pc := 153) X [.ref (ad aa1), .int pp2, .int 0] (c_X6_of Γ.2.1 hI nn1 aa1 hh1 pp2 0 σ16) (wG_S wm_11_14 wm_11_12 wm_11_13 wm_1_5) rfl rfl rfl (by decide +kernel) ⟨Nat.le_of_ble_eq_true rfl, Nat.le_of_ble_eq_true rfl⟩ rfl rfl (Nat.le_of_ble_eq_true rfl) ⟨Nat.le_of_ble_eq_true rfl, Nat.le_of_ble_eq_true rfl⟩ dX6_writerTicks_153 (fun zz19 σ18 => ?_)
      refine xr_if_le (pc := 156) X 163 (by decide) dX6_writerTicks_156 (fun _ => ?_) (fun _ => ?_)
      · refine xr_iconst (pc := 163) X dX6_writerTicks_163 (v := 0) (by decide) ?_
        refine xr_iadd (pc := 164) X dX6_writerTicks_164 ?_
        refine xr_callSV (na := 4) (pc := 165) X [.ref (ad aa1), .int pp2, .int 4, .int (zz17 + 0)] (c_X6_lay Γ.2.1 hI nn1 aa1 hh1 pp2 4 (zz17 + 0) σ18) (wG_S wm_6_8 wm_6_6 wm_6_7 wm_1_5) rfl rfl rfl (by decide +kernel) ⟨Nat.le_of_ble_eq_true rfl, Nat.le_of_ble_eq_true rfl⟩ rfl rfl (Nat.le_of_ble_eq_true rfl) ⟨Nat.le_of_ble_eq_true rfl, Nat.le_of_ble_eq_true rfl⟩ dX6_writerTicks_165 (fun σ20 => ?_)
        exact xr_vret (pc := 168) X (Nat.le_refl _) (Nat.le_refl _) dX6_writerTicks_168
      refine xr_iconst (pc := 159) X dX6_writerTicks_159 (v := 1) (by decide) ?_
      refine xr_goto (pc := 160) X 164 (by decide) dX6_writerTicks_160 ?_
      refine xr_iadd (pc := 164) X dX6_writerTicks_164 ?_
      refine xr_callSV (na := 4) (pc := 165) X [.ref (ad aa1), .int pp2, .int 4, .int (zz17 + 1)] (c_X6_lay Γ.2.1 hI nn1 aa1 hh1 pp2 4 (zz17 + 1) σ18) (wG_S wm_6_8 wm_6_6 wm_6_7 wm_1_5) rfl rfl rfl (by decide +kernel) ⟨Nat.le_of_ble_eq_true rfl, Nat.le_of_ble_eq_true rfl⟩ rfl rfl (Nat.le_of_ble_eq_true rfl) ⟨Nat.le_of_ble_eq_true rfl, Nat.le_of_ble_eq_true rfl⟩ dX6_writerTicks_165 (fun σ21 => ?_)
      exact xr_vret (pc := 168) X (Nat.le_refl _) (Nat.le_refl _) dX6_writerTicks_168
    refine xr_if_eq (pc := 132) X 141 (by decide) dX6_writerTicks_132 (fun _ => ?_) (fun _ => ?_)
    · exact x_sub [0, 1] rfl (hKK23  _)
    refine xr_aload_n (pc := 135) X (i := 0) 0 rfl rfl dX6_writerTicks_135 ?_
    refine xr_iload_n (pc := 136) X (i := 1) 1 rfl rfl dX6_writerTicks_136 ?_
    refine xr_callSI (na := 2) (pc := 137) X [.ref (ad aa1), .int pp2] (c_X6_sendsAsItDoes Γ.2.1 hI nn1 aa1 hh1 pp2 σ14) (wG_S wm_11_20 wm_11_18 wm_11_19 wm_1_5) rfl rfl rfl (by decide +kernel) ⟨Nat.le_of_ble_eq_true rfl, Nat.le_of_ble_eq_true rfl⟩ rfl rfl (Nat.le_of_ble_eq_true rfl) ⟨Nat.le_of_ble_eq_true rfl, Nat.le_of_ble_eq_true rfl⟩ dX6_writerTicks_137 (fun zz25 σ24 => ?_)
    refine xr_pop (pc := 140) X rfl dX6_writerTicks_140 ?_
    exact x_sub [0, 1] rfl (hKK23  _)
  refine xr_icmp_ne (pc := 85) X 93 (by decide) dX6_writerTicks_85 (fun _ => ?_) (fun _ => ?_)
  · exact hKK40  _
  refine xr_aload_n (pc := 88) X (i := 0) 0 rfl rfl dX6_writerTicks_88 ?_
  refine xr_iload_n (pc := 89) X (i := 1) 1 rfl rfl dX6_writerTicks_89 ?_
  refine xr_callSV (na := 2) (pc := 90) X [.ref (ad aa1), .int pp2] (c_X6_answers Γ.2.1 hI nn1 aa1 hh1 pp2 σ9) (wG_S wm_13_9 wm_13_7 wm_13_8 wm_1_5) rfl rfl rfl (by decide +kernel) ⟨Nat.le_of_ble_eq_true rfl, Nat.le_of_ble_eq_true rfl⟩ rfl rfl (Nat.le_of_ble_eq_true rfl) ⟨Nat.le_of_ble_eq_true rfl, Nat.le_of_ble_eq_true rfl⟩ dX6_writerTicks_90 (fun σ41 => ?_)
  exact hKK40  _
def L_X6_notesAreWritten_8 (nn1 : Nat) (aa1 : Nat) (zz1 : Int32) (KK5 : Int32 → xS → Option xS) : Nat → Int32 → Int32 → xS → Option xS
  | 0, _, _, _ => none
  | nn_10 + 1, zz7, zz8, σ9 => if zz1 ≤ zz8 then (KK5 zz7 σ9)
 else (xlet (7 + (3 * zz8)) (fun (zz12 : Int32) => if xin (zz12 + 1) nn1 = true then (xlet (σ9 aa1 (zz12 + 1).toNatClampNeg) (fun (zz13 : Int32) => if xin zz12 nn1 = true then (xlet (σ9 aa1 zz12.toNatClampNeg) (fun (zz14 : Int32) => if xin (1 : Int32) nn1 = true then (xlet (σ9 aa1 (1 : Int32).toNatClampNeg) (fun (zz15 : Int32) => if zz14 = zz15 then (if xin (zz12 + 2) nn1 = true then (xlet (σ9 aa1 (zz12 + 2).toNatClampNeg) (fun (zz16 : Int32) => xbI (F_X6_canWrite nn1 aa1 zz13 zz16 σ9) (fun (zz18 : Int32) (σ17 : xS) => if zz18 = 0 then (xlet (zz8 + 1) (fun (zz19 : Int32) => L_X6_notesAreWritten_8 nn1 aa1 zz1 KK5 nn_10 zz7 zz19 σ17))
 else (if xin (zz12 + 2) nn1 = true then (xlet (σ17 aa1 (zz12 + 2).toNatClampNeg) (fun (zz20 : Int32) => xbI (F_X6_writeOn nn1 aa1 zz13 zz20 σ17) (fun (zz22 : Int32) (σ21 : xS) => xlet (zz8 + 1) (fun (zz23 : Int32) => L_X6_notesAreWritten_8 nn1 aa1 zz1 KK5 nn_10 zz7 zz23 σ21)))) else none)))) else none)
 else (if xin zz12 nn1 = true then (xlet (σ9 aa1 zz12.toNatClampNeg) (fun (zz24 : Int32) => if xin (7 + (3 * zz7)) nn1 = true then (xlet (xu σ9 aa1 (7 + (3 * zz7)).toNatClampNeg zz24) (fun (σ25 : xS) => if xin ((7 + (3 * zz7)) + 1) nn1 = true then (xlet (xu σ25 aa1 ((7 + (3 * zz7)) + 1).toNatClampNeg zz13) (fun (σ26 : xS) => if xin (zz12 + 2) nn1 = true then (xlet (σ26 aa1 (zz12 + 2).toNatClampNeg) (fun (zz27 : Int32) => if xin ((7 + (3 * zz7)) + 2) nn1 = true then (xlet (xu σ26 aa1 ((7 + (3 * zz7)) + 2).toNatClampNeg zz27) (fun (σ28 : xS) => xlet (zz7 + 1) (fun (zz29 : Int32) => xlet (zz8 + 1) (fun (zz30 : Int32) => L_X6_notesAreWritten_8 nn1 aa1 zz1 KK5 nn_10 zz29 zz30 σ28)))) else none)) else none)) else none)) else none)) else none))) else none)) else none)) else none))
def F_X6_notesAreWritten (nn1 aa1 : Nat) (σ : xS) : Option xS :=
  if xin (2 : Int32) nn1 = true then (xlet (σ aa1 (2 : Int32).toNatClampNeg) (fun (zz1 : Int32) => L_X6_notesAreWritten_8 nn1 aa1 zz1 (fun (zz2 : Int32) (σ3 : xS) => if xin (2 : Int32) nn1 = true then (xlet (xu σ3 aa1 (2 : Int32).toNatClampNeg zz2) (fun (σ4 : xS) => some σ4)) else none) 1000 0 0 σ)) else none
abbrev rm_X6_notesAreWritten : Room := { frames := 5, cells := 0, slots := 0, locals := 115 }
set_option maxHeartbeats 4000000 in
set_option maxRecDepth 100000 in
theorem c_X6_notesAreWritten (l : Launch) {D : va_G} {ad : Nat → Nat} {N : Nat} {Sh : xSh} (hI : ∀ i j, i < N → j < N → ad i = ad j → i = j) (nn1 aa1 : Nat) (hh1 : xHas N Sh aa1 (shI D nn1)) (σ : xS) : xKV l yX6_notesAreWritten (Cond.code yX6_notesAreWritten cX6_notesAreWritten 6 none :: wG) rm_X6_notesAreWritten 0 0 D ad N Sh [.ref (ad aa1)] σ (F_X6_notesAreWritten nn1 aa1 σ) := by
  refine x_startV (own := RX6) (maxL := 6) (by decide) rfl rfl (Nat.le_of_ble_eq_true rfl) rfl hI (fun Γ hl hnL X => ?_)
  subst hl
  unfold F_X6_notesAreWritten
  refine xr_iconst (pc := 0) X dX6_notesAreWritten_0 (v := 0) (by decide) ?_
  refine xr_istore_n (pc := 1) X (hf := rfl) (i := 1) [1, 0] (Nat.le_of_ble_eq_true rfl) hnL rfl dX6_notesAreWritten_1 ?_
  refine xr_aload_n (pc := 2) X (i := 0) 0 rfl rfl dX6_notesAreWritten_2 ?_
  refine xr_iconst (pc := 3) X dX6_notesAreWritten_3 (v := 2) (by decide) ?_
  refine xr_iald (pc := 4) X (aa1) (nn1) hh1.1 hh1.2 dX6_notesAreWritten_4 (fun zz1 => ?_)
  refine xr_istore_n (pc := 5) X (hf := rfl) (i := 2) [1, 2, 0] (Nat.le_of_ble_eq_true rfl) hnL rfl dX6_notesAreWritten_5 ?_
  refine xr_iconst (pc := 6) X dX6_notesAreWritten_6 (v := 0) (by decide) ?_
  refine xr_istore_n (pc := 7) X (hf := rfl) (i := 3) [1, 2, 3, 0] (Nat.le_of_ble_eq_true rfl) hnL rfl dX6_notesAreWritten_7 ?_
  have hLL31 : ∀ (KK5 : Int32 → xS → Option xS) (hKK6 : ∀ zz2 σ3, xM Γ D ad N Sh (xQV Γ D ad N Sh 0 0) 0 0 (KK5 zz2 σ3) σ3 119 [(0, .ref (ad aa1)), (1, .int zz2)] []), ∀ (nn_10 : Nat) zz7 zz8 σ9, xM Γ D ad N Sh (xQV Γ D ad N Sh 0 0) 0 0 (L_X6_notesAreWritten_8 nn1 aa1 zz1 KK5 nn_10 zz7 zz8 σ9) σ9 8 [(0, .ref (ad aa1)), (1, .int zz7), (2, .int zz1), (3, .int zz8)] [] := by
    intro KK5 hKK6 nn_10
    induction nn_10 with
    | zero => intro zz7 zz8 σ9; exact xM_none
    | succ nn_10 ihh11 =>
      intro zz7 zz8 σ9
      rw [L_X6_notesAreWritten_8]
      refine xr_iload_n (pc := 8) X (i := 3) 3 rfl rfl dX6_notesAreWritten_8 ?_
      refine xr_iload_n (pc := 9) X (i := 2) 2 rfl rfl dX6_notesAreWritten_9 ?_
      refine xr_icmp_ge (pc := 10) X 119 (by decide) dX6_notesAreWritten_10 (fun _ => ?_) (fun _ => ?_)
      · exact x_sub [0, 1] rfl (hKK6 _ _)
      refine xr_bipush (pc := 13) X dX6_notesAreWritten_13 (v := 7) (by decide) ?_
      refine xr_iconst (pc := 15) X dX6_notesAreWritten_15 (v := 3) (by decide) ?_
      refine xr_iload_n (pc := 16) X (i := 3) 3 rfl rfl dX6_notesAreWritten_16 ?_
      refine xr_imul (pc := 17) X dX6_notesAreWritten_17 ?_
      refine xr_iadd (pc := 18) X dX6_notesAreWritten_18 ?_
      refine x_leti (fun zz12 => ?_)
      refine xr_istore (pc := 19) X (i := 4) [1, 2, 3, 4, 0] (Nat.le_of_ble_eq_true rfl) hnL rfl dX6_notesAreWritten_19 ?_
      refine xr_aload_n (pc := 21) X (i := 0) 0 rfl rfl dX6_notesAreWritten_21 ?_
      refine xr_iload (pc := 22) X (i := 4) 4 rfl dX6_notesAreWritten_22 ?_
      refine xr_iconst (pc := 24) X dX6_notesAreWritten_24 (v := 1) (by decide) ?_
      refine xr_iadd (pc := 25) X dX6_notesAreWritten_25 ?_
      refine xr_iald (pc := 26) X (aa1) (nn1) hh1.1 hh1.2 dX6_notesAreWritten_26 (fun zz13 => ?_)
      refine xr_istore (pc := 27) X (i := 5) [1, 2, 3, 4, 5, 0] (Nat.le_of_ble_eq_true rfl) hnL rfl dX6_notesAreWritten_27 ?_
      refine xr_aload_n (pc := 29) X (i := 0) 0 rfl rfl dX6_notesAreWritten_29 ?_
      refine xr_iload (pc := 30) X (i := 4) 4 rfl dX6_notesAreWritten_30 ?_
      refine xr_iald (pc := 32) X (aa1) (nn1) hh1.1 hh1.2 dX6_notesAreWritten_32 (fun zz14 => ?_)
      refine xr_aload_n (pc := 33) X (i := 0) 0 rfl rfl dX6_notesAreWritten_33 ?_
      refine xr_iconst (pc := 34) X dX6_notesAreWritten_34 (v := 1) (by decide) ?_
      refine xr_iald (pc := 35) X (aa1) (nn1) hh1.1 hh1.2 dX6_notesAreWritten_35 (fun zz15 => ?_)
      refine xr_icmp_eq (pc := 36) X 85 (by decide) dX6_notesAreWritten_36 (fun _ => ?_) (fun _ => ?_)
      · refine xr_aload_n (pc := 85) X (i := 0) 0 rfl rfl dX6_notesAreWritten_85 ?_
        refine xr_iload (pc := 86) X (i := 5) 5 rfl dX6_notesAreWritten_86 ?_
        refine xr_aload_n (pc := 88) X (i := 0) 0 rfl rfl dX6_notesAreWritten_88 ?_
        refine xr_iload (pc := 89) X (i := 4) 4 rfl dX6_notesAreWritten_89 ?_
        refine xr_iconst (pc := 91) X dX6_notesAreWritten_91 (v := 2) (by decide) ?_
        refine xr_iadd (pc := 92) X dX6_notesAreWritten_92 ?_
        refine xr_iald (pc := 93) X (aa1) (nn1) hh1.1 hh1.2 dX6_notesAreWritten_93 (fun zz16 => ?_)
        refine xr_callSI (na := 3) (pc := 94) X [.ref (ad aa1), .int zz13, .int zz16] (c_X6_canWrite Γ.2.1 hI nn1 aa1 hh1 zz13 zz16 σ9) (wG_S wm_11_11 wm_11_9 wm_11_10 wm_1_5) rfl rfl rfl (by decide +kernel) ⟨Nat.le_of_ble_eq_true rfl, Nat.le_of_ble_eq_true rfl⟩ rfl rfl (Nat.le_of_ble_eq_true rfl) ⟨Nat.le_of_ble_eq_true rfl, Nat.le_of_ble_eq_true rfl⟩ dX6_notesAreWritten_94 (fun zz18 σ17 => ?_)
        refine xr_if_eq (pc := 97) X 113 (by decide) dX6_notesAreWritten_97 (fun _ => ?_) (fun _ => ?_)
        · refine xr_iinc (pc := 113) X (i := 3) (j := 3) [1, 2, 3, 0, 4, 5] (Nat.le_of_ble_eq_true rfl) hnL rfl rfl (fun zz19 => [(0, .ref (ad aa1)), (1, .int zz7), (2, .int zz1), (3, .int zz19), (4, .int zz12), (5, .int zz13)]) (fun _ => rfl) dX6_notesAreWritten_113 (fun zz19 => ?_)
          refine xr_goto (pc := 116) X 8 (by decide) dX6_notesAreWritten_116 ?_
          exact x_sub [0, 1, 2, 3] rfl (ihh11 _ _ _)
        refine xr_aload_n (pc := 100) X (i := 0) 0 rfl rfl dX6_notesAreWritten_100 ?_
        refine xr_iload (pc := 101) X (i := 5) 5 rfl dX6_notesAreWritten_101 ?_
        refine xr_aload_n (pc := 103) X (i := 0) 0 rfl rfl dX6_notesAreWritten_103 ?_
        refine xr_iload (pc := 104) X (i := 4) 4 rfl dX6_notesAreWritten_104 ?_
        refine xr_iconst (pc := 106) X dX6_notesAreWritten_106 (v := 2) (by decide) ?_
        refine xr_iadd (pc := 107) X dX6_notesAreWritten_107 ?_
        refine xr_iald (pc := 108) X (aa1) (nn1) hh1.1 hh1.2 dX6_notesAreWritten_108 (fun zz20 => ?_)
        refine xr_callSI (na := 3) (pc := 109) X [.ref (ad aa1), .int zz13, .int zz20] (c_X6_writeOn Γ.2.1 hI nn1 aa1 hh1 zz13 zz20 σ17) (wG_S wm_11_17 wm_11_15 wm_11_16 wm_1_5) rfl rfl rfl (by decide +kernel) ⟨Nat.le_of_ble_eq_true rfl, Nat.le_of_ble_eq_true rfl⟩ rfl rfl (Nat.le_of_ble_eq_true rfl) ⟨Nat.le_of_ble_eq_true rfl, Nat.le_of_ble_eq_true rfl⟩ dX6_notesAreWritten_109 (fun zz22 σ21 => ?_)
        refine xr_pop (pc := 112) X rfl dX6_notesAreWritten_112 ?_
        refine xr_iinc (pc := 113) X (i := 3) (j := 3) [1, 2, 3, 0, 4, 5] (Nat.le_of_ble_eq_true rfl) hnL rfl rfl (fun zz23 => [(0, .ref (ad aa1)), (1, .int zz7), (2, .int zz1), (3, .int zz23), (4, .int zz12), (5, .int zz13)]) (fun _ => rfl) dX6_notesAreWritten_113 (fun zz23 => ?_)
        refine xr_goto (pc := 116) X 8 (by decide) dX6_notesAreWritten_116 ?_
        exact x_sub [0, 1, 2, 3] rfl (ihh11 _ _ _)
      refine xr_aload_n (pc := 39) X (i := 0) 0 rfl rfl dX6_notesAreWritten_39 ?_
      refine xr_bipush (pc := 40) X dX6_notesAreWritten_40 (v := 7) (by decide) ?_
      refine xr_iconst (pc := 42) X dX6_notesAreWritten_42 (v := 3) (by decide) ?_
      refine xr_iload_n (pc := 43) X (i := 1) 1 rfl rfl dX6_notesAreWritten_43 ?_
      refine xr_imul (pc := 44) X dX6_notesAreWritten_44 ?_
      refine xr_iadd (pc := 45) X dX6_notesAreWritten_45 ?_
      refine xr_aload_n (pc := 46) X (i := 0) 0 rfl rfl dX6_notesAreWritten_46 ?_
      refine xr_iload (pc := 47) X (i := 4) 4 rfl dX6_notesAreWritten_47 ?_
      refine xr_iald (pc := 49) X (aa1) (nn1) hh1.1 hh1.2 dX6_notesAreWritten_49 (fun zz24 => ?_)
      refine xr_iast (pc := 50) X (aa1) (nn1) hh1.1 hh1.2 dX6_notesAreWritten_50 (fun σ25 => ?_)
      refine xr_aload_n (pc := 51) X (i := 0) 0 rfl rfl dX6_notesAreWritten_51 ?_
      refine xr_bipush (pc := 52) X dX6_notesAreWritten_52 (v := 7) (by decide) ?_
      refine xr_iconst (pc := 54) X dX6_notesAreWritten_54 (v := 3) (by decide) ?_
      refine xr_iload_n (pc := 55) X (i := 1) 1 rfl rfl dX6_notesAreWritten_55 ?_
      refine xr_imul (pc := 56) X dX6_notesAreWritten_56 ?_
      refine xr_iadd (pc := 57) X dX6_notesAreWritten_57 ?_
      refine xr_iconst (pc := 58) X dX6_notesAreWritten_58 (v := 1) (by decide) ?_
      refine xr_iadd (pc := 59) X dX6_notesAreWritten_59 ?_
      refine xr_iload (pc := 60) X (i := 5) 5 rfl dX6_notesAreWritten_60 ?_
      refine xr_iast (pc := 62) X (aa1) (nn1) hh1.1 hh1.2 dX6_notesAreWritten_62 (fun σ26 => ?_)
      refine xr_aload_n (pc := 63) X (i := 0) 0 rfl rfl dX6_notesAreWritten_63 ?_
      refine xr_bipush (pc := 64) X dX6_notesAreWritten_64 (v := 7) (by decide) ?_
      refine xr_iconst (pc := 66) X dX6_notesAreWritten_66 (v := 3) (by decide) ?_
      refine xr_iload_n (pc := 67) X (i := 1) 1 rfl rfl dX6_notesAreWritten_67 ?_
      refine xr_imul (pc := 68) X dX6_notesAreWritten_68 ?_
      refine xr_iadd (pc := 69) X dX6_notesAreWritten_69 ?_
      refine xr_iconst (pc := 70) X dX6_notesAreWritten_70 (v := 2) (by decide) ?_
      refine xr_iadd (pc := 71) X dX6_notesAreWritten_71 ?_
      refine xr_aload_n (pc := 72) X (i := 0) 0 rfl rfl dX6_notesAreWritten_72 ?_
      refine xr_iload (pc := 73) X (i := 4) 4 rfl dX6_notesAreWritten_73 ?_
      refine xr_iconst (pc := 75) X dX6_notesAreWritten_75 (v := 2) (by decide) ?_
      refine xr_iadd (pc := 76) X dX6_notesAreWritten_76 ?_
      refine xr_iald (pc := 77) X (aa1) (nn1) hh1.1 hh1.2 dX6_notesAreWritten_77 (fun zz27 => ?_)
      refine xr_iast (pc := 78) X (aa1) (nn1) hh1.1 hh1.2 dX6_notesAreWritten_78 (fun σ28 => ?_)
      refine xr_iinc (pc := 79) X (i := 1) (j := 1) [1, 0, 2, 3, 4, 5] (Nat.le_of_ble_eq_true rfl) hnL rfl rfl (fun zz29 => [(0, .ref (ad aa1)), (1, .int zz29), (2, .int zz1), (3, .int zz8), (4, .int zz12), (5, .int zz13)]) (fun _ => rfl) dX6_notesAreWritten_79 (fun zz29 => ?_)
      refine xr_goto (pc := 82) X 113 (by decide) dX6_notesAreWritten_82 ?_
      refine xr_iinc (pc := 113) X (i := 3) (j := 3) [1, 2, 3, 0, 4, 5] (Nat.le_of_ble_eq_true rfl) hnL rfl rfl (fun zz30 => [(0, .ref (ad aa1)), (1, .int zz29), (2, .int zz1), (3, .int zz30), (4, .int zz12), (5, .int zz13)]) (fun _ => rfl) dX6_notesAreWritten_113 (fun zz30 => ?_)
      refine xr_goto (pc := 116) X 8 (by decide) dX6_notesAreWritten_116 ?_
      exact x_sub [0, 1, 2, 3] rfl (ihh11 _ _ _)
  refine hLL31 _ (fun zz2 σ3 => ?_) _ _ _ _
  refine xr_aload_n (pc := 119) X (i := 0) 0 rfl rfl dX6_notesAreWritten_119 ?_
  refine xr_iconst (pc := 120) X dX6_notesAreWritten_120 (v := 2) (by decide) ?_
  refine xr_iload_n (pc := 121) X (i := 1) 1 rfl rfl dX6_notesAreWritten_121 ?_
  refine xr_iast (pc := 122) X (aa1) (nn1) hh1.1 hh1.2 dX6_notesAreWritten_122 (fun σ4 => ?_)
  exact xr_vret (pc := 123) X (Nat.le_refl _) (Nat.le_refl _) dX6_notesAreWritten_123
def L_X6_tick_13 (nn1 : Nat) (aa1 : Nat) (KK5 : xS → Option xS) : Nat → Int32 → xS → Option xS
  | 0, _, _ => none
  | nn_9 + 1, zz7, σ8 => if xin (0 : Int32) nn1 = true then (xlet (σ8 aa1 (0 : Int32).toNatClampNeg) (fun (zz11 : Int32) => if zz11 ≤ zz7 then (KK5 σ8)
 else (xbV (F_X6_writerTicks nn1 aa1 zz7 σ8) (fun (σ12 : xS) => xlet (zz7 + 1) (fun (zz13 : Int32) => L_X6_tick_13 nn1 aa1 KK5 nn_9 zz13 σ12))))) else none
def F_X6_tick (nn1 aa1 : Nat) (σ : xS) : Option xS :=
  if xin (1 : Int32) nn1 = true then (xlet (σ aa1 (1 : Int32).toNatClampNeg) (fun (zz1 : Int32) => if xin (1 : Int32) nn1 = true then (xlet (xu σ aa1 (1 : Int32).toNatClampNeg ((zz1 + 1))) (fun (σ2 : xS) => xbV (F_X6_notesAreWritten nn1 aa1 σ2) (fun (σ3 : xS) => L_X6_tick_13 nn1 aa1 (fun (σ4 : xS) => some σ4) 1000 0 σ3))) else none)) else none
abbrev rm_X6_tick : Room := { frames := 6, cells := 0, slots := 0, locals := 140 }
set_option maxHeartbeats 4000000 in
set_option maxRecDepth 100000 in
theorem c_X6_tick (l : Launch) {D : va_G} {ad : Nat → Nat} {N : Nat} {Sh : xSh} (hI : ∀ i j, i < N → j < N → ad i = ad j → i = j) (nn1 aa1 : Nat) (hh1 : xHas N Sh aa1 (shI D nn1)) (σ : xS) : xKV l yX6_tick (Cond.code yX6_tick cX6_tick 2 none :: wG) rm_X6_tick 0 0 D ad N Sh [.ref (ad aa1)] σ (F_X6_tick nn1 aa1 σ) := by
  refine x_startV (own := RX6) (maxL := 2) (by decide) rfl rfl (Nat.le_of_ble_eq_true rfl) rfl hI (fun Γ hl hnL X => ?_)
  subst hl
  unfold F_X6_tick
  refine xr_aload_n (pc := 0) X (i := 0) 0 rfl rfl dX6_tick_0 ?_
  refine xr_iconst (pc := 1) X dX6_tick_1 (v := 1) (by decide) ?_
  refine xr_dup2 (pc := 2) X rfl rfl dX6_tick_2 ?_
  refine xr_iald (pc := 3) X (aa1) (nn1) hh1.1 hh1.2 dX6_tick_3 (fun zz1 => ?_)
  refine xr_iconst (pc := 4) X dX6_tick_4 (v := 1) (by decide) ?_
  refine xr_iadd (pc := 5) X dX6_tick_5 ?_
  refine xr_iast (pc := 6) X (aa1) (nn1) hh1.1 hh1.2 dX6_tick_6 (fun σ2 => ?_)
  refine xr_aload_n (pc := 7) X (i := 0) 0 rfl rfl dX6_tick_7 ?_
  refine xr_callSV (na := 1) (pc := 8) X [.ref (ad aa1)] (c_X6_notesAreWritten Γ.2.1 hI nn1 aa1 hh1 σ2) (wG_S wm_13_0 wm_12_22 wm_12_23 wm_1_5) rfl rfl rfl (by decide +kernel) ⟨Nat.le_of_ble_eq_true rfl, Nat.le_of_ble_eq_true rfl⟩ rfl rfl (Nat.le_of_ble_eq_true rfl) ⟨Nat.le_of_ble_eq_true rfl, Nat.le_of_ble_eq_true rfl⟩ dX6_tick_8 (fun σ3 => ?_)
  refine xr_iconst (pc := 11) X dX6_tick_11 (v := 0) (by decide) ?_
  refine xr_istore_n (pc := 12) X (hf := rfl) (i := 1) [1, 0] (Nat.le_of_ble_eq_true rfl) hnL rfl dX6_tick_12 ?_
  have hLL14 : ∀ (KK5 : xS → Option xS) (hKK6 : ∀ σ4, xM Γ D ad N Sh (xQV Γ D ad N Sh 0 0) 0 0 (KK5 σ4) σ4 31 [] []), ∀ (nn_9 : Nat) zz7 σ8, xM Γ D ad N Sh (xQV Γ D ad N Sh 0 0) 0 0 (L_X6_tick_13 nn1 aa1 KK5 nn_9 zz7 σ8) σ8 13 [(0, .ref (ad aa1)), (1, .int zz7)] [] := by
    intro KK5 hKK6 nn_9
    induction nn_9 with
    | zero => intro zz7 σ8; exact xM_none
    | succ nn_9 ihh10 =>
      intro zz7 σ8
      rw [L_X6_tick_13]
      refine xr_iload_n (pc := 13) X (i := 1) 1 rfl rfl dX6_tick_13 ?_
      refine xr_aload_n (pc := 14) X (i := 0) 0 rfl rfl dX6_tick_14 ?_
      refine xr_iconst (pc := 15) X dX6_tick_15 (v := 0) (by decide) ?_
      refine xr_iald (pc := 16) X (aa1) (nn1) hh1.1 hh1.2 dX6_tick_16 (fun zz11 => ?_)
      refine xr_icmp_ge (pc := 17) X 31 (by decide) dX6_tick_17 (fun _ => ?_) (fun _ => ?_)
      · exact x_sub [] rfl (hKK6  _)
      refine xr_aload_n (pc := 20) X (i := 0) 0 rfl rfl dX6_tick_20 ?_
      refine xr_iload_n (pc := 21) X (i := 1) 1 rfl rfl dX6_tick_21 ?_
      refine xr_callSV (na := 2) (pc := 22) X [.ref (ad aa1), .int zz7] (c_X6_writerTicks Γ.2.1 hI nn1 aa1 hh1 zz7 σ8) (wG_S wm_13_3 wm_13_1 wm_13_2 wm_1_5) rfl rfl rfl (by decide +kernel) ⟨Nat.le_of_ble_eq_true rfl, Nat.le_of_ble_eq_true rfl⟩ rfl rfl (Nat.le_of_ble_eq_true rfl) ⟨Nat.le_of_ble_eq_true rfl, Nat.le_of_ble_eq_true rfl⟩ dX6_tick_22 (fun σ12 => ?_)
      refine xr_iinc (pc := 25) X (i := 1) (j := 1) [1, 0] (Nat.le_of_ble_eq_true rfl) hnL rfl rfl (fun zz13 => [(0, .ref (ad aa1)), (1, .int zz13)]) (fun _ => rfl) dX6_tick_25 (fun zz13 => ?_)
      refine xr_goto (pc := 28) X 13 (by decide) dX6_tick_28 ?_
      exact ihh10 _ _
  refine hLL14 _ (fun σ4 => ?_) _ _ _
  exact xr_vret (pc := 31) X (Nat.le_refl _) (Nat.le_refl _) dX6_tick_31
def L_X6_ticksOn_9 (nn1 : Nat) (aa1 : Nat) (pp2 : Int32) (KK6 : xS → Option (Int32 × xS)) : Nat → Int32 → xS → Option (Int32 × xS)
  | 0, _, _ => none
  | nn_10 + 1, zz8, σ9 => if pp2 ≤ zz8 then (KK6 σ9)
 else (xbV (F_X6_tick nn1 aa1 σ9) (fun (σ12 : xS) => xlet (zz8 + 1) (fun (zz13 : Int32) => L_X6_ticksOn_9 nn1 aa1 pp2 KK6 nn_10 zz13 σ12)))
def F_X6_ticksOn (nn1 aa1 : Nat) (pp2 : Int32) (σ : xS) : Option (Int32 × xS) :=
  xbI (F_X6_sum nn1 aa1 8 σ) (fun (zz2 : Int32) (σ1 : xS) => L_X6_ticksOn_9 nn1 aa1 pp2 (fun (σ3 : xS) => xbI (F_X6_sum nn1 aa1 8 σ3) (fun (zz5 : Int32) (σ4 : xS) => some ((zz5 - zz2), σ4))) 1000 0 σ1)
abbrev rm_X6_ticksOn : Room := { frames := 7, cells := 0, slots := 0, locals := 161 }
set_option maxHeartbeats 4000000 in
set_option maxRecDepth 100000 in
theorem c_X6_ticksOn (l : Launch) {D : va_G} {ad : Nat → Nat} {N : Nat} {Sh : xSh} (hI : ∀ i j, i < N → j < N → ad i = ad j → i = j) (nn1 aa1 : Nat) (hh1 : xHas N Sh aa1 (shI D nn1)) (pp2 : Int32) (σ : xS) : xKI l yX6_ticksOn (Cond.code yX6_ticksOn cX6_ticksOn 4 (some .int) :: wG) rm_X6_ticksOn 0 0 D ad N Sh [.ref (ad aa1), .int pp2] σ (F_X6_ticksOn nn1 aa1 pp2 σ) := by
  refine x_startI (own := RX6) (maxL := 4) (by decide) rfl rfl (Nat.le_of_ble_eq_true rfl) rfl hI (fun Γ hl hnL X => ?_)
  subst hl
  unfold F_X6_ticksOn
  refine xr_aload_n (pc := 0) X (i := 0) 0 rfl rfl dX6_ticksOn_0 ?_
  refine xr_bipush (pc := 1) X dX6_ticksOn_1 (v := 8) (by decide) ?_
  refine xr_callSI (na := 2) (pc := 3) X [.ref (ad aa1), .int 8] (c_X6_sum Γ.2.1 hI nn1 aa1 hh1 8 σ) (wG_S wm_12_18 wm_12_16 wm_12_17 wm_1_5) rfl rfl rfl (by decide +kernel) ⟨Nat.le_of_ble_eq_true rfl, Nat.le_of_ble_eq_true rfl⟩ rfl rfl (Nat.le_of_ble_eq_true rfl) ⟨Nat.le_of_ble_eq_true rfl, Nat.le_of_ble_eq_true rfl⟩ dX6_ticksOn_3 (fun zz2 σ1 => ?_)
  refine xr_istore_n (pc := 6) X (hf := rfl) (i := 2) [1, 2, 0] (Nat.le_of_ble_eq_true rfl) hnL rfl dX6_ticksOn_6 ?_
  refine xr_iconst (pc := 7) X dX6_ticksOn_7 (v := 0) (by decide) ?_
  refine xr_istore_n (pc := 8) X (hf := rfl) (i := 3) [1, 2, 3, 0] (Nat.le_of_ble_eq_true rfl) hnL rfl dX6_ticksOn_8 ?_
  have hLL14 : ∀ (KK6 : xS → Option (Int32 × xS)) (hKK7 : ∀ σ3, xM Γ D ad N Sh (xQI Γ D ad N Sh 0 0) 0 0 (KK6 σ3) σ3 24 [(0, .ref (ad aa1)), (2, .int zz2)] []), ∀ (nn_10 : Nat) zz8 σ9, xM Γ D ad N Sh (xQI Γ D ad N Sh 0 0) 0 0 (L_X6_ticksOn_9 nn1 aa1 pp2 KK6 nn_10 zz8 σ9) σ9 9 [(0, .ref (ad aa1)), (1, .int pp2), (2, .int zz2), (3, .int zz8)] [] := by
    intro KK6 hKK7 nn_10
    induction nn_10 with
    | zero => intro zz8 σ9; exact xM_none
    | succ nn_10 ihh11 =>
      intro zz8 σ9
      rw [L_X6_ticksOn_9]
      refine xr_iload_n (pc := 9) X (i := 3) 3 rfl rfl dX6_ticksOn_9 ?_
      refine xr_iload_n (pc := 10) X (i := 1) 1 rfl rfl dX6_ticksOn_10 ?_
      refine xr_icmp_ge (pc := 11) X 24 (by decide) dX6_ticksOn_11 (fun _ => ?_) (fun _ => ?_)
      · exact x_sub [0, 2] rfl (hKK7  _)
      refine xr_aload_n (pc := 14) X (i := 0) 0 rfl rfl dX6_ticksOn_14 ?_
      refine xr_callSV (na := 1) (pc := 15) X [.ref (ad aa1)] (c_X6_tick Γ.2.1 hI nn1 aa1 hh1 σ9) (wG_S wm_12_21 wm_12_19 wm_12_20 wm_1_5) rfl rfl rfl (by decide +kernel) ⟨Nat.le_of_ble_eq_true rfl, Nat.le_of_ble_eq_true rfl⟩ rfl rfl (Nat.le_of_ble_eq_true rfl) ⟨Nat.le_of_ble_eq_true rfl, Nat.le_of_ble_eq_true rfl⟩ dX6_ticksOn_15 (fun σ12 => ?_)
      refine xr_iinc (pc := 18) X (i := 3) (j := 3) [1, 2, 3, 0] (Nat.le_of_ble_eq_true rfl) hnL rfl rfl (fun zz13 => [(0, .ref (ad aa1)), (1, .int pp2), (2, .int zz2), (3, .int zz13)]) (fun _ => rfl) dX6_ticksOn_18 (fun zz13 => ?_)
      refine xr_goto (pc := 21) X 9 (by decide) dX6_ticksOn_21 ?_
      exact ihh11 _ _
  refine hLL14 _ (fun σ3 => ?_) _ _ _
  refine xr_aload_n (pc := 24) X (i := 0) 0 rfl rfl dX6_ticksOn_24 ?_
  refine xr_bipush (pc := 25) X dX6_ticksOn_25 (v := 8) (by decide) ?_
  refine xr_callSI (na := 2) (pc := 27) X [.ref (ad aa1), .int 8] (c_X6_sum Γ.2.1 hI nn1 aa1 hh1 8 σ3) (wG_S wm_12_18 wm_12_16 wm_12_17 wm_1_5) rfl rfl rfl (by decide +kernel) ⟨Nat.le_of_ble_eq_true rfl, Nat.le_of_ble_eq_true rfl⟩ rfl rfl (Nat.le_of_ble_eq_true rfl) ⟨Nat.le_of_ble_eq_true rfl, Nat.le_of_ble_eq_true rfl⟩ dX6_ticksOn_27 (fun zz5 σ4 => ?_)
  refine xr_iload_n (pc := 30) X (i := 2) 1 rfl rfl dX6_ticksOn_30 ?_
  refine xr_isub (pc := 31) X dX6_ticksOn_31 ?_
  exact xr_iret (pc := 32) X (Nat.le_of_ble_eq_true rfl) (Nat.le_of_ble_eq_true rfl) dX6_ticksOn_32
def F_X6_planOn (nn1 aa1 : Nat) (pp2 : Int32) (pp3 : Int32) (pp4 : Int32) (σ : xS) : Option (Int32 × xS) :=
  if xin (2 : Int32) nn1 = true then (xlet (σ aa1 (2 : Int32).toNatClampNeg) (fun (zz1 : Int32) => xlet (7 + (3 * zz1)) (fun (zz2 : Int32) => if xin (1 : Int32) nn1 = true then (xlet (σ aa1 (1 : Int32).toNatClampNeg) (fun (zz3 : Int32) => if xin zz2 nn1 = true then (xlet (xu σ aa1 zz2.toNatClampNeg ((zz3 + pp2))) (fun (σ4 : xS) => if xin (zz2 + 1) nn1 = true then (xlet (xu σ4 aa1 (zz2 + 1).toNatClampNeg pp3) (fun (σ5 : xS) => if xin (zz2 + 2) nn1 = true then (xlet (xu σ5 aa1 (zz2 + 2).toNatClampNeg pp4) (fun (σ6 : xS) => if xin (2 : Int32) nn1 = true then (xlet (σ6 aa1 (2 : Int32).toNatClampNeg) (fun (zz7 : Int32) => if xin (2 : Int32) nn1 = true then (xlet (xu σ6 aa1 (2 : Int32).toNatClampNeg ((zz7 + 1))) (fun (σ8 : xS) => if xin (2 : Int32) nn1 = true then (xlet (σ8 aa1 (2 : Int32).toNatClampNeg) (fun (zz9 : Int32) => some (zz9, σ8))) else none)) else none)) else none)) else none)) else none)) else none)) else none))) else none
abbrev rm_X6_planOn : Room := { frames := 0, cells := 0, slots := 0, locals := 0 }
set_option maxHeartbeats 4000000 in
set_option maxRecDepth 100000 in
theorem c_X6_planOn (l : Launch) {D : va_G} {ad : Nat → Nat} {N : Nat} {Sh : xSh} (hI : ∀ i j, i < N → j < N → ad i = ad j → i = j) (nn1 aa1 : Nat) (hh1 : xHas N Sh aa1 (shI D nn1)) (pp2 : Int32) (pp3 : Int32) (pp4 : Int32) (σ : xS) : xKI l yX6_planOn (Cond.code yX6_planOn cX6_planOn 5 (some .int) :: wG) rm_X6_planOn 0 0 D ad N Sh [.ref (ad aa1), .int pp2, .int pp3, .int pp4] σ (F_X6_planOn nn1 aa1 pp2 pp3 pp4 σ) := by
  refine x_startI (own := RX6) (maxL := 5) (by decide) rfl rfl (Nat.le_of_ble_eq_true rfl) rfl hI (fun Γ hl hnL X => ?_)
  subst hl
  unfold F_X6_planOn
  refine xr_bipush (pc := 0) X dX6_planOn_0 (v := 7) (by decide) ?_
  refine xr_iconst (pc := 2) X dX6_planOn_2 (v := 3) (by decide) ?_
  refine xr_aload_n (pc := 3) X (i := 0) 0 rfl rfl dX6_planOn_3 ?_
  refine xr_iconst (pc := 4) X dX6_planOn_4 (v := 2) (by decide) ?_
  refine xr_iald (pc := 5) X (aa1) (nn1) hh1.1 hh1.2 dX6_planOn_5 (fun zz1 => ?_)
  refine xr_imul (pc := 6) X dX6_planOn_6 ?_
  refine xr_iadd (pc := 7) X dX6_planOn_7 ?_
  refine x_leti (fun zz2 => ?_)
  refine xr_istore (pc := 8) X (i := 4) [1, 2, 3, 4, 0] (Nat.le_of_ble_eq_true rfl) hnL rfl dX6_planOn_8 ?_
  refine xr_aload_n (pc := 10) X (i := 0) 0 rfl rfl dX6_planOn_10 ?_
  refine xr_iload (pc := 11) X (i := 4) 4 rfl dX6_planOn_11 ?_
  refine xr_aload_n (pc := 13) X (i := 0) 0 rfl rfl dX6_planOn_13 ?_
  refine xr_iconst (pc := 14) X dX6_planOn_14 (v := 1) (by decide) ?_
  refine xr_iald (pc := 15) X (aa1) (nn1) hh1.1 hh1.2 dX6_planOn_15 (fun zz3 => ?_)
  refine xr_iload_n (pc := 16) X (i := 1) 1 rfl rfl dX6_planOn_16 ?_
  refine xr_iadd (pc := 17) X dX6_planOn_17 ?_
  refine xr_iast (pc := 18) X (aa1) (nn1) hh1.1 hh1.2 dX6_planOn_18 (fun σ4 => ?_)
  refine xr_aload_n (pc := 19) X (i := 0) 0 rfl rfl dX6_planOn_19 ?_
  refine xr_iload (pc := 20) X (i := 4) 4 rfl dX6_planOn_20 ?_
  refine xr_iconst (pc := 22) X dX6_planOn_22 (v := 1) (by decide) ?_
  refine xr_iadd (pc := 23) X dX6_planOn_23 ?_
  refine xr_iload_n (pc := 24) X (i := 2) 2 rfl rfl dX6_planOn_24 ?_
  refine xr_iast (pc := 25) X (aa1) (nn1) hh1.1 hh1.2 dX6_planOn_25 (fun σ5 => ?_)
  refine xr_aload_n (pc := 26) X (i := 0) 0 rfl rfl dX6_planOn_26 ?_
  refine xr_iload (pc := 27) X (i := 4) 4 rfl dX6_planOn_27 ?_
  refine xr_iconst (pc := 29) X dX6_planOn_29 (v := 2) (by decide) ?_
  refine xr_iadd (pc := 30) X dX6_planOn_30 ?_
  refine xr_iload_n (pc := 31) X (i := 3) 3 rfl rfl dX6_planOn_31 ?_
  refine xr_iast (pc := 32) X (aa1) (nn1) hh1.1 hh1.2 dX6_planOn_32 (fun σ6 => ?_)
  refine xr_aload_n (pc := 33) X (i := 0) 0 rfl rfl dX6_planOn_33 ?_
  refine xr_iconst (pc := 34) X dX6_planOn_34 (v := 2) (by decide) ?_
  refine xr_dup2 (pc := 35) X rfl rfl dX6_planOn_35 ?_
  refine xr_iald (pc := 36) X (aa1) (nn1) hh1.1 hh1.2 dX6_planOn_36 (fun zz7 => ?_)
  refine xr_iconst (pc := 37) X dX6_planOn_37 (v := 1) (by decide) ?_
  refine xr_iadd (pc := 38) X dX6_planOn_38 ?_
  refine xr_iast (pc := 39) X (aa1) (nn1) hh1.1 hh1.2 dX6_planOn_39 (fun σ8 => ?_)
  refine xr_aload_n (pc := 40) X (i := 0) 0 rfl rfl dX6_planOn_40 ?_
  refine xr_iconst (pc := 41) X dX6_planOn_41 (v := 2) (by decide) ?_
  refine xr_iald (pc := 42) X (aa1) (nn1) hh1.1 hh1.2 dX6_planOn_42 (fun zz9 => ?_)
  exact xr_iret (pc := 43) X (Nat.le_of_ble_eq_true rfl) (Nat.le_of_ble_eq_true rfl) dX6_planOn_43
def F_X6_holdOn (nn1 aa1 : Nat) (pp2 : Int32) (pp3 : Int32) (σ : xS) : Option (Int32 × xS) :=
  if pp3 = 0 then (xbV (F_X6_lay nn1 aa1 pp2 1 0 σ) (fun (σ1 : xS) => xbI (F_X6_sendsAsItDoes nn1 aa1 pp2 σ1) (fun (zz3 : Int32) (σ2 : xS) => some (zz3, σ2))))
 else (xbV (F_X6_lay nn1 aa1 pp2 1 1 σ) (fun (σ4 : xS) => xbI (F_X6_sendsAsItDoes nn1 aa1 pp2 σ4) (fun (zz6 : Int32) (σ5 : xS) => some (zz6, σ5))))
abbrev rm_X6_holdOn : Room := { frames := 4, cells := 0, slots := 0, locals := 93 }
set_option maxHeartbeats 4000000 in
set_option maxRecDepth 100000 in
theorem c_X6_holdOn (l : Launch) {D : va_G} {ad : Nat → Nat} {N : Nat} {Sh : xSh} (hI : ∀ i j, i < N → j < N → ad i = ad j → i = j) (nn1 aa1 : Nat) (hh1 : xHas N Sh aa1 (shI D nn1)) (pp2 : Int32) (pp3 : Int32) (σ : xS) : xKI l yX6_holdOn (Cond.code yX6_holdOn cX6_holdOn 3 (some .int) :: wG) rm_X6_holdOn 0 0 D ad N Sh [.ref (ad aa1), .int pp2, .int pp3] σ (F_X6_holdOn nn1 aa1 pp2 pp3 σ) := by
  refine x_startI (own := RX6) (maxL := 3) (by decide) rfl rfl (Nat.le_of_ble_eq_true rfl) rfl hI (fun Γ hl hnL X => ?_)
  subst hl
  unfold F_X6_holdOn
  refine xr_aload_n (pc := 0) X (i := 0) 0 rfl rfl dX6_holdOn_0 ?_
  refine xr_iload_n (pc := 1) X (i := 1) 1 rfl rfl dX6_holdOn_1 ?_
  refine xr_iconst (pc := 2) X dX6_holdOn_2 (v := 1) (by decide) ?_
  refine xr_iload_n (pc := 3) X (i := 2) 2 rfl rfl dX6_holdOn_3 ?_
  refine xr_if_eq (pc := 4) X 11 (by decide) dX6_holdOn_4 (fun _ => ?_) (fun _ => ?_)
  · refine xr_iconst (pc := 11) X dX6_holdOn_11 (v := 0) (by decide) ?_
    refine xr_callSV (na := 4) (pc := 12) X [.ref (ad aa1), .int pp2, .int 1, .int 0] (c_X6_lay Γ.2.1 hI nn1 aa1 hh1 pp2 1 0 σ) (wG_S wm_6_8 wm_6_6 wm_6_7 wm_1_5) rfl rfl rfl (by decide +kernel) ⟨Nat.le_of_ble_eq_true rfl, Nat.le_of_ble_eq_true rfl⟩ rfl rfl (Nat.le_of_ble_eq_true rfl) ⟨Nat.le_of_ble_eq_true rfl, Nat.le_of_ble_eq_true rfl⟩ dX6_holdOn_12 (fun σ1 => ?_)
    refine xr_aload_n (pc := 15) X (i := 0) 0 rfl rfl dX6_holdOn_15 ?_
    refine xr_iload_n (pc := 16) X (i := 1) 1 rfl rfl dX6_holdOn_16 ?_
    refine xr_callSI (na := 2) (pc := 17) X [.ref (ad aa1), .int pp2] (c_X6_sendsAsItDoes Γ.2.1 hI nn1 aa1 hh1 pp2 σ1) (wG_S wm_11_20 wm_11_18 wm_11_19 wm_1_5) rfl rfl rfl (by decide +kernel) ⟨Nat.le_of_ble_eq_true rfl, Nat.le_of_ble_eq_true rfl⟩ rfl rfl (Nat.le_of_ble_eq_true rfl) ⟨Nat.le_of_ble_eq_true rfl, Nat.le_of_ble_eq_true rfl⟩ dX6_holdOn_17 (fun zz3 σ2 => ?_)
    exact xr_iret (pc := 20) X (Nat.le_of_ble_eq_true rfl) (Nat.le_of_ble_eq_true rfl) dX6_holdOn_20
  refine xr_iconst (pc := 7) X dX6_holdOn_7 (v := 1) (by decide) ?_
  refine xr_goto (pc := 8) X 12 (by decide) dX6_holdOn_8 ?_
  refine xr_callSV (na := 4) (pc := 12) X [.ref (ad aa1), .int pp2, .int 1, .int 1] (c_X6_lay Γ.2.1 hI nn1 aa1 hh1 pp2 1 1 σ) (wG_S wm_6_8 wm_6_6 wm_6_7 wm_1_5) rfl rfl rfl (by decide +kernel) ⟨Nat.le_of_ble_eq_true rfl, Nat.le_of_ble_eq_true rfl⟩ rfl rfl (Nat.le_of_ble_eq_true rfl) ⟨Nat.le_of_ble_eq_true rfl, Nat.le_of_ble_eq_true rfl⟩ dX6_holdOn_12 (fun σ4 => ?_)
  refine xr_aload_n (pc := 15) X (i := 0) 0 rfl rfl dX6_holdOn_15 ?_
  refine xr_iload_n (pc := 16) X (i := 1) 1 rfl rfl dX6_holdOn_16 ?_
  refine xr_callSI (na := 2) (pc := 17) X [.ref (ad aa1), .int pp2] (c_X6_sendsAsItDoes Γ.2.1 hI nn1 aa1 hh1 pp2 σ4) (wG_S wm_11_20 wm_11_18 wm_11_19 wm_1_5) rfl rfl rfl (by decide +kernel) ⟨Nat.le_of_ble_eq_true rfl, Nat.le_of_ble_eq_true rfl⟩ rfl rfl (Nat.le_of_ble_eq_true rfl) ⟨Nat.le_of_ble_eq_true rfl, Nat.le_of_ble_eq_true rfl⟩ dX6_holdOn_17 (fun zz6 σ5 => ?_)
  exact xr_iret (pc := 20) X (Nat.le_of_ble_eq_true rfl) (Nat.le_of_ble_eq_true rfl) dX6_holdOn_20
def F_X6_isSetting (pp1 : Int32) (pp2 : Int32) (σ : xS) : Option (Int32 × xS) :=
  xjn (fun (σ1 : xS) => xjn (fun (σ2 : xS) => xjn (fun (σ3 : xS) => if ¬ pp1 = 3 then (some ((0 : Int32), σ3))
 else (xbI (F_X6_in pp2.toInt64 1 6 σ3) (fun (zz5 : Int32) (σ4 : xS) => if zz5 = 0 then (some ((0 : Int32), σ4))
 else (some ((1 : Int32), σ4)))))
 (fun (KK6 : xS → Option (Int32 × xS)) => if ¬ pp1 = 2 then (KK6 σ2)
 else (xbI (F_X6_in pp2.toInt64 4 99 σ2) (fun (zz9 : Int32) (σ8 : xS) => if ¬ zz9 = 0 then (some ((1 : Int32), σ8))
 else (KK6 σ8)))))
 (fun (KK10 : xS → Option (Int32 × xS)) => if ¬ pp1 = 1 then (KK10 σ1)
 else (xbI (F_X6_in pp2.toInt64 0 20 σ1) (fun (zz13 : Int32) (σ12 : xS) => if ¬ zz13 = 0 then (some ((1 : Int32), σ12))
 else (KK10 σ12)))))
 (fun (KK14 : xS → Option (Int32 × xS)) => if ¬ pp1 = 0 then (KK14 σ)
 else (xbI (F_X6_in pp2.toInt64 1 9 σ) (fun (zz17 : Int32) (σ16 : xS) => if ¬ zz17 = 0 then (some ((1 : Int32), σ16))
 else (KK14 σ16))))
abbrev rm_X6_isSetting : Room := { frames := 1, cells := 0, slots := 0, locals := 25 }
set_option maxHeartbeats 4000000 in
set_option maxRecDepth 100000 in
theorem c_X6_isSetting (l : Launch) {D : va_G} {ad : Nat → Nat} {N : Nat} {Sh : xSh} (hI : ∀ i j, i < N → j < N → ad i = ad j → i = j) (pp1 : Int32) (pp2 : Int32) (σ : xS) : xKI l yX6_isSetting (Cond.code yX6_isSetting cX6_isSetting 2 (some .boolean) :: wG) rm_X6_isSetting 0 0 D ad N Sh [.int pp1, .int pp2] σ (F_X6_isSetting pp1 pp2 σ) := by
  refine x_startI (own := RX6) (maxL := 2) (by decide) rfl rfl (Nat.le_of_ble_eq_true rfl) rfl hI (fun Γ hl hnL X => ?_)
  subst hl
  unfold F_X6_isSetting
  refine xr_iload_n (pc := 0) X (i := 0) 0 rfl rfl dX6_isSetting_0 ?_
  refine x_jn (fun (KK14 : xS → Option (Int32 × xS)) => ∀ σ1, xM Γ D ad N Sh (xQI Γ D ad N Sh 0 0) 0 0 (KK14 σ1) σ1 16 [(0, .int pp1), (1, .int pp2)] []) (fun σ1 => ?_) (fun KK14 hKK15 => ?_)
  · refine xr_iload_n (pc := 16) X (i := 0) 0 rfl rfl dX6_isSetting_16 ?_
    refine xr_iconst (pc := 17) X dX6_isSetting_17 (v := 1) (by decide) ?_
    refine x_jn (fun (KK10 : xS → Option (Int32 × xS)) => ∀ σ2, xM Γ D ad N Sh (xQI Γ D ad N Sh 0 0) 0 0 (KK10 σ2) σ2 33 [(0, .int pp1), (1, .int pp2)] []) (fun σ2 => ?_) (fun KK10 hKK11 => ?_)
    · refine xr_iload_n (pc := 33) X (i := 0) 0 rfl rfl dX6_isSetting_33 ?_
      refine xr_iconst (pc := 34) X dX6_isSetting_34 (v := 2) (by decide) ?_
      refine x_jn (fun (KK6 : xS → Option (Int32 × xS)) => ∀ σ3, xM Γ D ad N Sh (xQI Γ D ad N Sh 0 0) 0 0 (KK6 σ3) σ3 52 [(0, .int pp1), (1, .int pp2)] []) (fun σ3 => ?_) (fun KK6 hKK7 => ?_)
      · refine xr_iload_n (pc := 52) X (i := 0) 0 rfl rfl dX6_isSetting_52 ?_
        refine xr_iconst (pc := 53) X dX6_isSetting_53 (v := 3) (by decide) ?_
        refine xr_icmp_ne (pc := 54) X 73 (by decide) dX6_isSetting_54 (fun _ => ?_) (fun _ => ?_)
        · refine xr_iconst (pc := 73) X dX6_isSetting_73 (v := 0) (by decide) ?_
          exact xr_zret (pc := 74) X rfl (Nat.le_refl _) (Nat.le_refl _) dX6_isSetting_74
        refine xr_iload_n (pc := 57) X (i := 1) 1 rfl rfl dX6_isSetting_57 ?_
        refine xr_i2l (pc := 58) X dX6_isSetting_58 ?_
        refine xr_lconst (pc := 59) X dX6_isSetting_59 (v := 1) rfl ?_
        refine xr_ldc2 (pc := 60) X dX6_isSetting_60 (List.mem_cons_of_mem _ wm_20_4) ?_
        refine xr_callSI (na := 3) (pc := 63) X [.long pp2.toInt64, .long 1, .long 6] (c_X6_in Γ.2.1 hI pp2.toInt64 1 6 σ3) (wG_S wm_8_1 wm_7_23 wm_8_0 wm_1_5) rfl rfl rfl (by decide +kernel) ⟨Nat.le_of_ble_eq_true rfl, Nat.le_of_ble_eq_true rfl⟩ rfl rfl (Nat.le_of_ble_eq_true rfl) ⟨Nat.le_of_ble_eq_true rfl, Nat.le_of_ble_eq_true rfl⟩ dX6_isSetting_63 (fun zz5 σ4 => ?_)
        refine xr_if_eq (pc := 66) X 73 (by decide) dX6_isSetting_66 (fun _ => ?_) (fun _ => ?_)
        · refine xr_iconst (pc := 73) X dX6_isSetting_73 (v := 0) (by decide) ?_
          exact xr_zret (pc := 74) X rfl (Nat.le_refl _) (Nat.le_refl _) dX6_isSetting_74
        refine xr_iconst (pc := 69) X dX6_isSetting_69 (v := 1) (by decide) ?_
        refine xr_goto (pc := 70) X 74 (by decide) dX6_isSetting_70 ?_
        exact xr_zret (pc := 74) X rfl (Nat.le_refl _) (Nat.le_refl _) dX6_isSetting_74
      refine xr_icmp_ne (pc := 35) X 52 (by decide) dX6_isSetting_35 (fun _ => ?_) (fun _ => ?_)
      · exact hKK7  _
      refine xr_iload_n (pc := 38) X (i := 1) 1 rfl rfl dX6_isSetting_38 ?_
      refine xr_i2l (pc := 39) X dX6_isSetting_39 ?_
      refine xr_ldc2 (pc := 40) X dX6_isSetting_40 (List.mem_cons_of_mem _ wm_23_21) ?_
      refine xr_ldc2 (pc := 43) X dX6_isSetting_43 (List.mem_cons_of_mem _ wm_25_4) ?_
      refine xr_callSI (na := 3) (pc := 46) X [.long pp2.toInt64, .long 4, .long 99] (c_X6_in Γ.2.1 hI pp2.toInt64 4 99 σ2) (wG_S wm_8_1 wm_7_23 wm_8_0 wm_1_5) rfl rfl rfl (by decide +kernel) ⟨Nat.le_of_ble_eq_true rfl, Nat.le_of_ble_eq_true rfl⟩ rfl rfl (Nat.le_of_ble_eq_true rfl) ⟨Nat.le_of_ble_eq_true rfl, Nat.le_of_ble_eq_true rfl⟩ dX6_isSetting_46 (fun zz9 σ8 => ?_)
      refine xr_if_ne (pc := 49) X 69 (by decide) dX6_isSetting_49 (fun _ => ?_) (fun _ => ?_)
      · refine xr_iconst (pc := 69) X dX6_isSetting_69 (v := 1) (by decide) ?_
        refine xr_goto (pc := 70) X 74 (by decide) dX6_isSetting_70 ?_
        exact xr_zret (pc := 74) X rfl (Nat.le_refl _) (Nat.le_refl _) dX6_isSetting_74
      exact hKK7  _
    refine xr_icmp_ne (pc := 18) X 33 (by decide) dX6_isSetting_18 (fun _ => ?_) (fun _ => ?_)
    · exact hKK11  _
    refine xr_iload_n (pc := 21) X (i := 1) 1 rfl rfl dX6_isSetting_21 ?_
    refine xr_i2l (pc := 22) X dX6_isSetting_22 ?_
    refine xr_lconst (pc := 23) X dX6_isSetting_23 (v := 0) rfl ?_
    refine xr_ldc2 (pc := 24) X dX6_isSetting_24 (List.mem_cons_of_mem _ wm_27_6) ?_
    refine xr_callSI (na := 3) (pc := 27) X [.long pp2.toInt64, .long 0, .long 20] (c_X6_in Γ.2.1 hI pp2.toInt64 0 20 σ1) (wG_S wm_8_1 wm_7_23 wm_8_0 wm_1_5) rfl rfl rfl (by decide +kernel) ⟨Nat.le_of_ble_eq_true rfl, Nat.le_of_ble_eq_true rfl⟩ rfl rfl (Nat.le_of_ble_eq_true rfl) ⟨Nat.le_of_ble_eq_true rfl, Nat.le_of_ble_eq_true rfl⟩ dX6_isSetting_27 (fun zz13 σ12 => ?_)
    refine xr_if_ne (pc := 30) X 69 (by decide) dX6_isSetting_30 (fun _ => ?_) (fun _ => ?_)
    · refine xr_iconst (pc := 69) X dX6_isSetting_69 (v := 1) (by decide) ?_
      refine xr_goto (pc := 70) X 74 (by decide) dX6_isSetting_70 ?_
      exact xr_zret (pc := 74) X rfl (Nat.le_refl _) (Nat.le_refl _) dX6_isSetting_74
    exact hKK11  _
  refine xr_if_ne (pc := 1) X 16 (by decide) dX6_isSetting_1 (fun _ => ?_) (fun _ => ?_)
  · exact hKK15  _
  refine xr_iload_n (pc := 4) X (i := 1) 1 rfl rfl dX6_isSetting_4 ?_
  refine xr_i2l (pc := 5) X dX6_isSetting_5 ?_
  refine xr_lconst (pc := 6) X dX6_isSetting_6 (v := 1) rfl ?_
  refine xr_ldc2 (pc := 7) X dX6_isSetting_7 (List.mem_cons_of_mem _ wm_11_1) ?_
  refine xr_callSI (na := 3) (pc := 10) X [.long pp2.toInt64, .long 1, .long 9] (c_X6_in Γ.2.1 hI pp2.toInt64 1 9 σ) (wG_S wm_8_1 wm_7_23 wm_8_0 wm_1_5) rfl rfl rfl (by decide +kernel) ⟨Nat.le_of_ble_eq_true rfl, Nat.le_of_ble_eq_true rfl⟩ rfl rfl (Nat.le_of_ble_eq_true rfl) ⟨Nat.le_of_ble_eq_true rfl, Nat.le_of_ble_eq_true rfl⟩ dX6_isSetting_10 (fun zz17 σ16 => ?_)
  refine xr_if_ne (pc := 13) X 69 (by decide) dX6_isSetting_13 (fun _ => ?_) (fun _ => ?_)
  · refine xr_iconst (pc := 69) X dX6_isSetting_69 (v := 1) (by decide) ?_
    refine xr_goto (pc := 70) X 74 (by decide) dX6_isSetting_70 ?_
    exact xr_zret (pc := 74) X rfl (Nat.le_refl _) (Nat.le_refl _) dX6_isSetting_74
  exact hKK15  _
def L_X6_isDone_27 (nn1 : Nat) (aa1 : Nat) (pp2 : Int32) (KK7 : Int32 → xS → Option (Int32 × xS)) : Nat → Int32 → Int32 → xS → Option (Int32 × xS)
  | 0, _, _, _ => none
  | nn_12 + 1, zz9, zz10, σ11 => if xin (2 : Int32) nn1 = true then (xlet (σ11 aa1 (2 : Int32).toNatClampNeg) (fun (zz14 : Int32) => if zz14 ≤ zz10 then (KK7 zz9 σ11)
 else (if zz9 = 0 then (xlet (zz10 + 1) (fun (zz15 : Int32) => L_X6_isDone_27 nn1 aa1 pp2 KK7 nn_12 0 zz15 σ11))
 else (if xin ((7 + (3 * zz10)) + 1) nn1 = true then (xlet (σ11 aa1 ((7 + (3 * zz10)) + 1).toNatClampNeg) (fun (zz16 : Int32) => if zz16 = pp2 then (xlet (zz10 + 1) (fun (zz17 : Int32) => L_X6_isDone_27 nn1 aa1 pp2 KK7 nn_12 0 zz17 σ11))
 else (xlet (zz10 + 1) (fun (zz18 : Int32) => L_X6_isDone_27 nn1 aa1 pp2 KK7 nn_12 1 zz18 σ11)))) else none)))) else none
def F_X6_isDone (nn1 aa1 : Nat) (pp2 : Int32) (σ : xS) : Option (Int32 × xS) :=
  xbI (F_X6_of nn1 aa1 pp2 0 σ) (fun (zz2 : Int32) (σ1 : xS) => xjn (fun (zz3 : Int32) (σ4 : xS) => L_X6_isDone_27 nn1 aa1 pp2 (fun (zz5 : Int32) (σ6 : xS) => if vp_nar .boolean zz5 = zz5 then some (zz5, σ6) else none) 1000 zz3 0 σ4)
 (fun (KK20 : Int32 → xS → Option (Int32 × xS)) => xjn (fun (σ22 : xS) => KK20 0 σ22)
 (fun (KK23 : xS → Option (Int32 × xS)) => if ¬ zz2 = 0 then (KK23 σ1)
 else (xbI (F_X6_of nn1 aa1 pp2 6 σ1) (fun (zz26 : Int32) (σ25 : xS) => if ¬ zz26 = 0 then (KK23 σ25)
 else (KK20 1 σ25))))))
abbrev rm_X6_isDone : Room := { frames := 1, cells := 0, slots := 0, locals := 22 }
set_option maxHeartbeats 4000000 in
set_option maxRecDepth 100000 in
theorem c_X6_isDone (l : Launch) {D : va_G} {ad : Nat → Nat} {N : Nat} {Sh : xSh} (hI : ∀ i j, i < N → j < N → ad i = ad j → i = j) (nn1 aa1 : Nat) (hh1 : xHas N Sh aa1 (shI D nn1)) (pp2 : Int32) (σ : xS) : xKI l yX6_isDone (Cond.code yX6_isDone cX6_isDone 4 (some .boolean) :: wG) rm_X6_isDone 0 0 D ad N Sh [.ref (ad aa1), .int pp2] σ (F_X6_isDone nn1 aa1 pp2 σ) := by
  refine x_startI (own := RX6) (maxL := 4) (by decide) rfl rfl (Nat.le_of_ble_eq_true rfl) rfl hI (fun Γ hl hnL X => ?_)
  subst hl
  unfold F_X6_isDone
  refine xr_aload_n (pc := 0) X (i := 0) 0 rfl rfl dX6_isDone_0 ?_
  refine xr_iload_n (pc := 1) X (i := 1) 1 rfl rfl dX6_isDone_1 ?_
  refine xr_iconst (pc := 2) X dX6_isDone_2 (v := 0) (by decide) ?_
  refine xr_callSI (na := 3) (pc := 3) X [.ref (ad aa1), .int pp2, .int 0] (c_X6_of Γ.2.1 hI nn1 aa1 hh1 pp2 0 σ) (wG_S wm_11_14 wm_11_12 wm_11_13 wm_1_5) rfl rfl rfl (by decide +kernel) ⟨Nat.le_of_ble_eq_true rfl, Nat.le_of_ble_eq_true rfl⟩ rfl rfl (Nat.le_of_ble_eq_true rfl) ⟨Nat.le_of_ble_eq_true rfl, Nat.le_of_ble_eq_true rfl⟩ dX6_isDone_3 (fun zz2 σ1 => ?_)
  refine x_jn (fun (KK20 : Int32 → xS → Option (Int32 × xS)) => ∀ zz3 σ4, xM Γ D ad N Sh (xQI Γ D ad N Sh 0 0) 0 0 (KK20 zz3 σ4) σ4 24 [(0, .ref (ad aa1)), (1, .int pp2)] [.int zz3]) (fun zz3 σ4 => ?_) (fun KK20 hKK21 => ?_)
  · refine xr_istore_n (pc := 24) X (hf := rfl) (i := 2) [1, 2, 0] (Nat.le_of_ble_eq_true rfl) hnL rfl dX6_isDone_24 ?_
    refine xr_iconst (pc := 25) X dX6_isDone_25 (v := 0) (by decide) ?_
    refine xr_istore_n (pc := 26) X (hf := rfl) (i := 3) [1, 2, 3, 0] (Nat.le_of_ble_eq_true rfl) hnL rfl dX6_isDone_26 ?_
    have hLL19 : ∀ (KK7 : Int32 → xS → Option (Int32 × xS)) (hKK8 : ∀ zz5 σ6, xM Γ D ad N Sh (xQI Γ D ad N Sh 0 0) 0 0 (KK7 zz5 σ6) σ6 64 [(2, .int zz5)] []), ∀ (nn_12 : Nat) zz9 zz10 σ11, xM Γ D ad N Sh (xQI Γ D ad N Sh 0 0) 0 0 (L_X6_isDone_27 nn1 aa1 pp2 KK7 nn_12 zz9 zz10 σ11) σ11 27 [(0, .ref (ad aa1)), (1, .int pp2), (2, .int zz9), (3, .int zz10)] [] := by
      intro KK7 hKK8 nn_12
      induction nn_12 with
      | zero => intro zz9 zz10 σ11; exact xM_none
      | succ nn_12 ihh13 =>
        intro zz9 zz10 σ11
        rw [L_X6_isDone_27]
        refine xr_iload_n (pc := 27) X (i := 3) 3 rfl rfl dX6_isDone_27 ?_
        refine xr_aload_n (pc := 28) X (i := 0) 0 rfl rfl dX6_isDone_28 ?_
        refine xr_iconst (pc := 29) X dX6_isDone_29 (v := 2) (by decide) ?_
        refine xr_iald (pc := 30) X (aa1) (nn1) hh1.1 hh1.2 dX6_isDone_30 (fun zz14 => ?_)
        refine xr_icmp_ge (pc := 31) X 64 (by decide) dX6_isDone_31 (fun _ => ?_) (fun _ => ?_)
        · exact x_sub [2] rfl (hKK8 _ _)
        refine xr_iload_n (pc := 34) X (i := 2) 2 rfl rfl dX6_isDone_34 ?_
        refine xr_if_eq (pc := 35) X 56 (by decide) dX6_isDone_35 (fun _ => ?_) (fun _ => ?_)
        · refine xr_iconst (pc := 56) X dX6_isDone_56 (v := 0) (by decide) ?_
          refine xr_istore_n (pc := 57) X (hf := rfl) (i := 2) [1, 2, 0, 3] (Nat.le_of_ble_eq_true rfl) hnL rfl dX6_isDone_57 ?_
          refine xr_iinc (pc := 58) X (i := 3) (j := 3) [1, 2, 3, 0] (Nat.le_of_ble_eq_true rfl) hnL rfl rfl (fun zz15 => [(0, .ref (ad aa1)), (1, .int pp2), (2, .int 0), (3, .int zz15)]) (fun _ => rfl) dX6_isDone_58 (fun zz15 => ?_)
          refine xr_goto (pc := 61) X 27 (by decide) dX6_isDone_61 ?_
          exact ihh13 _ _ _
        refine xr_aload_n (pc := 38) X (i := 0) 0 rfl rfl dX6_isDone_38 ?_
        refine xr_bipush (pc := 39) X dX6_isDone_39 (v := 7) (by decide) ?_
        refine xr_iconst (pc := 41) X dX6_isDone_41 (v := 3) (by decide) ?_
        refine xr_iload_n (pc := 42) X (i := 3) 3 rfl rfl dX6_isDone_42 ?_
        refine xr_imul (pc := 43) X dX6_isDone_43 ?_
        refine xr_iadd (pc := 44) X dX6_isDone_44 ?_
        refine xr_iconst (pc := 45) X dX6_isDone_45 (v := 1) (by decide) ?_
        refine xr_iadd (pc := 46) X dX6_isDone_46 ?_
        refine xr_iald (pc := 47) X (aa1) (nn1) hh1.1 hh1.2 dX6_isDone_47 (fun zz16 => ?_)
        refine xr_iload_n (pc := 48) X (i := 1) 1 rfl rfl dX6_isDone_48 ?_
        refine xr_icmp_eq (pc := 49) X 56 (by decide) dX6_isDone_49 (fun _ => ?_) (fun _ => ?_)
        · refine xr_iconst (pc := 56) X dX6_isDone_56 (v := 0) (by decide) ?_
          refine xr_istore_n (pc := 57) X (hf := rfl) (i := 2) [1, 2, 0, 3] (Nat.le_of_ble_eq_true rfl) hnL rfl dX6_isDone_57 ?_
          refine xr_iinc (pc := 58) X (i := 3) (j := 3) [1, 2, 3, 0] (Nat.le_of_ble_eq_true rfl) hnL rfl rfl (fun zz17 => [(0, .ref (ad aa1)), (1, .int pp2), (2, .int 0), (3, .int zz17)]) (fun _ => rfl) dX6_isDone_58 (fun zz17 => ?_)
          refine xr_goto (pc := 61) X 27 (by decide) dX6_isDone_61 ?_
          exact ihh13 _ _ _
        refine xr_iconst (pc := 52) X dX6_isDone_52 (v := 1) (by decide) ?_
        refine xr_goto (pc := 53) X 57 (by decide) dX6_isDone_53 ?_
        refine xr_istore_n (pc := 57) X (hf := rfl) (i := 2) [1, 2, 0, 3] (Nat.le_of_ble_eq_true rfl) hnL rfl dX6_isDone_57 ?_
        refine xr_iinc (pc := 58) X (i := 3) (j := 3) [1, 2, 3, 0] (Nat.le_of_ble_eq_true rfl) hnL rfl rfl (fun zz18 => [(0, .ref (ad aa1)), (1, .int pp2), (2, .int 1), (3, .int zz18)]) (fun _ => rfl) dX6_isDone_58 (fun zz18 => ?_)
        refine xr_goto (pc := 61) X 27 (by decide) dX6_isDone_61 ?_
        exact ihh13 _ _ _
    refine hLL19 _ (fun zz5 σ6 => ?_) _ _ _ _
    refine xr_iload_n (pc := 64) X (i := 2) 0 rfl rfl dX6_isDone_64 ?_
    exact xr_zretG (pc := 65) X (Nat.le_refl _) (Nat.le_refl _) dX6_isDone_65
  refine x_jn (fun (KK23 : xS → Option (Int32 × xS)) => ∀ σ22, xM Γ D ad N Sh (xQI Γ D ad N Sh 0 0) 0 0 (KK23 σ22) σ22 23 [(0, .ref (ad aa1)), (1, .int pp2)] []) (fun σ22 => ?_) (fun KK23 hKK24 => ?_)
  · refine xr_iconst (pc := 23) X dX6_isDone_23 (v := 0) (by decide) ?_
    exact hKK21 _ _
  refine xr_if_ne (pc := 6) X 23 (by decide) dX6_isDone_6 (fun _ => ?_) (fun _ => ?_)
  · exact hKK24  _
  refine xr_aload_n (pc := 9) X (i := 0) 0 rfl rfl dX6_isDone_9 ?_
  refine xr_iload_n (pc := 10) X (i := 1) 1 rfl rfl dX6_isDone_10 ?_
  refine xr_bipush (pc := 11) X dX6_isDone_11 (v := 6) (by decide) ?_
  refine xr_callSI (na := 3) (pc := 13) X [.ref (ad aa1), .int pp2, .int 6] (c_X6_of Γ.2.1 hI nn1 aa1 hh1 pp2 6 σ1) (wG_S wm_11_14 wm_11_12 wm_11_13 wm_1_5) rfl rfl rfl (by decide +kernel) ⟨Nat.le_of_ble_eq_true rfl, Nat.le_of_ble_eq_true rfl⟩ rfl rfl (Nat.le_of_ble_eq_true rfl) ⟨Nat.le_of_ble_eq_true rfl, Nat.le_of_ble_eq_true rfl⟩ dX6_isDone_13 (fun zz26 σ25 => ?_)
  refine xr_if_ne (pc := 16) X 23 (by decide) dX6_isDone_16 (fun _ => ?_) (fun _ => ?_)
  · exact hKK24  _
  refine xr_iconst (pc := 19) X dX6_isDone_19 (v := 1) (by decide) ?_
  refine xr_goto (pc := 20) X 24 (by decide) dX6_isDone_20 ?_
  exact hKK21 _ _
def L_X6_untilDone_2 (nn1 : Nat) (aa1 : Nat) (pp2 : Int32) (KK5 : Int32 → xS → Option (Int32 × xS)) : Nat → Int32 → xS → Option (Int32 × xS)
  | 0, _, _ => none
  | nn_9 + 1, zz7, σ8 => if 400 ≤ zz7 then (KK5 zz7 σ8)
 else (xbI (F_X6_isDone nn1 aa1 pp2 σ8) (fun (zz12 : Int32) (σ11 : xS) => if ¬ zz12 = 0 then (KK5 zz7 σ11)
 else (xbV (F_X6_tick nn1 aa1 σ11) (fun (σ13 : xS) => xlet (zz7 + 1) (fun (zz14 : Int32) => L_X6_untilDone_2 nn1 aa1 pp2 KK5 nn_9 zz14 σ13)))))
def F_X6_untilDone (nn1 aa1 : Nat) (pp2 : Int32) (σ : xS) : Option (Int32 × xS) :=
  L_X6_untilDone_2 nn1 aa1 pp2 (fun (zz1 : Int32) (σ2 : xS) => xbI (F_X6_isDone nn1 aa1 pp2 σ2) (fun (zz4 : Int32) (σ3 : xS) => if zz4 = 0 then (some ((-1 : Int32), σ3))
 else (some (zz1, σ3)))) 1000 0 σ
abbrev rm_X6_untilDone : Room := { frames := 7, cells := 0, slots := 0, locals := 161 }
set_option maxHeartbeats 4000000 in
set_option maxRecDepth 100000 in
theorem c_X6_untilDone (l : Launch) {D : va_G} {ad : Nat → Nat} {N : Nat} {Sh : xSh} (hI : ∀ i j, i < N → j < N → ad i = ad j → i = j) (nn1 aa1 : Nat) (hh1 : xHas N Sh aa1 (shI D nn1)) (pp2 : Int32) (σ : xS) : xKI l yX6_untilDone (Cond.code yX6_untilDone cX6_untilDone 3 (some .int) :: wG) rm_X6_untilDone 0 0 D ad N Sh [.ref (ad aa1), .int pp2] σ (F_X6_untilDone nn1 aa1 pp2 σ) := by
  refine x_startI (own := RX6) (maxL := 3) (by decide) rfl rfl (Nat.le_of_ble_eq_true rfl) rfl hI (fun Γ hl hnL X => ?_)
  subst hl
  unfold F_X6_untilDone
  refine xr_iconst (pc := 0) X dX6_untilDone_0 (v := 0) (by decide) ?_
  refine xr_istore_n (pc := 1) X (hf := rfl) (i := 2) [1, 2, 0] (Nat.le_of_ble_eq_true rfl) hnL rfl dX6_untilDone_1 ?_
  have hLL15 : ∀ (KK5 : Int32 → xS → Option (Int32 × xS)) (hKK6 : ∀ zz1 σ2, xM Γ D ad N Sh (xQI Γ D ad N Sh 0 0) 0 0 (KK5 zz1 σ2) σ2 27 [(0, .ref (ad aa1)), (1, .int pp2), (2, .int zz1)] []), ∀ (nn_9 : Nat) zz7 σ8, xM Γ D ad N Sh (xQI Γ D ad N Sh 0 0) 0 0 (L_X6_untilDone_2 nn1 aa1 pp2 KK5 nn_9 zz7 σ8) σ8 2 [(0, .ref (ad aa1)), (1, .int pp2), (2, .int zz7)] [] := by
    intro KK5 hKK6 nn_9
    induction nn_9 with
    | zero => intro zz7 σ8; exact xM_none
    | succ nn_9 ihh10 =>
      intro zz7 σ8
      rw [L_X6_untilDone_2]
      refine xr_iload_n (pc := 2) X (i := 2) 2 rfl rfl dX6_untilDone_2 ?_
      refine xr_sipush (pc := 3) X dX6_untilDone_3 (v := 400) (by decide) ?_
      refine xr_icmp_ge (pc := 6) X 27 (by decide) dX6_untilDone_6 (fun _ => ?_) (fun _ => ?_)
      · exact hKK6 _ _
      refine xr_aload_n (pc := 9) X (i := 0) 0 rfl rfl dX6_untilDone_9 ?_
      refine xr_iload_n (pc := 10) X (i := 1) 1 rfl rfl dX6_untilDone_10 ?_
      refine xr_callSI (na := 2) (pc := 11) X [.ref (ad aa1), .int pp2] (c_X6_isDone Γ.2.1 hI nn1 aa1 hh1 pp2 σ8) (wG_S wm_29_3 wm_29_1 wm_29_2 wm_1_5) rfl rfl rfl (by decide +kernel) ⟨Nat.le_of_ble_eq_true rfl, Nat.le_of_ble_eq_true rfl⟩ rfl rfl (Nat.le_of_ble_eq_true rfl) ⟨Nat.le_of_ble_eq_true rfl, Nat.le_of_ble_eq_true rfl⟩ dX6_untilDone_11 (fun zz12 σ11 => ?_)
      refine xr_if_ne (pc := 14) X 27 (by decide) dX6_untilDone_14 (fun _ => ?_) (fun _ => ?_)
      · exact hKK6 _ _
      refine xr_aload_n (pc := 17) X (i := 0) 0 rfl rfl dX6_untilDone_17 ?_
      refine xr_callSV (na := 1) (pc := 18) X [.ref (ad aa1)] (c_X6_tick Γ.2.1 hI nn1 aa1 hh1 σ11) (wG_S wm_12_21 wm_12_19 wm_12_20 wm_1_5) rfl rfl rfl (by decide +kernel) ⟨Nat.le_of_ble_eq_true rfl, Nat.le_of_ble_eq_true rfl⟩ rfl rfl (Nat.le_of_ble_eq_true rfl) ⟨Nat.le_of_ble_eq_true rfl, Nat.le_of_ble_eq_true rfl⟩ dX6_untilDone_18 (fun σ13 => ?_)
      refine xr_iinc (pc := 21) X (i := 2) (j := 2) [1, 2, 0] (Nat.le_of_ble_eq_true rfl) hnL rfl rfl (fun zz14 => [(0, .ref (ad aa1)), (1, .int pp2), (2, .int zz14)]) (fun _ => rfl) dX6_untilDone_21 (fun zz14 => ?_)
      refine xr_goto (pc := 24) X 2 (by decide) dX6_untilDone_24 ?_
      exact ihh10 _ _
  refine hLL15 _ (fun zz1 σ2 => ?_) _ _ _
  refine xr_aload_n (pc := 27) X (i := 0) 0 rfl rfl dX6_untilDone_27 ?_
  refine xr_iload_n (pc := 28) X (i := 1) 1 rfl rfl dX6_untilDone_28 ?_
  refine xr_callSI (na := 2) (pc := 29) X [.ref (ad aa1), .int pp2] (c_X6_isDone Γ.2.1 hI nn1 aa1 hh1 pp2 σ2) (wG_S wm_29_3 wm_29_1 wm_29_2 wm_1_5) rfl rfl rfl (by decide +kernel) ⟨Nat.le_of_ble_eq_true rfl, Nat.le_of_ble_eq_true rfl⟩ rfl rfl (Nat.le_of_ble_eq_true rfl) ⟨Nat.le_of_ble_eq_true rfl, Nat.le_of_ble_eq_true rfl⟩ dX6_untilDone_29 (fun zz4 σ3 => ?_)
  refine xr_if_eq (pc := 32) X 39 (by decide) dX6_untilDone_32 (fun _ => ?_) (fun _ => ?_)
  · refine xr_iconst (pc := 39) X dX6_untilDone_39 (v := (-1)) (by decide) ?_
    exact xr_iret (pc := 40) X (Nat.le_of_ble_eq_true rfl) (Nat.le_of_ble_eq_true rfl) dX6_untilDone_40
  refine xr_iload_n (pc := 35) X (i := 2) 2 rfl rfl dX6_untilDone_35 ?_
  refine xr_goto (pc := 36) X 40 (by decide) dX6_untilDone_36 ?_
  exact xr_iret (pc := 40) X (Nat.le_of_ble_eq_true rfl) (Nat.le_of_ble_eq_true rfl) dX6_untilDone_40
