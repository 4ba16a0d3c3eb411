def F_X5_isWithin (pp1 : Int32) (pp2 : Int32) (pp3 : Int32) (σ : xS) : Option (Int32 × xS) :=
  if pp1 < pp2 then (some ((0 : Int32), σ))
 else (if pp3 < pp1 then (some ((0 : Int32), σ))
 else (some ((1 : Int32), σ)))
abbrev rm_X5_isWithin : Room := { frames := 0, cells := 0, slots := 0, locals := 0 }
set_option maxHeartbeats 4000000 in
set_option maxRecDepth 100000 in
theorem c_X5_isWithin (l : Launch) {D : va_G} {ad : Nat → Nat} {N : Nat} {Sh : xSh} (hI : ∀ i j, i < N → j < N → ad i = ad j → i = j) (pp1 : Int32) (pp2 : Int32) (pp3 : Int32) (σ : xS) : xKI l yX5_isWithin (Cond.code yX5_isWithin cX5_isWithin 3 (some .boolean) :: wG) rm_X5_isWithin 0 0 D ad N Sh [.int pp1, .int pp2, .int pp3] σ (F_X5_isWithin pp1 pp2 pp3 σ) := by
  refine x_startI (own := RX5) (maxL := 3) (by decide) rfl rfl (Nat.le_of_ble_eq_true rfl) rfl hI (fun Γ hl hnL X => ?_)
  subst hl
  unfold F_X5_isWithin
  refine xr_iload_n (pc := 0) X (i := 0) 0 rfl rfl dX5_isWithin_0 ?_
  refine xr_iload_n (pc := 1) X (i := 1) 1 rfl rfl dX5_isWithin_1 ?_
  refine xr_icmp_lt (pc := 2) X 14 (by decide) dX5_isWithin_2 (fun _ => ?_) (fun _ => ?_)
  · refine xr_iconst (pc := 14) X dX5_isWithin_14 (v := 0) (by decide) ?_
    exact xr_zret (pc := 15) X rfl (Nat.le_of_ble_eq_true rfl) (Nat.le_of_ble_eq_true rfl) dX5_isWithin_15
  refine xr_iload_n (pc := 5) X (i := 0) 0 rfl rfl dX5_isWithin_5 ?_
  refine xr_iload_n (pc := 6) X (i := 2) 2 rfl rfl dX5_isWithin_6 ?_
  refine xr_icmp_gt (pc := 7) X 14 (by decide) dX5_isWithin_7 (fun _ => ?_) (fun _ => ?_)
  · refine xr_iconst (pc := 14) X dX5_isWithin_14 (v := 0) (by decide) ?_
    exact xr_zret (pc := 15) X rfl (Nat.le_of_ble_eq_true rfl) (Nat.le_of_ble_eq_true rfl) dX5_isWithin_15
  refine xr_iconst (pc := 10) X dX5_isWithin_10 (v := 1) (by decide) ?_
  refine xr_goto (pc := 11) X 15 (by decide) dX5_isWithin_11 ?_
  exact xr_zret (pc := 15) X rfl (Nat.le_of_ble_eq_true rfl) (Nat.le_of_ble_eq_true rfl) dX5_isWithin_15
def L_X3_takeFirstSettings_2 (oo0 : Nat) (KK2 : xS → Option xS) : Nat → Int32 → xS → Option xS
  | 0, _, _ => none
  | nn_6 + 1, zz4, σ5 => if 4 ≤ zz4 then (KK2 σ5)
 else (if xin zz4 4 = true then (xlet (xF1 zz4.toNatClampNeg) (fun (zz10 : Int32) => if xin zz4 4 = true then (xlet (xu σ5 (oo0 + 1) zz4.toNatClampNeg zz10) (fun (σ11 : xS) => xlet (zz4 + 1) (fun (zz12 : Int32) => L_X3_takeFirstSettings_2 oo0 KK2 nn_6 zz12 σ11))) else none)) else none)
def F_X3_takeFirstSettings (oo0 : Nat) (σ : xS) : Option xS :=
  L_X3_takeFirstSettings_2 oo0 (fun (σ1 : xS) => some σ1) 1000 0 σ
abbrev rm_X3_takeFirstSettings : Room := { frames := 0, cells := 0, slots := 0, locals := 0 }
set_option maxHeartbeats 4000000 in
set_option maxRecDepth 100000 in
theorem c_X3_takeFirstSettings (l : Launch) {D : va_G} {ad : Nat → Nat} {N : Nat} {Sh : xSh} (hI : ∀ i j, i < N → j < N → ad i = ad j → i = j) (oo0 : Nat) (hh0 : xIs3 D ad N Sh oo0) (σ : xS) : xKV l yX3_takeFirstSettings (Cond.code yX3_takeFirstSettings cX3_takeFirstSettings 2 none :: wG) rm_X3_takeFirstSettings 0 0 D ad N Sh [.ref (ad oo0)] σ (F_X3_takeFirstSettings oo0 σ) := by
  refine x_startV (own := RX3) (maxL := 2) (by decide) rfl rfl (Nat.le_of_ble_eq_true rfl) rfl hI (fun Γ hl hnL X => ?_)
  subst hl
  unfold F_X3_takeFirstSettings
  refine xr_iconst (pc := 0) X dX3_takeFirstSettings_0 (v := 0) (by decide) ?_
  refine xr_istore_n (pc := 1) X (hf := rfl) (i := 1) (lv2 := [(0, .ref (ad oo0)), (1, .int 0)]) [1, 0] (Nat.le_of_ble_eq_true rfl) hnL rfl dX3_takeFirstSettings_1 ?_
  have hLL13 : ∀ (KK2 : xS → Option xS) (hKK3 : ∀ σ1, xM Γ D ad N Sh (xQV Γ D ad N Sh 0 0) 0 0 (KK2 σ1) σ1 24 [] []), ∀ (nn_6 : Nat) zz4 σ5, xM Γ D ad N Sh (xQV Γ D ad N Sh 0 0) 0 0 (L_X3_takeFirstSettings_2 oo0 KK2 nn_6 zz4 σ5) σ5 2 [(0, .ref (ad oo0)), (1, .int zz4)] [] := by
    intro KK2 hKK3 nn_6
    induction nn_6 with
    | zero => intro zz4 σ5; exact xM_none
    | succ nn_6 ihh7 =>
      intro zz4 σ5
      rw [L_X3_takeFirstSettings_2]
      refine xr_iload_n (pc := 2) X (i := 1) 1 rfl rfl dX3_takeFirstSettings_2 ?_
      refine xr_iconst (pc := 3) X dX3_takeFirstSettings_3 (v := 4) (by decide) ?_
      refine xr_icmp_ge (pc := 4) X 24 (by decide) dX3_takeFirstSettings_4 (fun _ => ?_) (fun _ => ?_)
      · exact x_sub [] rfl (hKK3  _)
      refine xr_aload_n (pc := 7) X (i := 0) 0 rfl rfl dX3_takeFirstSettings_7 ?_
      refine xgX3 (pc := 8) X (oo0) hh0.1 2 wm_2_20 rfl rfl (by decide) rfl dX3_takeFirstSettings_8 ?_
      refine xr_iload_n (pc := 11) X (i := 1) 1 rfl rfl dX3_takeFirstSettings_11 ?_
      refine xr_getsN (pc := 12) X (f := xF1) (fun A U H h => h.1) 23 rfl rfl dX3_takeFirstSettings_12 (fun aa_8 hTT9 => ?_)
      refine xr_iload_n (pc := 15) X (i := 1) 1 rfl rfl dX3_takeFirstSettings_15 ?_
      refine xr_sald (pc := 16) X hTT9 dX3_takeFirstSettings_16 (fun zz10 => ?_)
      refine xr_iast (pc := 17) X (oo0 + 1) (4) hh0.2.1.1 hh0.2.1.2 dX3_takeFirstSettings_17 (fun σ11 => ?_)
      refine xr_iinc (pc := 18) X (i := 1) (j := 1) [1, 0] (Nat.le_of_ble_eq_true rfl) hnL rfl rfl (fun zz12 => [(0, .ref (ad oo0)), (1, .int zz12)]) (fun _ => rfl) dX3_takeFirstSettings_18 (fun zz12 => ?_)
      refine xr_goto (pc := 21) X 2 (by decide) dX3_takeFirstSettings_21 ?_
      exact ihh7 _ _
  refine hLL13 _ (fun σ1 => ?_) _ _ _
  exact xr_vret (pc := 24) X (Nat.le_refl _) (Nat.le_refl _) dX3_takeFirstSettings_24
def L_X3_begin_20 (oo0 : Nat) (KK5 : xS → Option xS) : Nat → Int32 → xS → Option xS
  | 0, _, _ => none
  | nn_9 + 1, zz7, σ8 => if 4 ≤ zz7 then (KK5 σ8)
 else (if xin zz7 4 = true then (xbV (F_X2_begin (oo0 + 7 + 9 * zz7.toNatClampNeg) σ8) (fun (σ12 : xS) => xlet (zz7 + 1) (fun (zz13 : Int32) => L_X3_begin_20 oo0 KK5 nn_9 zz13 σ12))) else none)
def F_X3_begin (oo0 : Nat) (pp1 : Int32) (σ : xS) : Option xS :=
  xlet (xu σ oo0 0 pp1) (fun (σ1 : xS) => xlet (xu σ1 oo0 1 0) (fun (σ2 : xS) => xlet (xu σ2 (oo0 + 2) 3 0) (fun (σ3 : xS) => L_X3_begin_20 oo0 (fun (σ4 : xS) => some σ4) 1000 0 σ3)))
abbrev rm_X3_begin : Room := { frames := 1, cells := 0, slots := 0, locals := 20 }
set_option maxHeartbeats 4000000 in
set_option maxRecDepth 100000 in
theorem c_X3_begin (l : Launch) {D : va_G} {ad : Nat → Nat} {N : Nat} {Sh : xSh} (hI : ∀ i j, i < N → j < N → ad i = ad j → i = j) (oo0 : Nat) (hh0 : xIs3 D ad N Sh oo0) (pp1 : Int32) (σ : xS) : xKV l yX3_begin (Cond.code yX3_begin cX3_begin 3 none :: wG) rm_X3_begin 0 0 D ad N Sh [.ref (ad oo0), .int pp1] σ (F_X3_begin oo0 pp1 σ) := by
  refine x_startV (own := RX3) (maxL := 3) (by decide) rfl rfl (Nat.le_of_ble_eq_true rfl) rfl hI (fun Γ hl hnL X => ?_)
  subst hl
  unfold F_X3_begin
  refine xr_aload_n (pc := 0) X (i := 0) 0 rfl rfl dX3_begin_0 ?_
  refine xr_iload_n (pc := 1) X (i := 1) 1 rfl rfl dX3_begin_1 ?_
  refine xpX3 (pc := 2) X (oo0) hh0.1 0 wm_4_10 (ty := .int) rfl (fun _ => rfl) rfl (by decide +kernel) rfl rfl (Nat.le_of_ble_eq_true rfl) (by decide) rfl dX3_begin_2 (fun σ1 => ?_)
  refine xr_aload_n (pc := 5) X (i := 0) 0 rfl rfl dX3_begin_5 ?_
  refine xr_iconst (pc := 6) X dX3_begin_6 (v := 0) (by decide) ?_
  refine xpX3 (pc := 7) X (oo0) hh0.1 1 wm_4_11 (ty := .int) rfl (fun _ => rfl) rfl (by decide +kernel) rfl rfl (Nat.le_of_ble_eq_true rfl) (by decide) rfl dX3_begin_7 (fun σ2 => ?_)
  refine xr_aload_n (pc := 10) X (i := 0) 0 rfl rfl dX3_begin_10 ?_
  refine xgX3 (pc := 11) X (oo0) hh0.1 3 wm_3_0 rfl rfl (by decide) rfl dX3_begin_11 ?_
  refine xr_iconst (pc := 14) X dX3_begin_14 (v := 0) (by decide) ?_
  refine xpNX0 (pc := 15) X (oo0 + 2) hh0.2.2.1.1 3 24 rfl (ty := .int) rfl (fun _ => rfl) rfl (by decide +kernel) rfl rfl (Nat.le_of_ble_eq_true rfl) (by decide) rfl dX3_begin_15 (fun σ3 => ?_)
  refine xr_iconst (pc := 18) X dX3_begin_18 (v := 0) (by decide) ?_
  refine xr_istore_n (pc := 19) X (hf := rfl) (i := 2) (lv2 := [(0, .ref (ad oo0)), (2, .int 0)]) [1, 0] (Nat.le_of_ble_eq_true rfl) hnL rfl dX3_begin_19 ?_
  have hLL14 : ∀ (KK5 : xS → Option xS) (hKK6 : ∀ σ4, xM Γ D ad N Sh (xQV Γ D ad N Sh 0 0) 0 0 (KK5 σ4) σ4 40 [] []), ∀ (nn_9 : Nat) zz7 σ8, xM Γ D ad N Sh (xQV Γ D ad N Sh 0 0) 0 0 (L_X3_begin_20 oo0 KK5 nn_9 zz7 σ8) σ8 20 [(0, .ref (ad oo0)), (2, .int zz7)] [] := by
    intro KK5 hKK6 nn_9
    induction nn_9 with
    | zero => intro zz7 σ8; exact xM_none
    | succ nn_9 ihh10 =>
      intro zz7 σ8
      rw [L_X3_begin_20]
      refine xr_iload_n (pc := 20) X (i := 2) 1 rfl rfl dX3_begin_20 ?_
      refine xr_iconst (pc := 21) X dX3_begin_21 (v := 4) (by decide) ?_
      refine xr_icmp_ge (pc := 22) X 40 (by decide) dX3_begin_22 (fun _ => ?_) (fun _ => ?_)
      · exact x_sub [] rfl (hKK6  _)
      refine xr_aload_n (pc := 25) X (i := 0) 0 rfl rfl dX3_begin_25 ?_
      refine xgX3 (pc := 26) X (oo0) hh0.1 4 wm_3_2 rfl rfl (by decide) rfl dX3_begin_26 ?_
      refine xr_iload_n (pc := 29) X (i := 2) 1 rfl rfl dX3_begin_29 ?_
      refine xr_aldPair (pc := 30) X (oo0 + 6) 4 (fun j => oo0 + 7 + 9 * j) hh0.2.2.2.1.1 hh0.2.2.2.1.2 (fun _ hj => if_pos hj) dX3_begin_30 (fun haa11 => ?_)
      refine xr_callVV (na := 0) (pc := 31) X (oo0 + 7 + 9 * zz7.toNatClampNeg) [] _ (c_X2_begin Γ.2.1 hI (oo0 + 7 + 9 * zz7.toNatClampNeg) ((hh0.2.2.2.2 _ (xin_lt haa11))) σ8) (wG_V wm_4_15 wm_4_12 wm_4_13 wm_4_14 wm_3_4) rfl rfl rfl (by decide +kernel) ⟨Nat.le_of_ble_eq_true rfl, Nat.le_of_ble_eq_true rfl⟩ (hh0.2.2.2.2 _ (xin_lt haa11)).1.1 (hh0.2.2.2.2 _ (xin_lt haa11)).1.2 rfl (T := TX2) (C := RX2) rfl rfl rfl (Nat.le_of_ble_eq_true rfl) ⟨Nat.le_of_ble_eq_true rfl, Nat.le_of_ble_eq_true rfl⟩ dX3_begin_31 (fun σ12 => ?_)
      refine xr_iinc (pc := 34) X (i := 2) (j := 1) [1, 0] (Nat.le_of_ble_eq_true rfl) hnL rfl rfl (fun zz13 => [(0, .ref (ad oo0)), (2, .int zz13)]) (fun _ => rfl) dX3_begin_34 (fun zz13 => ?_)
      refine xr_goto (pc := 37) X 20 (by decide) dX3_begin_37 ?_
      exact ihh10 _ _
  refine hLL14 _ (fun σ4 => ?_) _ _ _
  exact xr_vret (pc := 40) X (Nat.le_refl _) (Nat.le_refl _) dX3_begin_40
def L_X3_copyFrom_54 (oo0 : Nat) (oo1 : Nat) (KK6 : xS → Option xS) : Nat → Int32 → xS → Option xS
  | 0, _, _ => none
  | nn_10 + 1, zz8, σ9 => if 4 ≤ zz8 then (KK6 σ9)
 else (if xin zz8 4 = true then (if xin zz8 4 = true then (xbV (F_X2_copyFrom (oo0 + 7 + 9 * zz8.toNatClampNeg) (oo1 + 7 + 9 * zz8.toNatClampNeg) σ9) (fun (σ14 : xS) => xlet (zz8 + 1) (fun (zz15 : Int32) => L_X3_copyFrom_54 oo0 oo1 KK6 nn_10 zz15 σ14))) else none) else none)
def L_X3_copyFrom_18 (oo0 : Nat) (oo1 : Nat) (KK17 : xS → Option xS) : Nat → Int32 → xS → Option xS
  | 0, _, _ => none
  | nn_21 + 1, zz19, σ20 => if 4 ≤ zz19 then (KK17 σ20)
 else (if xin zz19 4 = true then (xlet (σ20 (oo1 + 1) zz19.toNatClampNeg) (fun (zz23 : Int32) => if xin zz19 4 = true then (xlet (xu σ20 (oo0 + 1) zz19.toNatClampNeg zz23) (fun (σ24 : xS) => xlet (zz19 + 1) (fun (zz25 : Int32) => L_X3_copyFrom_18 oo0 oo1 KK17 nn_21 zz25 σ24))) else none)) else none)
def F_X3_copyFrom (oo0 : Nat) (oo1 : Nat) (σ : xS) : Option xS :=
  xlet (xu σ oo0 0 (σ oo1 0)) (fun (σ1 : xS) => xlet (xu σ1 oo0 1 (σ1 oo1 1)) (fun (σ2 : xS) => L_X3_copyFrom_18 oo0 oo1 (fun (σ3 : xS) => xbV (F_X0_copyFrom 8 (oo0 + 2) 8 (oo1 + 2) σ3) (fun (σ4 : xS) => L_X3_copyFrom_54 oo0 oo1 (fun (σ5 : xS) => some σ5) 1000 0 σ4)) 1000 0 σ2))
abbrev rm_X3_copyFrom : Room := { frames := 3, cells := 0, slots := 0, locals := 64 }
set_option maxHeartbeats 4000000 in
set_option maxRecDepth 100000 in
theorem c_X3_copyFrom (l : Launch) {D : va_G} {ad : Nat → Nat} {N : Nat} {Sh : xSh} (hI : ∀ i j, i < N → j < N → ad i = ad j → i = j) (oo0 : Nat) (hh0 : xIs3 D ad N Sh oo0) (oo1 : Nat) (hh1 : xIs3 D ad N Sh oo1) (σ : xS) : xKV l yX3_copyFrom (Cond.code yX3_copyFrom cX3_copyFrom 3 none :: wG) rm_X3_copyFrom 0 0 D ad N Sh [.ref (ad oo0), .ref (ad oo1)] σ (F_X3_copyFrom oo0 oo1 σ) := by
  refine x_startV (own := RX3) (maxL := 3) (by decide) rfl rfl (Nat.le_of_ble_eq_true rfl) rfl hI (fun Γ hl hnL X => ?_)
  subst hl
  unfold F_X3_copyFrom
  refine xr_aload_n (pc := 0) X (i := 0) 0 rfl rfl dX3_copyFrom_0 ?_
  refine xr_aload_n (pc := 1) X (i := 1) 1 rfl rfl dX3_copyFrom_1 ?_
  refine xgX3 (pc := 2) X (oo1) hh1.1 0 wm_4_10 rfl rfl (by decide) rfl dX3_copyFrom_2 ?_
  refine xpX3 (pc := 5) X (oo0) hh0.1 0 wm_4_10 (ty := .int) rfl (fun _ => rfl) rfl (by decide +kernel) rfl rfl (Nat.le_of_ble_eq_true rfl) (by decide) rfl dX3_copyFrom_5 (fun σ1 => ?_)
  refine xr_aload_n (pc := 8) X (i := 0) 0 rfl rfl dX3_copyFrom_8 ?_
  refine xr_aload_n (pc := 9) X (i := 1) 1 rfl rfl dX3_copyFrom_9 ?_
  refine xgX3 (pc := 10) X (oo1) hh1.1 1 wm_4_11 rfl rfl (by decide) rfl dX3_copyFrom_10 ?_
  refine xpX3 (pc := 13) X (oo0) hh0.1 1 wm_4_11 (ty := .int) rfl (fun _ => rfl) rfl (by decide +kernel) rfl rfl (Nat.le_of_ble_eq_true rfl) (by decide) rfl dX3_copyFrom_13 (fun σ2 => ?_)
  refine xr_iconst (pc := 16) X dX3_copyFrom_16 (v := 0) (by decide) ?_
  refine xr_istore_n (pc := 17) X (hf := rfl) (i := 2) (lv2 := [(0, .ref (ad oo0)), (1, .ref (ad oo1)), (2, .int 0)]) [1, 2, 0] (Nat.le_of_ble_eq_true rfl) hnL rfl dX3_copyFrom_17 ?_
  have hLL26 : ∀ (KK17 : xS → Option xS) (hKK18 : ∀ σ3, xM Γ D ad N Sh (xQV Γ D ad N Sh 0 0) 0 0 (KK17 σ3) σ3 41 [(0, .ref (ad oo0)), (1, .ref (ad oo1))] []), ∀ (nn_21 : Nat) zz19 σ20, xM Γ D ad N Sh (xQV Γ D ad N Sh 0 0) 0 0 (L_X3_copyFrom_18 oo0 oo1 KK17 nn_21 zz19 σ20) σ20 18 [(0, .ref (ad oo0)), (1, .ref (ad oo1)), (2, .int zz19)] [] := by
    intro KK17 hKK18 nn_21
    induction nn_21 with
    | zero => intro zz19 σ20; exact xM_none
    | succ nn_21 ihh22 =>
      intro zz19 σ20
      rw [L_X3_copyFrom_18]
      refine xr_iload_n (pc := 18) X (i := 2) 2 rfl rfl dX3_copyFrom_18 ?_
      refine xr_iconst (pc := 19) X dX3_copyFrom_19 (v := 4) (by decide) ?_
      refine xr_icmp_ge (pc := 20) X 41 (by decide) dX3_copyFrom_20 (fun _ => ?_) (fun _ => ?_)
      · exact x_sub [0, 1] rfl (hKK18  _)
      refine xr_aload_n (pc := 23) X (i := 0) 0 rfl rfl dX3_copyFrom_23 ?_
      refine xgX3 (pc := 24) X (oo0) hh0.1 2 wm_2_20 rfl rfl (by decide) rfl dX3_copyFrom_24 ?_
      refine xr_iload_n (pc := 27) X (i := 2) 2 rfl rfl dX3_copyFrom_27 ?_
      refine xr_aload_n (pc := 28) X (i := 1) 1 rfl rfl dX3_copyFrom_28 ?_
      refine xgX3 (pc := 29) X (oo1) hh1.1 2 wm_2_20 rfl rfl (by decide) rfl dX3_copyFrom_29 ?_
      refine xr_iload_n (pc := 32) X (i := 2) 2 rfl rfl dX3_copyFrom_32 ?_
      refine xr_iald (pc := 33) X (oo1 + 1) (4) hh1.2.1.1 hh1.2.1.2 dX3_copyFrom_33 (fun zz23 => ?_)
      refine xr_iast (pc := 34) X (oo0 + 1) (4) hh0.2.1.1 hh0.2.1.2 dX3_copyFrom_34 (fun σ24 => ?_)
      refine xr_iinc (pc := 35) X (i := 2) (j := 2) [1, 2, 0] (Nat.le_of_ble_eq_true rfl) hnL rfl rfl (fun zz25 => [(0, .ref (ad oo0)), (1, .ref (ad oo1)), (2, .int zz25)]) (fun _ => rfl) dX3_copyFrom_35 (fun zz25 => ?_)
      refine xr_goto (pc := 38) X 18 (by decide) dX3_copyFrom_38 ?_
      exact ihh22 _ _
  refine hLL26 _ (fun σ3 => ?_) _ _ _
  refine xr_aload_n (pc := 41) X (i := 0) 0 rfl rfl dX3_copyFrom_41 ?_
  refine xgX3 (pc := 42) X (oo0) hh0.1 3 wm_3_0 rfl rfl (by decide) rfl dX3_copyFrom_42 ?_
  refine xr_aload_n (pc := 45) X (i := 1) 1 rfl rfl dX3_copyFrom_45 ?_
  refine xgX3 (pc := 46) X (oo1) hh1.1 3 wm_3_0 rfl rfl (by decide) rfl dX3_copyFrom_46 ?_
  refine xr_callVV (na := 1) (pc := 49) X (oo0 + 2) [.ref (ad (oo1 + 2))] _ (c_X0_copyFrom Γ.2.1 hI 8 (oo0 + 2) hh0.2.2.1 8 (oo1 + 2) hh1.2.2.1 σ3) (wG_V wm_17_0 wm_16_21 wm_16_22 wm_16_23 wm_2_23) rfl rfl rfl (by decide +kernel) ⟨Nat.le_of_ble_eq_true rfl, Nat.le_of_ble_eq_true rfl⟩ hh0.2.2.1.1.1 hh0.2.2.1.1.2 rfl (T := TX0) (C := RX0) rfl rfl rfl (Nat.le_of_ble_eq_true rfl) ⟨Nat.le_of_ble_eq_true rfl, Nat.le_of_ble_eq_true rfl⟩ dX3_copyFrom_49 (fun σ4 => ?_)
  refine xr_iconst (pc := 52) X dX3_copyFrom_52 (v := 0) (by decide) ?_
  refine xr_istore_n (pc := 53) X (hf := rfl) (i := 2) (lv2 := [(0, .ref (ad oo0)), (1, .ref (ad oo1)), (2, .int 0)]) [1, 2, 0] (Nat.le_of_ble_eq_true rfl) hnL rfl dX3_copyFrom_53 ?_
  have hLL16 : ∀ (KK6 : xS → Option xS) (hKK7 : ∀ σ5, xM Γ D ad N Sh (xQV Γ D ad N Sh 0 0) 0 0 (KK6 σ5) σ5 80 [] []), ∀ (nn_10 : Nat) zz8 σ9, xM Γ D ad N Sh (xQV Γ D ad N Sh 0 0) 0 0 (L_X3_copyFrom_54 oo0 oo1 KK6 nn_10 zz8 σ9) σ9 54 [(0, .ref (ad oo0)), (1, .ref (ad oo1)), (2, .int zz8)] [] := by
    intro KK6 hKK7 nn_10
    induction nn_10 with
    | zero => intro zz8 σ9; exact xM_none
    | succ nn_10 ihh11 =>
      intro zz8 σ9
      rw [L_X3_copyFrom_54]
      refine xr_iload_n (pc := 54) X (i := 2) 2 rfl rfl dX3_copyFrom_54 ?_
      refine xr_iconst (pc := 55) X dX3_copyFrom_55 (v := 4) (by decide) ?_
      refine xr_icmp_ge (pc := 56) X 80 (by decide) dX3_copyFrom_56 (fun _ => ?_) (fun _ => ?_)
      · exact x_sub [] rfl (hKK7  _)
      refine xr_aload_n (pc := 59) X (i := 0) 0 rfl rfl dX3_copyFrom_59 ?_
      refine xgX3 (pc := 60) X (oo0) hh0.1 4 wm_3_2 rfl rfl (by decide) rfl dX3_copyFrom_60 ?_
      refine xr_iload_n (pc := 63) X (i := 2) 2 rfl rfl dX3_copyFrom_63 ?_
      refine xr_aldPair (pc := 64) X (oo0 + 6) 4 (fun j => oo0 + 7 + 9 * j) hh0.2.2.2.1.1 hh0.2.2.2.1.2 (fun _ hj => if_pos hj) dX3_copyFrom_64 (fun haa12 => ?_)
      refine xr_aload_n (pc := 65) X (i := 1) 1 rfl rfl dX3_copyFrom_65 ?_
      refine xgX3 (pc := 66) X (oo1) hh1.1 4 wm_3_2 rfl rfl (by decide) rfl dX3_copyFrom_66 ?_
      refine xr_iload_n (pc := 69) X (i := 2) 2 rfl rfl dX3_copyFrom_69 ?_
      refine xr_aldPair (pc := 70) X (oo1 + 6) 4 (fun j => oo1 + 7 + 9 * j) hh1.2.2.2.1.1 hh1.2.2.2.1.2 (fun _ hj => if_pos hj) dX3_copyFrom_70 (fun haa13 => ?_)
      refine xr_callVV (na := 1) (pc := 71) X (oo0 + 7 + 9 * zz8.toNatClampNeg) [.ref (ad (oo1 + 7 + 9 * zz8.toNatClampNeg))] _ (c_X2_copyFrom Γ.2.1 hI (oo0 + 7 + 9 * zz8.toNatClampNeg) ((hh0.2.2.2.2 _ (xin_lt haa12))) (oo1 + 7 + 9 * zz8.toNatClampNeg) ((hh1.2.2.2.2 _ (xin_lt haa13))) σ9) (wG_V wm_17_5 wm_17_2 wm_17_3 wm_17_4 wm_3_4) rfl rfl rfl (by decide +kernel) ⟨Nat.le_of_ble_eq_true rfl, Nat.le_of_ble_eq_true rfl⟩ (hh0.2.2.2.2 _ (xin_lt haa12)).1.1 (hh0.2.2.2.2 _ (xin_lt haa12)).1.2 rfl (T := TX2) (C := RX2) rfl rfl rfl (Nat.le_of_ble_eq_true rfl) ⟨Nat.le_of_ble_eq_true rfl, Nat.le_of_ble_eq_true rfl⟩ dX3_copyFrom_71 (fun σ14 => ?_)
      refine xr_iinc (pc := 74) X (i := 2) (j := 2) [1, 2, 0] (Nat.le_of_ble_eq_true rfl) hnL rfl rfl (fun zz15 => [(0, .ref (ad oo0)), (1, .ref (ad oo1)), (2, .int zz15)]) (fun _ => rfl) dX3_copyFrom_74 (fun zz15 => ?_)
      refine xr_goto (pc := 77) X 54 (by decide) dX3_copyFrom_77 ?_
      exact ihh11 _ _
  refine hLL16 _ (fun σ5 => ?_) _ _ _
  exact xr_vret (pc := 80) X (Nat.le_refl _) (Nat.le_refl _) dX3_copyFrom_80
def L_X3_sumOfWriters_4 (oo0 : Nat) (pp1 : Int32) (KK3 : Int32 → xS → Option (Int32 × xS)) : Nat → Int32 → Int32 → xS → Option (Int32 × xS)
  | 0, _, _, _ => none
  | nn_8 + 1, zz5, zz6, σ7 => if 4 ≤ zz6 then (KK3 zz5 σ7)
 else (if xin zz6 4 = true then (xbI (F_X2_numberOfWriter (oo0 + 7 + 9 * zz6.toNatClampNeg) pp1 σ7) (fun (zz12 : Int32) (σ11 : xS) => xlet (zz5 + zz12) (fun (zz13 : Int32) => xlet (zz6 + 1) (fun (zz14 : Int32) => L_X3_sumOfWriters_4 oo0 pp1 KK3 nn_8 zz13 zz14 σ11)))) else none)
def F_X3_sumOfWriters (oo0 : Nat) (pp1 : Int32) (σ : xS) : Option (Int32 × xS) :=
  L_X3_sumOfWriters_4 oo0 pp1 (fun (zz1 : Int32) (σ2 : xS) => some (zz1, σ2)) 1000 0 0 σ
abbrev rm_X3_sumOfWriters : Room := { frames := 1, cells := 0, slots := 0, locals := 21 }
set_option maxHeartbeats 4000000 in
set_option maxRecDepth 100000 in
theorem c_X3_sumOfWriters (l : Launch) {D : va_G} {ad : Nat → Nat} {N : Nat} {Sh : xSh} (hI : ∀ i j, i < N → j < N → ad i = ad j → i = j) (oo0 : Nat) (hh0 : xIs3 D ad N Sh oo0) (pp1 : Int32) (σ : xS) : xKI l yX3_sumOfWriters (Cond.code yX3_sumOfWriters cX3_sumOfWriters 4 (some .int) :: wG) rm_X3_sumOfWriters 0 0 D ad N Sh [.ref (ad oo0), .int pp1] σ (F_X3_sumOfWriters oo0 pp1 σ) := by
  refine x_startI (own := RX3) (maxL := 4) (by decide) rfl rfl (Nat.le_of_ble_eq_true rfl) rfl hI (fun Γ hl hnL X => ?_)
  subst hl
  unfold F_X3_sumOfWriters
  refine xr_iconst (pc := 0) X dX3_sumOfWriters_0 (v := 0) (by decide) ?_
  refine xr_istore_n (pc := 1) X (hf := rfl) (i := 2) (lv2 := [(0, .ref (ad oo0)), (1, .int pp1), (2, .int 0)]) [1, 2, 0] (Nat.le_of_ble_eq_true rfl) hnL rfl dX3_sumOfWriters_1 ?_
  refine xr_iconst (pc := 2) X dX3_sumOfWriters_2 (v := 0) (by decide) ?_
  refine xr_istore_n (pc := 3) X (hf := rfl) (i := 3) (lv2 := [(0, .ref (ad oo0)), (1, .int pp1), (2, .int 0), (3, .int 0)]) [1, 2, 3, 0] (Nat.le_of_ble_eq_true rfl) hnL rfl dX3_sumOfWriters_3 ?_
  have hLL15 : ∀ (KK3 : Int32 → xS → Option (Int32 × xS)) (hKK4 : ∀ zz1 σ2, xM Γ D ad N Sh (xQI Γ D ad N Sh 0 0) 0 0 (KK3 zz1 σ2) σ2 28 [(2, .int zz1)] []), ∀ (nn_8 : Nat) zz5 zz6 σ7, xM Γ D ad N Sh (xQI Γ D ad N Sh 0 0) 0 0 (L_X3_sumOfWriters_4 oo0 pp1 KK3 nn_8 zz5 zz6 σ7) σ7 4 [(0, .ref (ad oo0)), (1, .int pp1), (2, .int zz5), (3, .int zz6)] [] := by
    intro KK3 hKK4 nn_8
    induction nn_8 with
    | zero => intro zz5 zz6 σ7; exact xM_none
    | succ nn_8 ihh9 =>
      intro zz5 zz6 σ7
      rw [L_X3_sumOfWriters_4]
      refine xr_iload_n (pc := 4) X (i := 3) 3 rfl rfl dX3_sumOfWriters_4 ?_
      refine xr_iconst (pc := 5) X dX3_sumOfWriters_5 (v := 4) (by decide) ?_
      refine xr_icmp_ge (pc := 6) X 28 (by decide) dX3_sumOfWriters_6 (fun _ => ?_) (fun _ => ?_)
      · exact x_sub [2] rfl (hKK4 _ _)
      refine xr_iload_n (pc := 9) X (i := 2) 2 rfl rfl dX3_sumOfWriters_9 ?_
      refine xr_aload_n (pc := 10) X (i := 0) 0 rfl rfl dX3_sumOfWriters_10 ?_
      refine xgX3 (pc := 11) X (oo0) hh0.1 4 wm_3_2 rfl rfl (by decide) rfl dX3_sumOfWriters_11 ?_
      refine xr_iload_n (pc := 14) X (i := 3) 3 rfl rfl dX3_sumOfWriters_14 ?_
      refine xr_aldPair (pc := 15) X (oo0 + 6) 4 (fun j => oo0 + 7 + 9 * j) hh0.2.2.2.1.1 hh0.2.2.2.1.2 (fun _ hj => if_pos hj) dX3_sumOfWriters_15 (fun haa10 => ?_)
      refine xr_iload_n (pc := 16) X (i := 1) 1 rfl rfl dX3_sumOfWriters_16 ?_
      refine xr_callVI (na := 1) (pc := 17) X (oo0 + 7 + 9 * zz6.toNatClampNeg) [.int pp1] _ (c_X2_numberOfWriter Γ.2.1 hI (oo0 + 7 + 9 * zz6.toNatClampNeg) ((hh0.2.2.2.2 _ (xin_lt haa10))) pp1 σ7) (wG_V wm_13_18 wm_13_15 wm_13_16 wm_13_17 wm_3_4) rfl rfl rfl (by decide +kernel) ⟨Nat.le_of_ble_eq_true rfl, Nat.le_of_ble_eq_true rfl⟩ (hh0.2.2.2.2 _ (xin_lt haa10)).1.1 (hh0.2.2.2.2 _ (xin_lt haa10)).1.2 rfl (T := TX2) (C := RX2) rfl rfl rfl (Nat.le_of_ble_eq_true rfl) ⟨Nat.le_of_ble_eq_true rfl, Nat.le_of_ble_eq_true rfl⟩ dX3_sumOfWriters_17 (fun zz12 σ11 => ?_)
      refine xr_iadd (pc := 20) X dX3_sumOfWriters_20 ?_
      refine x_leti (fun zz13 => ?_)
      refine xr_istore_n (pc := 21) X (hf := rfl) (i := 2) (lv2 := [(0, .ref (ad oo0)), (1, .int pp1), (2, .int zz13), (3, .int zz6)]) [1, 2, 0, 3] (Nat.le_of_ble_eq_true rfl) hnL rfl dX3_sumOfWriters_21 ?_
      refine xr_iinc (pc := 22) X (i := 3) (j := 3) [1, 2, 3, 0] (Nat.le_of_ble_eq_true rfl) hnL rfl rfl (fun zz14 => [(0, .ref (ad oo0)), (1, .int pp1), (2, .int zz13), (3, .int zz14)]) (fun _ => rfl) dX3_sumOfWriters_22 (fun zz14 => ?_)
      refine xr_goto (pc := 25) X 4 (by decide) dX3_sumOfWriters_25 ?_
      exact ihh9 _ _ _
  refine hLL15 _ (fun zz1 σ2 => ?_) _ _ _ _
  refine xr_iload_n (pc := 28) X (i := 2) 0 rfl rfl dX3_sumOfWriters_28 ?_
  exact xr_iret (pc := 29) X (Nat.le_of_ble_eq_true rfl) (Nat.le_of_ble_eq_true rfl) dX3_sumOfWriters_29
def L_X3_sumOfDesks_4 (oo0 : Nat) (pp1 : Int32) (KK3 : Int32 → xS → Option (Int32 × xS)) : Nat → Int32 → Int32 → xS → Option (Int32 × xS)
  | 0, _, _, _ => none
  | nn_8 + 1, zz5, zz6, σ7 => if 4 ≤ zz6 then (KK3 zz5 σ7)
 else (if xin zz6 4 = true then (xbI (F_X2_numberOfDesk (oo0 + 7 + 9 * zz6.toNatClampNeg) pp1 σ7) (fun (zz12 : Int32) (σ11 : xS) => xlet (zz5 + zz12) (fun (zz13 : Int32) => xlet (zz6 + 1) (fun (zz14 : Int32) => L_X3_sumOfDesks_4 oo0 pp1 KK3 nn_8 zz13 zz14 σ11)))) else none)
def F_X3_sumOfDesks (oo0 : Nat) (pp1 : Int32) (σ : xS) : Option (Int32 × xS) :=
  L_X3_sumOfDesks_4 oo0 pp1 (fun (zz1 : Int32) (σ2 : xS) => some (zz1, σ2)) 1000 0 0 σ
abbrev rm_X3_sumOfDesks : Room := { frames := 1, cells := 0, slots := 0, locals := 21 }
set_option maxHeartbeats 4000000 in
set_option maxRecDepth 100000 in
theorem c_X3_sumOfDesks (l : Launch) {D : va_G} {ad : Nat → Nat} {N : Nat} {Sh : xSh} (hI : ∀ i j, i < N → j < N → ad i = ad j → i = j) (oo0 : Nat) (hh0 : xIs3 D ad N Sh oo0) (pp1 : Int32) (σ : xS) : xKI l yX3_sumOfDesks (Cond.code yX3_sumOfDesks cX3_sumOfDesks 4 (some .int) :: wG) rm_X3_sumOfDesks 0 0 D ad N Sh [.ref (ad oo0), .int pp1] σ (F_X3_sumOfDesks oo0 pp1 σ) := by
  refine x_startI (own := RX3) (maxL := 4) (by decide) rfl rfl (Nat.le_of_ble_eq_true rfl) rfl hI (fun Γ hl hnL X => ?_)
  subst hl
  unfold F_X3_sumOfDesks
  refine xr_iconst (pc := 0) X dX3_sumOfDesks_0 (v := 0) (by decide) ?_
  refine xr_istore_n (pc := 1) X (hf := rfl) (i := 2) (lv2 := [(0, .ref (ad oo0)), (1, .int pp1), (2, .int 0)]) [1, 2, 0] (Nat.le_of_ble_eq_true rfl) hnL rfl dX3_sumOfDesks_1 ?_
  refine xr_iconst (pc := 2) X dX3_sumOfDesks_2 (v := 0) (by decide) ?_
  refine xr_istore_n (pc := 3) X (hf := rfl) (i := 3) (lv2 := [(0, .ref (ad oo0)), (1, .int pp1), (2, .int 0), (3, .int 0)]) [1, 2, 3, 0] (Nat.le_of_ble_eq_true rfl) hnL rfl dX3_sumOfDesks_3 ?_
  have hLL15 : ∀ (KK3 : Int32 → xS → Option (Int32 × xS)) (hKK4 : ∀ zz1 σ2, xM Γ D ad N Sh (xQI Γ D ad N Sh 0 0) 0 0 (KK3 zz1 σ2) σ2 28 [(2, .int zz1)] []), ∀ (nn_8 : Nat) zz5 zz6 σ7, xM Γ D ad N Sh (xQI Γ D ad N Sh 0 0) 0 0 (L_X3_sumOfDesks_4 oo0 pp1 KK3 nn_8 zz5 zz6 σ7) σ7 4 [(0, .ref (ad oo0)), (1, .int pp1), (2, .int zz5), (3, .int zz6)] [] := by
    intro KK3 hKK4 nn_8
    induction nn_8 with
    | zero => intro zz5 zz6 σ7; exact xM_none
    | succ nn_8 ihh9 =>
      intro zz5 zz6 σ7
      rw [L_X3_sumOfDesks_4]
      refine xr_iload_n (pc := 4) X (i := 3) 3 rfl rfl dX3_sumOfDesks_4 ?_
      refine xr_iconst (pc := 5) X dX3_sumOfDesks_5 (v := 4) (by decide) ?_
      refine xr_icmp_ge (pc := 6) X 28 (by decide) dX3_sumOfDesks_6 (fun _ => ?_) (fun _ => ?_)
      · exact x_sub [2] rfl (hKK4 _ _)
      refine xr_iload_n (pc := 9) X (i := 2) 2 rfl rfl dX3_sumOfDesks_9 ?_
      refine xr_aload_n (pc := 10) X (i := 0) 0 rfl rfl dX3_sumOfDesks_10 ?_
      refine xgX3 (pc := 11) X (oo0) hh0.1 4 wm_3_2 rfl rfl (by decide) rfl dX3_sumOfDesks_11 ?_
      refine xr_iload_n (pc := 14) X (i := 3) 3 rfl rfl dX3_sumOfDesks_14 ?_
      refine xr_aldPair (pc := 15) X (oo0 + 6) 4 (fun j => oo0 + 7 + 9 * j) hh0.2.2.2.1.1 hh0.2.2.2.1.2 (fun _ hj => if_pos hj) dX3_sumOfDesks_15 (fun haa10 => ?_)
      refine xr_iload_n (pc := 16) X (i := 1) 1 rfl rfl dX3_sumOfDesks_16 ?_
      refine xr_callVI (na := 1) (pc := 17) X (oo0 + 7 + 9 * zz6.toNatClampNeg) [.int pp1] _ (c_X2_numberOfDesk Γ.2.1 hI (oo0 + 7 + 9 * zz6.toNatClampNeg) ((hh0.2.2.2.2 _ (xin_lt haa10))) pp1 σ7) (wG_V wm_14_2 wm_13_23 wm_14_0 wm_14_1 wm_3_4) rfl rfl rfl (by decide +kernel) ⟨Nat.le_of_ble_eq_true rfl, Nat.le_of_ble_eq_true rfl⟩ (hh0.2.2.2.2 _ (xin_lt haa10)).1.1 (hh0.2.2.2.2 _ (xin_lt haa10)).1.2 rfl (T := TX2) (C := RX2) rfl rfl rfl (Nat.le_of_ble_eq_true rfl) ⟨Nat.le_of_ble_eq_true rfl, Nat.le_of_ble_eq_true rfl⟩ dX3_sumOfDesks_17 (fun zz12 σ11 => ?_)
      refine xr_iadd (pc := 20) X dX3_sumOfDesks_20 ?_
      refine x_leti (fun zz13 => ?_)
      refine xr_istore_n (pc := 21) X (hf := rfl) (i := 2) (lv2 := [(0, .ref (ad oo0)), (1, .int pp1), (2, .int zz13), (3, .int zz6)]) [1, 2, 0, 3] (Nat.le_of_ble_eq_true rfl) hnL rfl dX3_sumOfDesks_21 ?_
      refine xr_iinc (pc := 22) X (i := 3) (j := 3) [1, 2, 3, 0] (Nat.le_of_ble_eq_true rfl) hnL rfl rfl (fun zz14 => [(0, .ref (ad oo0)), (1, .int pp1), (2, .int zz13), (3, .int zz14)]) (fun _ => rfl) dX3_sumOfDesks_22 (fun zz14 => ?_)
      refine xr_goto (pc := 25) X 4 (by decide) dX3_sumOfDesks_25 ?_
      exact ihh9 _ _ _
  refine hLL15 _ (fun zz1 σ2 => ?_) _ _ _ _
  refine xr_iload_n (pc := 28) X (i := 2) 0 rfl rfl dX3_sumOfDesks_28 ?_
  exact xr_iret (pc := 29) X (Nat.le_of_ble_eq_true rfl) (Nat.le_of_ble_eq_true rfl) dX3_sumOfDesks_29
def F_X3_faultOfWriter (oo0 : Nat) (pp1 : Int32) (σ : xS) : Option (Int32 × xS) :=
  if pp1 < 0 then (some ((1 : Int32), σ))
 else (if (σ oo0 0) ≤ pp1 then (some ((1 : Int32), σ))
 else (if 4 ≤ pp1 then (some ((1 : Int32), σ))
 else (some ((0 : Int32), σ))))
abbrev rm_X3_faultOfWriter : Room := { frames := 0, cells := 0, slots := 0, locals := 0 }
set_option maxHeartbeats 4000000 in
set_option maxRecDepth 100000 in
theorem c_X3_faultOfWriter (l : Launch) {D : va_G} {ad : Nat → Nat} {N : Nat} {Sh : xSh} (hI : ∀ i j, i < N → j < N → ad i = ad j → i = j) (oo0 : Nat) (hh0 : xIs3 D ad N Sh oo0) (pp1 : Int32) (σ : xS) : xKI l yX3_faultOfWriter (Cond.code yX3_faultOfWriter cX3_faultOfWriter 2 (some .int) :: wG) rm_X3_faultOfWriter 0 0 D ad N Sh [.ref (ad oo0), .int pp1] σ (F_X3_faultOfWriter oo0 pp1 σ) := by
  refine x_startI (own := RX3) (maxL := 2) (by decide) rfl rfl (Nat.le_of_ble_eq_true rfl) rfl hI (fun Γ hl hnL X => ?_)
  subst hl
  unfold F_X3_faultOfWriter
  refine xr_iload_n (pc := 0) X (i := 1) 1 rfl rfl dX3_faultOfWriter_0 ?_
  refine xr_if_lt (pc := 1) X 21 (by decide) dX3_faultOfWriter_1 (fun _ => ?_) (fun _ => ?_)
  · refine xr_iconst (pc := 21) X dX3_faultOfWriter_21 (v := 1) (by decide) ?_
    exact xr_iret (pc := 22) X (Nat.le_of_ble_eq_true rfl) (Nat.le_of_ble_eq_true rfl) dX3_faultOfWriter_22
  refine xr_iload_n (pc := 4) X (i := 1) 1 rfl rfl dX3_faultOfWriter_4 ?_
  refine xr_aload_n (pc := 5) X (i := 0) 0 rfl rfl dX3_faultOfWriter_5 ?_
  refine xgX3 (pc := 6) X (oo0) hh0.1 0 wm_4_10 rfl rfl (by decide) rfl dX3_faultOfWriter_6 ?_
  refine xr_icmp_ge (pc := 9) X 21 (by decide) dX3_faultOfWriter_9 (fun _ => ?_) (fun _ => ?_)
  · refine xr_iconst (pc := 21) X dX3_faultOfWriter_21 (v := 1) (by decide) ?_
    exact xr_iret (pc := 22) X (Nat.le_of_ble_eq_true rfl) (Nat.le_of_ble_eq_true rfl) dX3_faultOfWriter_22
  refine xr_iload_n (pc := 12) X (i := 1) 1 rfl rfl dX3_faultOfWriter_12 ?_
  refine xr_iconst (pc := 13) X dX3_faultOfWriter_13 (v := 4) (by decide) ?_
  refine xr_icmp_ge (pc := 14) X 21 (by decide) dX3_faultOfWriter_14 (fun _ => ?_) (fun _ => ?_)
  · refine xr_iconst (pc := 21) X dX3_faultOfWriter_21 (v := 1) (by decide) ?_
    exact xr_iret (pc := 22) X (Nat.le_of_ble_eq_true rfl) (Nat.le_of_ble_eq_true rfl) dX3_faultOfWriter_22
  refine xr_iconst (pc := 17) X dX3_faultOfWriter_17 (v := 0) (by decide) ?_
  refine xr_goto (pc := 18) X 22 (by decide) dX3_faultOfWriter_18 ?_
  exact xr_iret (pc := 22) X (Nat.le_of_ble_eq_true rfl) (Nat.le_of_ble_eq_true rfl) dX3_faultOfWriter_22
def F_X3_faultOfNote (oo0 : Nat) (pp1 : Int32) (pp2 : Int32) (σ : xS) : Option (Int32 × xS) :=
  xbI (F_X3_faultOfWriter oo0 pp1 σ) (fun (zz2 : Int32) (σ1 : xS) => if zz2 = 0 then (xbI (F_X5_isWithin pp2 1 500 σ1) (fun (zz4 : Int32) (σ3 : xS) => if ¬ zz4 = 0 then (if xin pp1 4 = true then (xbI (F_X2_hasRoomFor (oo0 + 7 + 9 * pp1.toNatClampNeg) pp2 σ3) (fun (zz7 : Int32) (σ6 : xS) => if zz7 = 0 then (some ((3 : Int32), σ6))
 else (some ((0 : Int32), σ6)))) else none)
 else (some ((2 : Int32), σ3))))
 else (some ((1 : Int32), σ1)))
abbrev rm_X3_faultOfNote : Room := { frames := 1, cells := 0, slots := 0, locals := 22 }
set_option maxHeartbeats 4000000 in
set_option maxRecDepth 100000 in
theorem c_X3_faultOfNote (l : Launch) {D : va_G} {ad : Nat → Nat} {N : Nat} {Sh : xSh} (hI : ∀ i j, i < N → j < N → ad i = ad j → i = j) (oo0 : Nat) (hh0 : xIs3 D ad N Sh oo0) (pp1 : Int32) (pp2 : Int32) (σ : xS) : xKI l yX3_faultOfNote (Cond.code yX3_faultOfNote cX3_faultOfNote 3 (some .int) :: wG) rm_X3_faultOfNote 0 0 D ad N Sh [.ref (ad oo0), .int pp1, .int pp2] σ (F_X3_faultOfNote oo0 pp1 pp2 σ) := by
  refine x_startI (own := RX3) (maxL := 3) (by decide) rfl rfl (Nat.le_of_ble_eq_true rfl) rfl hI (fun Γ hl hnL X => ?_)
  subst hl
  unfold F_X3_faultOfNote
  refine xr_aload_n (pc := 0) X (i := 0) 0 rfl rfl dX3_faultOfNote_0 ?_
  refine xr_iload_n (pc := 1) X (i := 1) 1 rfl rfl dX3_faultOfNote_1 ?_
  refine xr_callVI (na := 1) (pc := 2) X (oo0) [.int pp1] _ (c_X3_faultOfWriter Γ.2.1 hI oo0 hh0 pp1 σ) (wG_V wm_9_20 wm_9_17 wm_9_18 wm_9_19 wm_1_16) rfl rfl rfl (by decide +kernel) ⟨Nat.le_of_ble_eq_true rfl, Nat.le_of_ble_eq_true rfl⟩ hh0.1.1 hh0.1.2 rfl (T := TX3) (C := RX3) rfl rfl rfl (Nat.le_of_ble_eq_true rfl) ⟨Nat.le_of_ble_eq_true rfl, Nat.le_of_ble_eq_true rfl⟩ dX3_faultOfNote_2 (fun zz2 σ1 => ?_)
  refine xr_if_eq (pc := 5) X 10 (by decide) dX3_faultOfNote_5 (fun _ => ?_) (fun _ => ?_)
  · refine xr_iload_n (pc := 10) X (i := 2) 2 rfl rfl dX3_faultOfNote_10 ?_
    refine xr_iconst (pc := 11) X dX3_faultOfNote_11 (v := 1) (by decide) ?_
    refine xr_sipush (pc := 12) X dX3_faultOfNote_12 (v := 500) (by decide) ?_
    refine xr_callSNI (na := 3) (pc := 15) X [.int pp2, .int 1, .int 500] (c_X5_isWithin Γ.2.1 hI pp2 1 500 σ1) (wG_1 wm_6_13) 28 rfl (List.mem_cons_of_mem _ wm_1_2) (List.mem_cons_of_mem _ wm_6_12) rfl rfl rfl (by decide +kernel) ⟨Nat.le_of_ble_eq_true rfl, Nat.le_of_ble_eq_true rfl⟩ rfl rfl (Nat.le_of_ble_eq_true rfl) ⟨Nat.le_of_ble_eq_true rfl, Nat.le_of_ble_eq_true rfl⟩ dX3_faultOfNote_15 (fun zz4 σ3 => ?_)
    refine xr_if_ne (pc := 18) X 23 (by decide) dX3_faultOfNote_18 (fun _ => ?_) (fun _ => ?_)
    · refine xr_aload_n (pc := 23) X (i := 0) 0 rfl rfl dX3_faultOfNote_23 ?_
      refine xgX3 (pc := 24) X (oo0) hh0.1 4 wm_3_2 rfl rfl (by decide) rfl dX3_faultOfNote_24 ?_
      refine xr_iload_n (pc := 27) X (i := 1) 1 rfl rfl dX3_faultOfNote_27 ?_
      refine xr_aldPair (pc := 28) X (oo0 + 6) 4 (fun j => oo0 + 7 + 9 * j) hh0.2.2.2.1.1 hh0.2.2.2.1.2 (fun _ hj => if_pos hj) dX3_faultOfNote_28 (fun haa5 => ?_)
      refine xr_iload_n (pc := 29) X (i := 2) 2 rfl rfl dX3_faultOfNote_29 ?_
      refine xr_callVI (na := 1) (pc := 30) X (oo0 + 7 + 9 * pp1.toNatClampNeg) [.int pp2] _ (c_X2_hasRoomFor Γ.2.1 hI (oo0 + 7 + 9 * pp1.toNatClampNeg) ((hh0.2.2.2.2 _ (xin_lt haa5))) pp2 σ3) (wG_V wm_10_0 wm_9_21 wm_9_22 wm_9_23 wm_3_4) rfl rfl rfl (by decide +kernel) ⟨Nat.le_of_ble_eq_true rfl, Nat.le_of_ble_eq_true rfl⟩ (hh0.2.2.2.2 _ (xin_lt haa5)).1.1 (hh0.2.2.2.2 _ (xin_lt haa5)).1.2 rfl (T := TX2) (C := RX2) rfl rfl rfl (Nat.le_of_ble_eq_true rfl) ⟨Nat.le_of_ble_eq_true rfl, Nat.le_of_ble_eq_true rfl⟩ dX3_faultOfNote_30 (fun zz7 σ6 => ?_)
      refine xr_if_eq (pc := 33) X 40 (by decide) dX3_faultOfNote_33 (fun _ => ?_) (fun _ => ?_)
      · refine xr_iconst (pc := 40) X dX3_faultOfNote_40 (v := 3) (by decide) ?_
        exact xr_iret (pc := 41) X (Nat.le_of_ble_eq_true rfl) (Nat.le_of_ble_eq_true rfl) dX3_faultOfNote_41
      refine xr_iconst (pc := 36) X dX3_faultOfNote_36 (v := 0) (by decide) ?_
      refine xr_goto (pc := 37) X 41 (by decide) dX3_faultOfNote_37 ?_
      exact xr_iret (pc := 41) X (Nat.le_of_ble_eq_true rfl) (Nat.le_of_ble_eq_true rfl) dX3_faultOfNote_41
    refine xr_iconst (pc := 21) X dX3_faultOfNote_21 (v := 2) (by decide) ?_
    exact xr_iret (pc := 22) X (Nat.le_of_ble_eq_true rfl) (Nat.le_of_ble_eq_true rfl) dX3_faultOfNote_22
  refine xr_iconst (pc := 8) X dX3_faultOfNote_8 (v := 1) (by decide) ?_
  exact xr_iret (pc := 9) X (Nat.le_of_ble_eq_true rfl) (Nat.le_of_ble_eq_true rfl) dX3_faultOfNote_9
def F_X3_faultOfPlan (oo0 : Nat) (pp1 : Int32) (pp2 : Int32) (pp3 : Int32) (σ : xS) : Option (Int32 × xS) :=
  xbI (F_X3_faultOfWriter oo0 pp2 σ) (fun (zz2 : Int32) (σ1 : xS) => if zz2 = 0 then (xbI (F_X5_isWithin pp1 1 99 σ1) (fun (zz4 : Int32) (σ3 : xS) => if zz4 = 0 then (some ((2 : Int32), σ3))
 else (xbI (F_X5_isWithin pp3 1 500 σ3) (fun (zz6 : Int32) (σ5 : xS) => if ¬ zz6 = 0 then (if 8 ≤ (σ5 (oo0 + 2) 3) then (some ((3 : Int32), σ5))
 else (some ((0 : Int32), σ5)))
 else (some ((2 : Int32), σ5))))))
 else (some ((1 : Int32), σ1)))
abbrev rm_X3_faultOfPlan : Room := { frames := 1, cells := 0, slots := 0, locals := 22 }
set_option maxHeartbeats 4000000 in
set_option maxRecDepth 100000 in
theorem c_X3_faultOfPlan (l : Launch) {D : va_G} {ad : Nat → Nat} {N : Nat} {Sh : xSh} (hI : ∀ i j, i < N → j < N → ad i = ad j → i = j) (oo0 : Nat) (hh0 : xIs3 D ad N Sh oo0) (pp1 : Int32) (pp2 : Int32) (pp3 : Int32) (σ : xS) : xKI l yX3_faultOfPlan (Cond.code yX3_faultOfPlan cX3_faultOfPlan 4 (some .int) :: wG) rm_X3_faultOfPlan 0 0 D ad N Sh [.ref (ad oo0), .int pp1, .int pp2, .int pp3] σ (F_X3_faultOfPlan oo0 pp1 pp2 pp3 σ) := by
  refine x_startI (own := RX3) (maxL := 4) (by decide) rfl rfl (Nat.le_of_ble_eq_true rfl) rfl hI (fun Γ hl hnL X => ?_)
  subst hl
  unfold F_X3_faultOfPlan
  refine xr_aload_n (pc := 0) X (i := 0) 0 rfl rfl dX3_faultOfPlan_0 ?_
  refine xr_iload_n (pc := 1) X (i := 2) 2 rfl rfl dX3_faultOfPlan_1 ?_
  refine xr_callVI (na := 1) (pc := 2) X (oo0) [.int pp2] _ (c_X3_faultOfWriter Γ.2.1 hI oo0 hh0 pp2 σ) (wG_V wm_9_20 wm_9_17 wm_9_18 wm_9_19 wm_1_16) rfl rfl rfl (by decide +kernel) ⟨Nat.le_of_ble_eq_true rfl, Nat.le_of_ble_eq_true rfl⟩ hh0.1.1 hh0.1.2 rfl (T := TX3) (C := RX3) rfl rfl rfl (Nat.le_of_ble_eq_true rfl) ⟨Nat.le_of_ble_eq_true rfl, Nat.le_of_ble_eq_true rfl⟩ dX3_faultOfPlan_2 (fun zz2 σ1 => ?_)
  refine xr_if_eq (pc := 5) X 10 (by decide) dX3_faultOfPlan_5 (fun _ => ?_) (fun _ => ?_)
  · refine xr_iload_n (pc := 10) X (i := 1) 1 rfl rfl dX3_faultOfPlan_10 ?_
    refine xr_iconst (pc := 11) X dX3_faultOfPlan_11 (v := 1) (by decide) ?_
    refine xr_bipush (pc := 12) X dX3_faultOfPlan_12 (v := 99) (by decide) ?_
    refine xr_callSNI (na := 3) (pc := 14) X [.int pp1, .int 1, .int 99] (c_X5_isWithin Γ.2.1 hI pp1 1 99 σ1) (wG_1 wm_6_13) 28 rfl (List.mem_cons_of_mem _ wm_1_2) (List.mem_cons_of_mem _ wm_6_12) rfl rfl rfl (by decide +kernel) ⟨Nat.le_of_ble_eq_true rfl, Nat.le_of_ble_eq_true rfl⟩ rfl rfl (Nat.le_of_ble_eq_true rfl) ⟨Nat.le_of_ble_eq_true rfl, Nat.le_of_ble_eq_true rfl⟩ dX3_faultOfPlan_14 (fun zz4 σ3 => ?_)
    refine xr_if_eq (pc := 17) X 31 (by decide) dX3_faultOfPlan_17 (fun _ => ?_) (fun _ => ?_)
    · refine xr_iconst (pc := 31) X dX3_faultOfPlan_31 (v := 2) (by decide) ?_
      exact xr_iret (pc := 32) X (Nat.le_of_ble_eq_true rfl) (Nat.le_of_ble_eq_true rfl) dX3_faultOfPlan_32
    refine xr_iload_n (pc := 20) X (i := 3) 3 rfl rfl dX3_faultOfPlan_20 ?_
    refine xr_iconst (pc := 21) X dX3_faultOfPlan_21 (v := 1) (by decide) ?_
    refine xr_sipush (pc := 22) X dX3_faultOfPlan_22 (v := 500) (by decide) ?_
    refine xr_callSNI (na := 3) (pc := 25) X [.int pp3, .int 1, .int 500] (c_X5_isWithin Γ.2.1 hI pp3 1 500 σ3) (wG_1 wm_6_13) 28 rfl (List.mem_cons_of_mem _ wm_1_2) (List.mem_cons_of_mem _ wm_6_12) rfl rfl rfl (by decide +kernel) ⟨Nat.le_of_ble_eq_true rfl, Nat.le_of_ble_eq_true rfl⟩ rfl rfl (Nat.le_of_ble_eq_true rfl) ⟨Nat.le_of_ble_eq_true rfl, Nat.le_of_ble_eq_true rfl⟩ dX3_faultOfPlan_25 (fun zz6 σ5 => ?_)
    refine xr_if_ne (pc := 28) X 33 (by decide) dX3_faultOfPlan_28 (fun _ => ?_) (fun _ => ?_)
    · refine xr_aload_n (pc := 33) X (i := 0) 0 rfl rfl dX3_faultOfPlan_33 ?_
      refine xgX3 (pc := 34) X (oo0) hh0.1 3 wm_3_0 rfl rfl (by decide) rfl dX3_faultOfPlan_34 ?_
      refine xgNX0 (pc := 37) X (oo0 + 2) hh0.2.2.1.1 3 24 rfl rfl rfl (by decide) rfl dX3_faultOfPlan_37 ?_
      refine xr_bipush (pc := 40) X dX3_faultOfPlan_40 (v := 8) (by decide) ?_
      refine xr_icmp_ge (pc := 42) X 49 (by decide) dX3_faultOfPlan_42 (fun _ => ?_) (fun _ => ?_)
      · refine xr_iconst (pc := 49) X dX3_faultOfPlan_49 (v := 3) (by decide) ?_
        exact xr_iret (pc := 50) X (Nat.le_of_ble_eq_true rfl) (Nat.le_of_ble_eq_true rfl) dX3_faultOfPlan_50
      refine xr_iconst (pc := 45) X dX3_faultOfPlan_45 (v := 0) (by decide) ?_
      refine xr_goto (pc := 46) X 50 (by decide) dX3_faultOfPlan_46 ?_
      exact xr_iret (pc := 50) X (Nat.le_of_ble_eq_true rfl) (Nat.le_of_ble_eq_true rfl) dX3_faultOfPlan_50
    refine xr_iconst (pc := 31) X dX3_faultOfPlan_31 (v := 2) (by decide) ?_
    exact xr_iret (pc := 32) X (Nat.le_of_ble_eq_true rfl) (Nat.le_of_ble_eq_true rfl) dX3_faultOfPlan_32
  refine xr_iconst (pc := 8) X dX3_faultOfPlan_8 (v := 1) (by decide) ?_
  exact xr_iret (pc := 9) X (Nat.le_of_ble_eq_true rfl) (Nat.le_of_ble_eq_true rfl) dX3_faultOfPlan_9
def F_X3_isValue (oo0 : Nat) (pp1 : Int32) (pp2 : Int32) (σ : xS) : Option (Int32 × xS) :=
  xbI (F_X5_isWithin pp1 0 3 σ) (fun (zz2 : Int32) (σ1 : xS) => if zz2 = 0 then (some ((0 : Int32), σ1))
 else (if xin pp1 4 = true then (xlet (xF2 pp1.toNatClampNeg) (fun (zz5 : Int32) => if xin pp1 4 = true then (xlet (xF3 pp1.toNatClampNeg) (fun (zz8 : Int32) => xbI (F_X5_isWithin pp2 zz5 zz8 σ1) (fun (zz10 : Int32) (σ9 : xS) => if zz10 = 0 then (some ((0 : Int32), σ9))
 else (some ((1 : Int32), σ9))))) else none)) else none))
abbrev rm_X3_isValue : Room := { frames := 1, cells := 0, slots := 0, locals := 22 }
set_option maxHeartbeats 4000000 in
set_option maxRecDepth 100000 in
theorem c_X3_isValue (l : Launch) {D : va_G} {ad : Nat → Nat} {N : Nat} {Sh : xSh} (hI : ∀ i j, i < N → j < N → ad i = ad j → i = j) (oo0 : Nat) (hh0 : xIs3 D ad N Sh oo0) (pp1 : Int32) (pp2 : Int32) (σ : xS) : xKI l yX3_isValue (Cond.code yX3_isValue cX3_isValue 3 (some .boolean) :: wG) rm_X3_isValue 0 0 D ad N Sh [.ref (ad oo0), .int pp1, .int pp2] σ (F_X3_isValue oo0 pp1 pp2 σ) := by
  refine x_startI (own := RX3) (maxL := 3) (by decide) rfl rfl (Nat.le_of_ble_eq_true rfl) rfl hI (fun Γ hl hnL X => ?_)
  subst hl
  unfold F_X3_isValue
  refine xr_iload_n (pc := 0) X (i := 1) 1 rfl rfl dX3_isValue_0 ?_
  refine xr_iconst (pc := 1) X dX3_isValue_1 (v := 0) (by decide) ?_
  refine xr_iconst (pc := 2) X dX3_isValue_2 (v := 3) (by decide) ?_
  refine xr_callSNI (na := 3) (pc := 3) X [.int pp1, .int 0, .int 3] (c_X5_isWithin Γ.2.1 hI pp1 0 3 σ) (wG_1 wm_6_13) 28 rfl (List.mem_cons_of_mem _ wm_1_2) (List.mem_cons_of_mem _ wm_6_12) rfl rfl rfl (by decide +kernel) ⟨Nat.le_of_ble_eq_true rfl, Nat.le_of_ble_eq_true rfl⟩ rfl rfl (Nat.le_of_ble_eq_true rfl) ⟨Nat.le_of_ble_eq_true rfl, Nat.le_of_ble_eq_true rfl⟩ dX3_isValue_3 (fun zz2 σ1 => ?_)
  refine xr_if_eq (pc := 6) X 30 (by decide) dX3_isValue_6 (fun _ => ?_) (fun _ => ?_)
  · refine xr_iconst (pc := 30) X dX3_isValue_30 (v := 0) (by decide) ?_
    exact xr_zret (pc := 31) X rfl (Nat.le_of_ble_eq_true rfl) (Nat.le_of_ble_eq_true rfl) dX3_isValue_31
  refine xr_iload_n (pc := 9) X (i := 2) 2 rfl rfl dX3_isValue_9 ?_
  refine xr_getsN (pc := 10) X (f := xF2) (fun A U H h => h.2.1) 25 rfl rfl dX3_isValue_10 (fun aa_3 hTT4 => ?_)
  refine xr_iload_n (pc := 13) X (i := 1) 1 rfl rfl dX3_isValue_13 ?_
  refine xr_sald (pc := 14) X hTT4 dX3_isValue_14 (fun zz5 => ?_)
  refine xr_getsN (pc := 15) X (f := xF3) (fun A U H h => h.2.2.1) 26 rfl rfl dX3_isValue_15 (fun aa_6 hTT7 => ?_)
  refine xr_iload_n (pc := 18) X (i := 1) 1 rfl rfl dX3_isValue_18 ?_
  refine xr_sald (pc := 19) X hTT7 dX3_isValue_19 (fun zz8 => ?_)
  refine xr_callSNI (na := 3) (pc := 20) X [.int pp2, .int zz5, .int zz8] (c_X5_isWithin Γ.2.1 hI pp2 zz5 zz8 σ1) (wG_1 wm_6_13) 28 rfl (List.mem_cons_of_mem _ wm_1_2) (List.mem_cons_of_mem _ wm_6_12) rfl rfl rfl (by decide +kernel) ⟨Nat.le_of_ble_eq_true rfl, Nat.le_of_ble_eq_true rfl⟩ rfl rfl (Nat.le_of_ble_eq_true rfl) ⟨Nat.le_of_ble_eq_true rfl, Nat.le_of_ble_eq_true rfl⟩ dX3_isValue_20 (fun zz10 σ9 => ?_)
  refine xr_if_eq (pc := 23) X 30 (by decide) dX3_isValue_23 (fun _ => ?_) (fun _ => ?_)
  · refine xr_iconst (pc := 30) X dX3_isValue_30 (v := 0) (by decide) ?_
    exact xr_zret (pc := 31) X rfl (Nat.le_of_ble_eq_true rfl) (Nat.le_of_ble_eq_true rfl) dX3_isValue_31
  refine xr_iconst (pc := 26) X dX3_isValue_26 (v := 1) (by decide) ?_
  refine xr_goto (pc := 27) X 31 (by decide) dX3_isValue_27 ?_
  exact xr_zret (pc := 31) X rfl (Nat.le_of_ble_eq_true rfl) (Nat.le_of_ble_eq_true rfl) dX3_isValue_31
def F_X3_faultOf (oo0 : Nat) (pp1 : Int32) (pp2 : Int32) (pp3 : Int32) (pp4 : Int32) (σ : xS) : Option (Int32 × xS) :=
  if pp1 = 0 then (xbI (F_X5_isWithin pp2 1 4 σ) (fun (zz2 : Int32) (σ1 : xS) => if zz2 = 0 then (some ((2 : Int32), σ1))
 else (some ((0 : Int32), σ1))))
 else (if pp1 = 1 then (xbI (F_X3_faultOfNote oo0 pp2 pp3 σ) (fun (zz5 : Int32) (σ4 : xS) => some (zz5, σ4)))
 else (if pp1 = 2 then (xbI (F_X3_faultOfPlan oo0 pp2 pp3 pp4 σ) (fun (zz8 : Int32) (σ7 : xS) => some (zz8, σ7)))
 else (if pp1 = 3 ∨ pp1 = 4 then (xbI (F_X3_faultOfWriter oo0 pp2 σ) (fun (zz11 : Int32) (σ10 : xS) => some (zz11, σ10)))
 else (if pp1 = 5 then (xbI (F_X5_isWithin pp2 1 99 σ) (fun (zz14 : Int32) (σ13 : xS) => if zz14 = 0 then (some ((2 : Int32), σ13))
 else (some ((0 : Int32), σ13))))
 else (xbI (F_X3_isValue oo0 pp2 pp3 σ) (fun (zz17 : Int32) (σ16 : xS) => if zz17 = 0 then (some ((2 : Int32), σ16))
 else (some ((0 : Int32), σ16))))))))
abbrev rm_X3_faultOf : Room := { frames := 2, cells := 0, slots := 0, locals := 45 }
set_option maxHeartbeats 4000000 in
set_option maxRecDepth 100000 in
theorem c_X3_faultOf (l : Launch) {D : va_G} {ad : Nat → Nat} {N : Nat} {Sh : xSh} (hI : ∀ i j, i < N → j < N → ad i = ad j → i = j) (oo0 : Nat) (hh0 : xIs3 D ad N Sh oo0) (pp1 : Int32) (pp2 : Int32) (pp3 : Int32) (pp4 : Int32) (σ : xS) : xKI l yX3_faultOf (Cond.code yX3_faultOf cX3_faultOf 5 (some .int) :: wG) rm_X3_faultOf 0 0 D ad N Sh [.ref (ad oo0), .int pp1, .int pp2, .int pp3, .int pp4] σ (F_X3_faultOf oo0 pp1 pp2 pp3 pp4 σ) := by
  refine x_startI (own := RX3) (maxL := 5) (by decide) rfl rfl (Nat.le_of_ble_eq_true rfl) rfl hI (fun Γ hl hnL X => ?_)
  subst hl
  unfold F_X3_faultOf
  refine xr_iload_n (pc := 0) X (i := 1) 1 rfl rfl dX3_faultOf_0 ?_
  refine x_if (fun hcc3 => ?_) (fun hcc3 => ?_)
  · refine xr_tin (off := 39) (pc := 1) X 40 dX3_faultOf_1 (by rw [hcc3]; decide) (by rw [hcc3]; decide) (by rw [hcc3]; rfl) (by decide) ?_
    refine xr_iload_n (pc := 40) X (i := 2) 2 rfl rfl dX3_faultOf_40 ?_
    refine xr_iconst (pc := 41) X dX3_faultOf_41 (v := 1) (by decide) ?_
    refine xr_iconst (pc := 42) X dX3_faultOf_42 (v := 4) (by decide) ?_
    refine xr_callSNI (na := 3) (pc := 43) X [.int pp2, .int 1, .int 4] (c_X5_isWithin Γ.2.1 hI pp2 1 4 σ) (wG_1 wm_6_13) 28 rfl (List.mem_cons_of_mem _ wm_1_2) (List.mem_cons_of_mem _ wm_6_12) rfl rfl rfl (by decide +kernel) ⟨Nat.le_of_ble_eq_true rfl, Nat.le_of_ble_eq_true rfl⟩ rfl rfl (Nat.le_of_ble_eq_true rfl) ⟨Nat.le_of_ble_eq_true rfl, Nat.le_of_ble_eq_true rfl⟩ dX3_faultOf_43 (fun zz2 σ1 => ?_)
    refine xr_if_eq (pc := 46) X 53 (by decide) dX3_faultOf_46 (fun _ => ?_) (fun _ => ?_)
    · refine xr_iconst (pc := 53) X dX3_faultOf_53 (v := 2) (by decide) ?_
      exact xr_iret (pc := 54) X (Nat.le_of_ble_eq_true rfl) (Nat.le_of_ble_eq_true rfl) dX3_faultOf_54
    refine xr_iconst (pc := 49) X dX3_faultOf_49 (v := 0) (by decide) ?_
    refine xr_goto (pc := 50) X 54 (by decide) dX3_faultOf_50 ?_
    exact xr_iret (pc := 54) X (Nat.le_of_ble_eq_true rfl) (Nat.le_of_ble_eq_true rfl) dX3_faultOf_54
  refine x_if (fun hcc6 => ?_) (fun hcc6 => ?_)
  · refine xr_tin (off := 54) (pc := 1) X 55 dX3_faultOf_1 (by rw [hcc6]; decide) (by rw [hcc6]; decide) (by rw [hcc6]; rfl) (by decide) ?_
    refine xr_aload_n (pc := 55) X (i := 0) 0 rfl rfl dX3_faultOf_55 ?_
    refine xr_iload_n (pc := 56) X (i := 2) 2 rfl rfl dX3_faultOf_56 ?_
    refine xr_iload_n (pc := 57) X (i := 3) 3 rfl rfl dX3_faultOf_57 ?_
    refine xr_callVI (na := 2) (pc := 58) X (oo0) [.int pp2, .int pp3] _ (c_X3_faultOfNote Γ.2.1 hI oo0 hh0 pp2 pp3 σ) (wG_V wm_9_16 wm_9_13 wm_9_14 wm_9_15 wm_1_16) rfl rfl rfl (by decide +kernel) ⟨Nat.le_of_ble_eq_true rfl, Nat.le_of_ble_eq_true rfl⟩ hh0.1.1 hh0.1.2 rfl (T := TX3) (C := RX3) rfl rfl rfl (Nat.le_of_ble_eq_true rfl) ⟨Nat.le_of_ble_eq_true rfl, Nat.le_of_ble_eq_true rfl⟩ dX3_faultOf_58 (fun zz5 σ4 => ?_)
    exact xr_iret (pc := 61) X (Nat.le_of_ble_eq_true rfl) (Nat.le_of_ble_eq_true rfl) dX3_faultOf_61
  refine x_if (fun hcc9 => ?_) (fun hcc9 => ?_)
  · refine xr_tin (off := 61) (pc := 1) X 62 dX3_faultOf_1 (by rw [hcc9]; decide) (by rw [hcc9]; decide) (by rw [hcc9]; rfl) (by decide) ?_
    refine xr_aload_n (pc := 62) X (i := 0) 0 rfl rfl dX3_faultOf_62 ?_
    refine xr_iload_n (pc := 63) X (i := 2) 2 rfl rfl dX3_faultOf_63 ?_
    refine xr_iload_n (pc := 64) X (i := 3) 3 rfl rfl dX3_faultOf_64 ?_
    refine xr_iload (pc := 65) X (i := 4) 4 rfl dX3_faultOf_65 ?_
    refine xr_callVI (na := 3) (pc := 67) X (oo0) [.int pp2, .int pp3, .int pp4] _ (c_X3_faultOfPlan Γ.2.1 hI oo0 hh0 pp2 pp3 pp4 σ) (wG_V wm_10_4 wm_10_1 wm_10_2 wm_10_3 wm_1_16) rfl rfl rfl (by decide +kernel) ⟨Nat.le_of_ble_eq_true rfl, Nat.le_of_ble_eq_true rfl⟩ hh0.1.1 hh0.1.2 rfl (T := TX3) (C := RX3) rfl rfl rfl (Nat.le_of_ble_eq_true rfl) ⟨Nat.le_of_ble_eq_true rfl, Nat.le_of_ble_eq_true rfl⟩ dX3_faultOf_67 (fun zz8 σ7 => ?_)
    exact xr_iret (pc := 70) X (Nat.le_of_ble_eq_true rfl) (Nat.le_of_ble_eq_true rfl) dX3_faultOf_70
  refine x_if (fun hcc12 => ?_) (fun hcc12 => ?_)
  · refine xr_tin (off := 70) (pc := 1) X 71 dX3_faultOf_1 (by rcases hcc12 with hq9 | hq9 <;> (rw [hq9]; decide)) (by rcases hcc12 with hq9 | hq9 <;> (rw [hq9]; decide)) (by rcases hcc12 with hq9 | hq9 <;> (rw [hq9]; rfl)) (by decide) ?_
    refine xr_aload_n (pc := 71) X (i := 0) 0 rfl rfl dX3_faultOf_71 ?_
    refine xr_iload_n (pc := 72) X (i := 2) 2 rfl rfl dX3_faultOf_72 ?_
    refine xr_callVI (na := 1) (pc := 73) X (oo0) [.int pp2] _ (c_X3_faultOfWriter Γ.2.1 hI oo0 hh0 pp2 σ) (wG_V wm_9_20 wm_9_17 wm_9_18 wm_9_19 wm_1_16) rfl rfl rfl (by decide +kernel) ⟨Nat.le_of_ble_eq_true rfl, Nat.le_of_ble_eq_true rfl⟩ hh0.1.1 hh0.1.2 rfl (T := TX3) (C := RX3) rfl rfl rfl (Nat.le_of_ble_eq_true rfl) ⟨Nat.le_of_ble_eq_true rfl, Nat.le_of_ble_eq_true rfl⟩ dX3_faultOf_73 (fun zz11 σ10 => ?_)
    exact xr_iret (pc := 76) X (Nat.le_of_ble_eq_true rfl) (Nat.le_of_ble_eq_true rfl) dX3_faultOf_76
  refine x_if (fun hcc15 => ?_) (fun hcc15 => ?_)
  · refine xr_tin (off := 76) (pc := 1) X 77 dX3_faultOf_1 (by rw [hcc15]; decide) (by rw [hcc15]; decide) (by rw [hcc15]; rfl) (by decide) ?_
    refine xr_iload_n (pc := 77) X (i := 2) 2 rfl rfl dX3_faultOf_77 ?_
    refine xr_iconst (pc := 78) X dX3_faultOf_78 (v := 1) (by decide) ?_
    refine xr_bipush (pc := 79) X dX3_faultOf_79 (v := 99) (by decide) ?_
    refine xr_callSNI (na := 3) (pc := 81) X [.int pp2, .int 1, .int 99] (c_X5_isWithin Γ.2.1 hI pp2 1 99 σ) (wG_1 wm_6_13) 28 rfl (List.mem_cons_of_mem _ wm_1_2) (List.mem_cons_of_mem _ wm_6_12) rfl rfl rfl (by decide +kernel) ⟨Nat.le_of_ble_eq_true rfl, Nat.le_of_ble_eq_true rfl⟩ rfl rfl (Nat.le_of_ble_eq_true rfl) ⟨Nat.le_of_ble_eq_true rfl, Nat.le_of_ble_eq_true rfl⟩ dX3_faultOf_81 (fun zz14 σ13 => ?_)
    refine xr_if_eq (pc := 84) X 91 (by decide) dX3_faultOf_84 (fun _ => ?_) (fun _ => ?_)
    · refine xr_iconst (pc := 91) X dX3_faultOf_91 (v := 2) (by decide) ?_
      exact xr_iret (pc := 92) X (Nat.le_of_ble_eq_true rfl) (Nat.le_of_ble_eq_true rfl) dX3_faultOf_92
    refine xr_iconst (pc := 87) X dX3_faultOf_87 (v := 0) (by decide) ?_
    refine xr_goto (pc := 88) X 92 (by decide) dX3_faultOf_88 ?_
    exact xr_iret (pc := 92) X (Nat.le_of_ble_eq_true rfl) (Nat.le_of_ble_eq_true rfl) dX3_faultOf_92
  refine xr_tout (pc := 1) X 93 dX3_faultOf_1 (by have g0 := xne hcc3 (j := 0) (by decide); have g1 := xne hcc6 (j := 1) (by decide); have g2 := xne hcc9 (j := 2) (by decide); have g3 := xne (fun e => hcc12 (Or.inl e)) (j := 3) (by decide); have g4 := xne (fun e => hcc12 (Or.inr (e))) (j := 4) (by decide); have g5 := xne hcc15 (j := 5) (by decide); omega) (by decide) ?_
  refine xr_aload_n (pc := 93) X (i := 0) 0 rfl rfl dX3_faultOf_93 ?_
  refine xr_iload_n (pc := 94) X (i := 2) 2 rfl rfl dX3_faultOf_94 ?_
  refine xr_iload_n (pc := 95) X (i := 3) 3 rfl rfl dX3_faultOf_95 ?_
  refine xr_callVI (na := 2) (pc := 96) X (oo0) [.int pp2, .int pp3] _ (c_X3_isValue Γ.2.1 hI oo0 hh0 pp2 pp3 σ) (wG_V wm_10_8 wm_10_5 wm_10_6 wm_10_7 wm_1_16) rfl rfl rfl (by decide +kernel) ⟨Nat.le_of_ble_eq_true rfl, Nat.le_of_ble_eq_true rfl⟩ hh0.1.1 hh0.1.2 rfl (T := TX3) (C := RX3) rfl rfl rfl (Nat.le_of_ble_eq_true rfl) ⟨Nat.le_of_ble_eq_true rfl, Nat.le_of_ble_eq_true rfl⟩ dX3_faultOf_96 (fun zz17 σ16 => ?_)
  refine xr_if_eq (pc := 99) X 106 (by decide) dX3_faultOf_99 (fun _ => ?_) (fun _ => ?_)
  · refine xr_iconst (pc := 106) X dX3_faultOf_106 (v := 2) (by decide) ?_
    exact xr_iret (pc := 107) X (Nat.le_of_ble_eq_true rfl) (Nat.le_of_ble_eq_true rfl) dX3_faultOf_107
  refine xr_iconst (pc := 102) X dX3_faultOf_102 (v := 0) (by decide) ?_
  refine xr_goto (pc := 103) X 107 (by decide) dX3_faultOf_103 ?_
  exact xr_iret (pc := 107) X (Nat.le_of_ble_eq_true rfl) (Nat.le_of_ble_eq_true rfl) dX3_faultOf_107
def L_X3_writeDueNotes_10 (oo0 : Nat) (KK3 : xS → Option xS) : Nat → Int32 → Int32 → xS → Option xS
  | 0, _, _, _ => none
  | nn_8 + 1, zz5, zz6, σ7 => if zz6 ≤ 0 then (KK3 σ7)
 else (xbI (F_X0_timeAt 8 (oo0 + 2) zz5 σ7) (fun (zz11 : Int32) (σ10 : xS) => if zz11 = (σ10 oo0 1) then (xbI (F_X0_writerAt 8 (oo0 + 2) zz5 σ10) (fun (zz13 : Int32) (σ12 : xS) => xbI (F_X0_numberAt 8 (oo0 + 2) zz5 σ12) (fun (zz15 : Int32) (σ14 : xS) => xbV (F_X0_dropAt 8 (oo0 + 2) zz5 σ14) (fun (σ16 : xS) => xbI (F_X3_faultOfNote oo0 zz13 zz15 σ16) (fun (zz18 : Int32) (σ17 : xS) => if ¬ zz18 = 0 then (xlet (zz6 + (-1)) (fun (zz19 : Int32) => L_X3_writeDueNotes_10 oo0 KK3 nn_8 zz5 zz19 σ17))
 else (if xin zz13 4 = true then (xbV (F_X2_addNote (oo0 + 7 + 9 * zz13.toNatClampNeg) zz15 σ17) (fun (σ21 : xS) => if xin zz13 4 = true then (if xin zz13 4 = true then (xbI (F_X2_sendLetters (oo0 + 7 + 9 * zz13.toNatClampNeg) (σ21 oo0 1) 4 (oo0 + 1) (σ21 (oo0 + 7 + 9 * zz13.toNatClampNeg) 3) σ21) (fun (zz25 : Int32) (σ24 : xS) => xlet (zz6 + (-1)) (fun (zz26 : Int32) => L_X3_writeDueNotes_10 oo0 KK3 nn_8 zz5 zz26 σ24))) else none) else none)) else none))))))
 else (xlet (zz5 + 1) (fun (zz27 : Int32) => xlet (zz6 + (-1)) (fun (zz28 : Int32) => L_X3_writeDueNotes_10 oo0 KK3 nn_8 zz27 zz28 σ10)))))
def F_X3_writeDueNotes (oo0 : Nat) (σ : xS) : Option xS :=
  xlet (σ (oo0 + 2) 3) (fun (zz1 : Int32) => L_X3_writeDueNotes_10 oo0 (fun (σ2 : xS) => some σ2) 1000 0 zz1 σ)
abbrev rm_X3_writeDueNotes : Room := { frames := 2, cells := 0, slots := 0, locals := 50 }
set_option maxHeartbeats 4000000 in
set_option maxRecDepth 100000 in
theorem c_X3_writeDueNotes (l : Launch) {D : va_G} {ad : Nat → Nat} {N : Nat} {Sh : xSh} (hI : ∀ i j, i < N → j < N → ad i = ad j → i = j) (oo0 : Nat) (hh0 : xIs3 D ad N Sh oo0) (σ : xS) : xKV l yX3_writeDueNotes (Cond.code yX3_writeDueNotes cX3_writeDueNotes 5 none :: wG) rm_X3_writeDueNotes 0 0 D ad N Sh [.ref (ad oo0)] σ (F_X3_writeDueNotes oo0 σ) := by
  refine x_startV (own := RX3) (maxL := 5) (by decide) rfl rfl (Nat.le_of_ble_eq_true rfl) rfl hI (fun Γ hl hnL X => ?_)
  subst hl
  unfold F_X3_writeDueNotes
  refine xr_iconst (pc := 0) X dX3_writeDueNotes_0 (v := 0) (by decide) ?_
  refine xr_istore_n (pc := 1) X (hf := rfl) (i := 1) (lv2 := [(0, .ref (ad oo0)), (1, .int 0)]) [1, 0] (Nat.le_of_ble_eq_true rfl) hnL rfl dX3_writeDueNotes_1 ?_
  refine xr_aload_n (pc := 2) X (i := 0) 0 rfl rfl dX3_writeDueNotes_2 ?_
  refine xgX3 (pc := 3) X (oo0) hh0.1 3 wm_3_0 rfl rfl (by decide) rfl dX3_writeDueNotes_3 ?_
  refine xgNX0 (pc := 6) X (oo0 + 2) hh0.2.2.1.1 3 24 rfl rfl rfl (by decide) rfl dX3_writeDueNotes_6 ?_
  refine x_leti (fun zz1 => ?_)
  refine xr_istore_n (pc := 9) X (hf := rfl) (i := 2) (lv2 := [(0, .ref (ad oo0)), (1, .int 0), (2, .int zz1)]) [1, 2, 0] (Nat.le_of_ble_eq_true rfl) hnL rfl dX3_writeDueNotes_9 ?_
  have hLL29 : ∀ (KK3 : xS → Option xS) (hKK4 : ∀ σ2, xM Γ D ad N Sh (xQV Γ D ad N Sh 0 0) 0 0 (KK3 σ2) σ2 116 [] []), ∀ (nn_8 : Nat) zz5 zz6 σ7, xM Γ D ad N Sh (xQV Γ D ad N Sh 0 0) 0 0 (L_X3_writeDueNotes_10 oo0 KK3 nn_8 zz5 zz6 σ7) σ7 10 [(0, .ref (ad oo0)), (1, .int zz5), (2, .int zz6)] [] := by
    intro KK3 hKK4 nn_8
    induction nn_8 with
    | zero => intro zz5 zz6 σ7; exact xM_none
    | succ nn_8 ihh9 =>
      intro zz5 zz6 σ7
      rw [L_X3_writeDueNotes_10]
      refine xr_iload_n (pc := 10) X (i := 2) 2 rfl rfl dX3_writeDueNotes_10 ?_
      refine xr_if_le (pc := 11) X 116 (by decide) dX3_writeDueNotes_11 (fun _ => ?_) (fun _ => ?_)
      · exact x_sub [] rfl (hKK4  _)
      refine xr_aload_n (pc := 14) X (i := 0) 0 rfl rfl dX3_writeDueNotes_14 ?_
      refine xgX3 (pc := 15) X (oo0) hh0.1 3 wm_3_0 rfl rfl (by decide) rfl dX3_writeDueNotes_15 ?_
      refine xr_iload_n (pc := 18) X (i := 1) 1 rfl rfl dX3_writeDueNotes_18 ?_
      refine xr_callVI (na := 1) (pc := 19) X (oo0 + 2) [.int zz5] _ (c_X0_timeAt Γ.2.1 hI 8 (oo0 + 2) hh0.2.2.1 zz5 σ7) (wG_V wm_11_1 wm_11_16 wm_10_23 wm_11_0 wm_2_23) rfl rfl rfl (by decide +kernel) ⟨Nat.le_of_ble_eq_true rfl, Nat.le_of_ble_eq_true rfl⟩ hh0.2.2.1.1.1 hh0.2.2.1.1.2 rfl (T := TX0) (C := RX0) rfl rfl rfl (Nat.le_of_ble_eq_true rfl) ⟨Nat.le_of_ble_eq_true rfl, Nat.le_of_ble_eq_true rfl⟩ dX3_writeDueNotes_19 (fun zz11 σ10 => ?_)
      refine xr_aload_n (pc := 22) X (i := 0) 0 rfl rfl dX3_writeDueNotes_22 ?_
      refine xgX3 (pc := 23) X (oo0) hh0.1 1 wm_4_11 rfl rfl (by decide) rfl dX3_writeDueNotes_23 ?_
      refine xr_icmp_eq (pc := 26) X 35 (by decide) dX3_writeDueNotes_26 (fun _ => ?_) (fun _ => ?_)
      · refine xr_aload_n (pc := 35) X (i := 0) 0 rfl rfl dX3_writeDueNotes_35 ?_
        refine xgX3 (pc := 36) X (oo0) hh0.1 3 wm_3_0 rfl rfl (by decide) rfl dX3_writeDueNotes_36 ?_
        refine xr_iload_n (pc := 39) X (i := 1) 1 rfl rfl dX3_writeDueNotes_39 ?_
        refine xr_callVI (na := 1) (pc := 40) X (oo0 + 2) [.int zz5] _ (c_X0_writerAt Γ.2.1 hI 8 (oo0 + 2) hh0.2.2.1 zz5 σ10) (wG_V wm_11_20 wm_11_17 wm_11_18 wm_11_19 wm_2_23) rfl rfl rfl (by decide +kernel) ⟨Nat.le_of_ble_eq_true rfl, Nat.le_of_ble_eq_true rfl⟩ hh0.2.2.1.1.1 hh0.2.2.1.1.2 rfl (T := TX0) (C := RX0) rfl rfl rfl (Nat.le_of_ble_eq_true rfl) ⟨Nat.le_of_ble_eq_true rfl, Nat.le_of_ble_eq_true rfl⟩ dX3_writeDueNotes_40 (fun zz13 σ12 => ?_)
        refine xr_istore_n (pc := 43) X (hf := rfl) (i := 3) (lv2 := [(0, .ref (ad oo0)), (1, .int zz5), (2, .int zz6), (3, .int zz13)]) [1, 2, 3, 0] (Nat.le_of_ble_eq_true rfl) hnL rfl dX3_writeDueNotes_43 ?_
        refine xr_aload_n (pc := 44) X (i := 0) 0 rfl rfl dX3_writeDueNotes_44 ?_
        refine xgX3 (pc := 45) X (oo0) hh0.1 3 wm_3_0 rfl rfl (by decide) rfl dX3_writeDueNotes_45 ?_
        refine xr_iload_n (pc := 48) X (i := 1) 1 rfl rfl dX3_writeDueNotes_48 ?_
        refine xr_callVI (na := 1) (pc := 49) X (oo0 + 2) [.int zz5] _ (c_X0_numberAt Γ.2.1 hI 8 (oo0 + 2) hh0.2.2.1 zz5 σ12) (wG_V wm_12_0 wm_11_21 wm_11_22 wm_11_23 wm_2_23) rfl rfl rfl (by decide +kernel) ⟨Nat.le_of_ble_eq_true rfl, Nat.le_of_ble_eq_true rfl⟩ hh0.2.2.1.1.1 hh0.2.2.1.1.2 rfl (T := TX0) (C := RX0) rfl rfl rfl (Nat.le_of_ble_eq_true rfl) ⟨Nat.le_of_ble_eq_true rfl, Nat.le_of_ble_eq_true rfl⟩ dX3_writeDueNotes_49 (fun zz15 σ14 => ?_)
        refine xr_istore (pc := 52) X (i := 4) (lv2 := [(0, .ref (ad oo0)), (1, .int zz5), (2, .int zz6), (3, .int zz13), (4, .int zz15)]) [1, 2, 3, 4, 0] (Nat.le_of_ble_eq_true rfl) hnL rfl dX3_writeDueNotes_52 ?_
        refine xr_aload_n (pc := 54) X (i := 0) 0 rfl rfl dX3_writeDueNotes_54 ?_
        refine xgX3 (pc := 55) X (oo0) hh0.1 3 wm_3_0 rfl rfl (by decide) rfl dX3_writeDueNotes_55 ?_
        refine xr_iload_n (pc := 58) X (i := 1) 1 rfl rfl dX3_writeDueNotes_58 ?_
        refine xr_callVV (na := 1) (pc := 59) X (oo0 + 2) [.int zz5] _ (c_X0_dropAt Γ.2.1 hI 8 (oo0 + 2) hh0.2.2.1 zz5 σ14) (wG_V wm_12_4 wm_12_1 wm_12_2 wm_12_3 wm_2_23) rfl rfl rfl (by decide +kernel) ⟨Nat.le_of_ble_eq_true rfl, Nat.le_of_ble_eq_true rfl⟩ hh0.2.2.1.1.1 hh0.2.2.1.1.2 rfl (T := TX0) (C := RX0) rfl rfl rfl (Nat.le_of_ble_eq_true rfl) ⟨Nat.le_of_ble_eq_true rfl, Nat.le_of_ble_eq_true rfl⟩ dX3_writeDueNotes_59 (fun σ16 => ?_)
        refine xr_aload_n (pc := 62) X (i := 0) 0 rfl rfl dX3_writeDueNotes_62 ?_
        refine xr_iload_n (pc := 63) X (i := 3) 3 rfl rfl dX3_writeDueNotes_63 ?_
        refine xr_iload (pc := 64) X (i := 4) 4 rfl dX3_writeDueNotes_64 ?_
        refine xr_callVI (na := 2) (pc := 66) X (oo0) [.int zz13, .int zz15] _ (c_X3_faultOfNote Γ.2.1 hI oo0 hh0 zz13 zz15 σ16) (wG_V wm_9_16 wm_9_13 wm_9_14 wm_9_15 wm_1_16) rfl rfl rfl (by decide +kernel) ⟨Nat.le_of_ble_eq_true rfl, Nat.le_of_ble_eq_true rfl⟩ hh0.1.1 hh0.1.2 rfl (T := TX3) (C := RX3) rfl rfl rfl (Nat.le_of_ble_eq_true rfl) ⟨Nat.le_of_ble_eq_true rfl, Nat.le_of_ble_eq_true rfl⟩ dX3_writeDueNotes_66 (fun zz18 σ17 => ?_)
        refine xr_if_ne (pc := 69) X 110 (by decide) dX3_writeDueNotes_69 (fun _ => ?_) (fun _ => ?_)
        · refine xr_iinc (pc := 110) X (i := 2) (j := 2) [1, 2, 0, 3, 4] (Nat.le_of_ble_eq_true rfl) hnL rfl (congrArg (fun w => zz6 + w) (show Int32.ofInt (-1) = (-1 : Int32) by decide)) (fun zz19 => [(0, .ref (ad oo0)), (1, .int zz5), (2, .int zz19), (3, .int zz13), (4, .int zz15)]) (fun _ => rfl) dX3_writeDueNotes_110 (fun zz19 => ?_)
          refine xr_goto (pc := 113) X 10 (by decide) dX3_writeDueNotes_113 ?_
          exact x_sub [0, 1, 2] rfl (ihh9 _ _ _)
        refine xr_aload_n (pc := 72) X (i := 0) 0 rfl rfl dX3_writeDueNotes_72 ?_
        refine xgX3 (pc := 73) X (oo0) hh0.1 4 wm_3_2 rfl rfl (by decide) rfl dX3_writeDueNotes_73 ?_
        refine xr_iload_n (pc := 76) X (i := 3) 3 rfl rfl dX3_writeDueNotes_76 ?_
        refine xr_aldPair (pc := 77) X (oo0 + 6) 4 (fun j => oo0 + 7 + 9 * j) hh0.2.2.2.1.1 hh0.2.2.2.1.2 (fun _ hj => if_pos hj) dX3_writeDueNotes_77 (fun haa20 => ?_)
        refine xr_iload (pc := 78) X (i := 4) 4 rfl dX3_writeDueNotes_78 ?_
        refine xr_callVV (na := 1) (pc := 80) X (oo0 + 7 + 9 * zz13.toNatClampNeg) [.int zz15] _ (c_X2_addNote Γ.2.1 hI (oo0 + 7 + 9 * zz13.toNatClampNeg) ((hh0.2.2.2.2 _ (xin_lt haa20))) zz15 σ17) (wG_V wm_10_12 wm_10_9 wm_10_10 wm_10_11 wm_3_4) rfl rfl rfl (by decide +kernel) ⟨Nat.le_of_ble_eq_true rfl, Nat.le_of_ble_eq_true rfl⟩ (hh0.2.2.2.2 _ (xin_lt haa20)).1.1 (hh0.2.2.2.2 _ (xin_lt haa20)).1.2 rfl (T := TX2) (C := RX2) rfl rfl rfl (Nat.le_of_ble_eq_true rfl) ⟨Nat.le_of_ble_eq_true rfl, Nat.le_of_ble_eq_true rfl⟩ dX3_writeDueNotes_80 (fun σ21 => ?_)
        refine xr_aload_n (pc := 83) X (i := 0) 0 rfl rfl dX3_writeDueNotes_83 ?_
        refine xgX3 (pc := 84) X (oo0) hh0.1 4 wm_3_2 rfl rfl (by decide) rfl dX3_writeDueNotes_84 ?_
        refine xr_iload_n (pc := 87) X (i := 3) 3 rfl rfl dX3_writeDueNotes_87 ?_
        refine xr_aldPair (pc := 88) X (oo0 + 6) 4 (fun j => oo0 + 7 + 9 * j) hh0.2.2.2.1.1 hh0.2.2.2.1.2 (fun _ hj => if_pos hj) dX3_writeDueNotes_88 (fun haa22 => ?_)
        refine xr_aload_n (pc := 89) X (i := 0) 0 rfl rfl dX3_writeDueNotes_89 ?_
        refine xgX3 (pc := 90) X (oo0) hh0.1 1 wm_4_11 rfl rfl (by decide) rfl dX3_writeDueNotes_90 ?_
        refine xr_aload_n (pc := 93) X (i := 0) 0 rfl rfl dX3_writeDueNotes_93 ?_
        refine xgX3 (pc := 94) X (oo0) hh0.1 2 wm_2_20 rfl rfl (by decide) rfl dX3_writeDueNotes_94 ?_
        refine xr_aload_n (pc := 97) X (i := 0) 0 rfl rfl dX3_writeDueNotes_97 ?_
        refine xgX3 (pc := 98) X (oo0) hh0.1 4 wm_3_2 rfl rfl (by decide) rfl dX3_writeDueNotes_98 ?_
        refine xr_iload_n (pc := 101) X (i := 3) 3 rfl rfl dX3_writeDueNotes_101 ?_
        refine xr_aldPair (pc := 102) X (oo0 + 6) 4 (fun j => oo0 + 7 + 9 * j) hh0.2.2.2.1.1 hh0.2.2.2.1.2 (fun _ hj => if_pos hj) dX3_writeDueNotes_102 (fun haa23 => ?_)
        refine xgNX2 (pc := 103) X (oo0 + 7 + 9 * zz13.toNatClampNeg) ((hh0.2.2.2.2 _ (xin_lt haa23)).1) 3 17 rfl rfl rfl (by decide) rfl dX3_writeDueNotes_103 ?_
        refine xr_callVI (na := 3) (pc := 106) X (oo0 + 7 + 9 * zz13.toNatClampNeg) [.int (σ21 oo0 1), .ref (ad (oo0 + 1)), .int (σ21 (oo0 + 7 + 9 * zz13.toNatClampNeg) 3)] _ (c_X2_sendLetters Γ.2.1 hI (oo0 + 7 + 9 * zz13.toNatClampNeg) ((hh0.2.2.2.2 _ (xin_lt haa22))) (σ21 oo0 1) 4 (oo0 + 1) hh0.2.1 (σ21 (oo0 + 7 + 9 * zz13.toNatClampNeg) 3) σ21) (wG_V wm_10_16 wm_10_13 wm_10_14 wm_10_15 wm_3_4) rfl rfl rfl (by decide +kernel) ⟨Nat.le_of_ble_eq_true rfl, Nat.le_of_ble_eq_true rfl⟩ (hh0.2.2.2.2 _ (xin_lt haa22)).1.1 (hh0.2.2.2.2 _ (xin_lt haa22)).1.2 rfl (T := TX2) (C := RX2) rfl rfl rfl (Nat.le_of_ble_eq_true rfl) ⟨Nat.le_of_ble_eq_true rfl, Nat.le_of_ble_eq_true rfl⟩ dX3_writeDueNotes_106 (fun zz25 σ24 => ?_)
        refine xr_pop (pc := 109) X rfl dX3_writeDueNotes_109 ?_
        refine xr_iinc (pc := 110) X (i := 2) (j := 2) [1, 2, 0, 3, 4] (Nat.le_of_ble_eq_true rfl) hnL rfl (congrArg (fun w => zz6 + w) (show Int32.ofInt (-1) = (-1 : Int32) by decide)) (fun zz26 => [(0, .ref (ad oo0)), (1, .int zz5), (2, .int zz26), (3, .int zz13), (4, .int zz15)]) (fun _ => rfl) dX3_writeDueNotes_110 (fun zz26 => ?_)
        refine xr_goto (pc := 113) X 10 (by decide) dX3_writeDueNotes_113 ?_
        exact x_sub [0, 1, 2] rfl (ihh9 _ _ _)
      refine xr_iinc (pc := 29) X (i := 1) (j := 1) [1, 0, 2] (Nat.le_of_ble_eq_true rfl) hnL rfl rfl (fun zz27 => [(0, .ref (ad oo0)), (1, .int zz27), (2, .int zz6)]) (fun _ => rfl) dX3_writeDueNotes_29 (fun zz27 => ?_)
      refine xr_goto (pc := 32) X 110 (by decide) dX3_writeDueNotes_32 ?_
      refine xr_iinc (pc := 110) X (i := 2) (j := 2) [1, 2, 0] (Nat.le_of_ble_eq_true rfl) hnL rfl (congrArg (fun w => zz6 + w) (show Int32.ofInt (-1) = (-1 : Int32) by decide)) (fun zz28 => [(0, .ref (ad oo0)), (1, .int zz27), (2, .int zz28)]) (fun _ => rfl) dX3_writeDueNotes_110 (fun zz28 => ?_)
      refine xr_goto (pc := 113) X 10 (by decide) dX3_writeDueNotes_113 ?_
      exact ihh9 _ _ _
  refine hLL29 _ (fun σ2 => ?_) _ _ _ _
  exact xr_vret (pc := 116) X (Nat.le_refl _) (Nat.le_refl _) dX3_writeDueNotes_116
def L_X3_passTicks_33 (oo0 : Nat) (pp3 : Int32) (KK16 : Int32 → xS → Option (Int32 × xS)) : Nat → Int32 → Int32 → xS → Option (Int32 × xS)
  | 0, _, _, _ => none
  | nn_21 + 1, zz18, zz19, σ20 => if pp3 ≤ zz19 then (KK16 zz18 σ20)
 else (if 4 ≤ zz19 then (KK16 zz18 σ20)
 else (if xin zz19 4 = true then (xbI (F_X2_receiveLetters (oo0 + 7 + 9 * zz19.toNatClampNeg) (σ20 oo0 1) 4 (oo0 + 1) σ20) (fun (zz25 : Int32) (σ24 : xS) => xlet (zz18 + zz25) (fun (zz26 : Int32) => xjn (fun (σ27 : xS) => xbI (F_X2_receiveAnswers (oo0 + 7 + 9 * zz19.toNatClampNeg) (σ27 oo0 1) σ27) (fun (zz33 : Int32) (σ32 : xS) => xjn (fun (σ34 : xS) => if (σ34 (oo0 + 7 + 9 * zz19.toNatClampNeg) 2) ≤ 0 then (xlet (zz19 + 1) (fun (zz39 : Int32) => L_X3_passTicks_33 oo0 pp3 KK16 nn_21 zz26 zz39 σ34))
 else (xlet (xu σ34 (oo0 + 7 + 9 * zz19.toNatClampNeg) 7 ((σ34 (oo0 + 7 + 9 * zz19.toNatClampNeg) 7) + 1)) (fun (σ40 : xS) => xlet (zz19 + 1) (fun (zz41 : Int32) => L_X3_passTicks_33 oo0 pp3 KK16 nn_21 zz26 zz41 σ40))))
 (fun (KK35 : xS → Option (Int32 × xS)) => if zz33 = 0 then (KK35 σ32)
 else (xbI (F_X2_sendLetters (oo0 + 7 + 9 * zz19.toNatClampNeg) (σ32 oo0 1) 4 (oo0 + 1) (σ32 (oo0 + 7 + 9 * zz19.toNatClampNeg) 3) σ32) (fun (zz38 : Int32) (σ37 : xS) => KK35 σ37)))))
 (fun (KK28 : xS → Option (Int32 × xS)) => if ¬ (σ24 (oo0 + 7 + 9 * zz19.toNatClampNeg) 12) = (σ24 oo0 1) then (KK28 σ24)
 else (if xin (0 : Int32) 4 = true then (xlet (σ24 (oo0 + 1) (0 : Int32).toNatClampNeg) (fun (zz30 : Int32) => xbV (F_X2_sendAnswer (oo0 + 7 + 9 * zz19.toNatClampNeg) (σ24 oo0 1) zz30 σ24) (fun (σ31 : xS) => KK28 σ31))) else none))))) else none))
def L_X3_passTicks_6 (oo0 : Nat) (pp1 : Int32) (pp2 : Int32) (pp3 : Int32) (KK3 : Int32 → xS → Option (Int32 × xS)) : Nat → Int32 → Int32 → xS → Option (Int32 × xS)
  | 0, _, _, _ => none
  | nn_8 + 1, zz5, zz6, σ7 => if pp1 ≤ zz6 then (KK3 zz5 σ7)
 else (xlet (xu σ7 oo0 1 ((σ7 oo0 1) + 1)) (fun (σ10 : xS) => xbV (F_X3_writeDueNotes oo0 σ10) (fun (σ11 : xS) => xlet (if pp2 < 0 then 0 else pp2) (fun (zz12 : Int32) => L_X3_passTicks_33 oo0 pp3 (fun (zz13 : Int32) (σ14 : xS) => xlet (zz6 + 1) (fun (zz15 : Int32) => L_X3_passTicks_6 oo0 pp1 pp2 pp3 KK3 nn_8 zz13 zz15 σ14)) 1000 zz5 zz12 σ11))))
def F_X3_passTicks (oo0 : Nat) (pp1 : Int32) (pp2 : Int32) (pp3 : Int32) (σ : xS) : Option (Int32 × xS) :=
  L_X3_passTicks_6 oo0 pp1 pp2 pp3 (fun (zz1 : Int32) (σ2 : xS) => some (zz1, σ2)) 1000 0 0 σ
abbrev rm_X3_passTicks : Room := { frames := 3, cells := 0, slots := 0, locals := 74 }
set_option maxHeartbeats 4000000 in
set_option maxRecDepth 100000 in
theorem c_X3_passTicks (l : Launch) {D : va_G} {ad : Nat → Nat} {N : Nat} {Sh : xSh} (hI : ∀ i j, i < N → j < N → ad i = ad j → i = j) (oo0 : Nat) (hh0 : xIs3 D ad N Sh oo0) (pp1 : Int32) (pp2 : Int32) (pp3 : Int32) (σ : xS) : xKI l yX3_passTicks (Cond.code yX3_passTicks cX3_passTicks 8 (some .int) :: wG) rm_X3_passTicks 0 0 D ad N Sh [.ref (ad oo0), .int pp1, .int pp2, .int pp3] σ (F_X3_passTicks oo0 pp1 pp2 pp3 σ) := by
  refine x_startI (own := RX3) (maxL := 8) (by decide) rfl rfl (Nat.le_of_ble_eq_true rfl) rfl hI (fun Γ hl hnL X => ?_)
  subst hl
  unfold F_X3_passTicks
  refine xr_iconst (pc := 0) X dX3_passTicks_0 (v := 0) (by decide) ?_
  refine xr_istore (pc := 1) X (i := 4) (lv2 := [(0, .ref (ad oo0)), (1, .int pp1), (2, .int pp2), (3, .int pp3), (4, .int 0)]) [1, 2, 3, 4, 0] (Nat.le_of_ble_eq_true rfl) hnL rfl dX3_passTicks_1 ?_
  refine xr_iconst (pc := 3) X dX3_passTicks_3 (v := 0) (by decide) ?_
  refine xr_istore (pc := 4) X (i := 5) (lv2 := [(0, .ref (ad oo0)), (1, .int pp1), (2, .int pp2), (3, .int pp3), (4, .int 0), (5, .int 0)]) [1, 2, 3, 4, 5, 0] (Nat.le_of_ble_eq_true rfl) hnL rfl dX3_passTicks_4 ?_
  have hLL43 : ∀ (KK3 : Int32 → xS → Option (Int32 × xS)) (hKK4 : ∀ zz1 σ2, xM Γ D ad N Sh (xQI Γ D ad N Sh 0 0) 0 0 (KK3 zz1 σ2) σ2 161 [(4, .int zz1)] []), ∀ (nn_8 : Nat) zz5 zz6 σ7, xM Γ D ad N Sh (xQI Γ D ad N Sh 0 0) 0 0 (L_X3_passTicks_6 oo0 pp1 pp2 pp3 KK3 nn_8 zz5 zz6 σ7) σ7 6 [(0, .ref (ad oo0)), (1, .int pp1), (2, .int pp2), (3, .int pp3), (4, .int zz5), (5, .int zz6)] [] := by
    intro KK3 hKK4 nn_8
    induction nn_8 with
    | zero => intro zz5 zz6 σ7; exact xM_none
    | succ nn_8 ihh9 =>
      intro zz5 zz6 σ7
      rw [L_X3_passTicks_6]
      refine xr_iload (pc := 6) X (i := 5) 5 rfl dX3_passTicks_6 ?_
      refine xr_iload_n (pc := 8) X (i := 1) 1 rfl rfl dX3_passTicks_8 ?_
      refine xr_icmp_ge (pc := 9) X 161 (by decide) dX3_passTicks_9 (fun _ => ?_) (fun _ => ?_)
      · exact x_sub [4] rfl (hKK4 _ _)
      refine xr_aload_n (pc := 12) X (i := 0) 0 rfl rfl dX3_passTicks_12 ?_
      refine xr_dup (pc := 13) X rfl dX3_passTicks_13 ?_
      refine xgX3 (pc := 14) X (oo0) hh0.1 1 wm_4_11 rfl rfl (by decide) rfl dX3_passTicks_14 ?_
      refine xr_iconst (pc := 17) X dX3_passTicks_17 (v := 1) (by decide) ?_
      refine xr_iadd (pc := 18) X dX3_passTicks_18 ?_
      refine xpX3 (pc := 19) X (oo0) hh0.1 1 wm_4_11 (ty := .int) rfl (fun _ => rfl) rfl (by decide +kernel) rfl rfl (Nat.le_of_ble_eq_true rfl) (by decide) rfl dX3_passTicks_19 (fun σ10 => ?_)
      refine xr_aload_n (pc := 22) X (i := 0) 0 rfl rfl dX3_passTicks_22 ?_
      refine xr_callVV (na := 0) (pc := 23) X (oo0) [] _ (c_X3_writeDueNotes Γ.2.1 hI oo0 hh0 σ10) (wG_V wm_11_15 wm_11_12 wm_11_13 wm_11_14 wm_1_16) rfl rfl rfl (by decide +kernel) ⟨Nat.le_of_ble_eq_true rfl, Nat.le_of_ble_eq_true rfl⟩ hh0.1.1 hh0.1.2 rfl (T := TX3) (C := RX3) rfl rfl rfl (Nat.le_of_ble_eq_true rfl) ⟨Nat.le_of_ble_eq_true rfl, Nat.le_of_ble_eq_true rfl⟩ dX3_passTicks_23 (fun σ11 => ?_)
      refine xr_iload_n (pc := 26) X (i := 2) 2 rfl rfl dX3_passTicks_26 ?_
      refine xr_iconst (pc := 27) X dX3_passTicks_27 (v := 0) (by decide) ?_
      refine xr_max (pc := 28) X (List.mem_cons_of_mem _ wm_11_11) (List.mem_cons_of_mem _ wm_3_11) (List.mem_cons_of_mem _ wm_3_12) (List.mem_cons_of_mem _ wm_3_13) (Nat.le_of_ble_eq_true rfl) (Nat.le_of_ble_eq_true rfl) (Nat.le_of_ble_eq_true rfl) (Nat.le_of_ble_eq_true rfl) dX3_passTicks_28 ?_
      refine x_leti (fun zz12 => ?_)
      refine xr_istore (pc := 31) X (i := 6) (lv2 := [(0, .ref (ad oo0)), (1, .int pp1), (2, .int pp2), (3, .int pp3), (4, .int zz5), (5, .int zz6), (6, .int zz12)]) [1, 2, 3, 4, 5, 6, 0] (Nat.le_of_ble_eq_true rfl) hnL rfl dX3_passTicks_31 ?_
      have hLL42 : ∀ (KK16 : Int32 → xS → Option (Int32 × xS)) (hKK17 : ∀ zz13 σ14, xM Γ D ad N Sh (xQI Γ D ad N Sh 0 0) 0 0 (KK16 zz13 σ14) σ14 155 [(0, .ref (ad oo0)), (1, .int pp1), (2, .int pp2), (3, .int pp3), (4, .int zz13), (5, .int zz6)] []), ∀ (nn_21 : Nat) zz18 zz19 σ20, xM Γ D ad N Sh (xQI Γ D ad N Sh 0 0) 0 0 (L_X3_passTicks_33 oo0 pp3 KK16 nn_21 zz18 zz19 σ20) σ20 33 [(0, .ref (ad oo0)), (1, .int pp1), (2, .int pp2), (3, .int pp3), (4, .int zz18), (5, .int zz6), (6, .int zz19)] [] := by
        intro KK16 hKK17 nn_21
        induction nn_21 with
        | zero => intro zz18 zz19 σ20; exact xM_none
        | succ nn_21 ihh22 =>
          intro zz18 zz19 σ20
          rw [L_X3_passTicks_33]
          refine xr_iload (pc := 33) X (i := 6) 6 rfl dX3_passTicks_33 ?_
          refine xr_iload_n (pc := 35) X (i := 3) 3 rfl rfl dX3_passTicks_35 ?_
          refine xr_icmp_ge (pc := 36) X 155 (by decide) dX3_passTicks_36 (fun _ => ?_) (fun _ => ?_)
          · exact x_sub [0, 1, 2, 3, 4, 5] rfl (hKK17 _ _)
          refine xr_iload (pc := 39) X (i := 6) 6 rfl dX3_passTicks_39 ?_
          refine xr_iconst (pc := 41) X dX3_passTicks_41 (v := 4) (by decide) ?_
          refine xr_icmp_ge (pc := 42) X 155 (by decide) dX3_passTicks_42 (fun _ => ?_) (fun _ => ?_)
          · exact x_sub [0, 1, 2, 3, 4, 5] rfl (hKK17 _ _)
          refine xr_aload_n (pc := 45) X (i := 0) 0 rfl rfl dX3_passTicks_45 ?_
          refine xgX3 (pc := 46) X (oo0) hh0.1 4 wm_3_2 rfl rfl (by decide) rfl dX3_passTicks_46 ?_
          refine xr_iload (pc := 49) X (i := 6) 6 rfl dX3_passTicks_49 ?_
          refine xr_aldPair (pc := 51) X (oo0 + 6) 4 (fun j => oo0 + 7 + 9 * j) hh0.2.2.2.1.1 hh0.2.2.2.1.2 (fun _ hj => if_pos hj) dX3_passTicks_51 (fun haa23 => ?_)
          refine xr_astore (pc := 52) X (i := 7) (lv2 := [(0, .ref (ad oo0)), (1, .int pp1), (2, .int pp2), (3, .int pp3), (4, .int zz18), (5, .int zz6), (6, .int zz19), (7, .ref (ad (oo0 + 7 + 9 * zz19.toNatClampNeg)))]) [1, 2, 3, 4, 5, 6, 7, 0] (Nat.le_of_ble_eq_true rfl) hnL rfl dX3_passTicks_52 ?_
          refine xr_iload (pc := 54) X (i := 4) 4 rfl dX3_passTicks_54 ?_
          refine xr_aload (pc := 56) X (i := 7) 7 rfl dX3_passTicks_56 ?_
          refine xr_aload_n (pc := 58) X (i := 0) 0 rfl rfl dX3_passTicks_58 ?_
          refine xgX3 (pc := 59) X (oo0) hh0.1 1 wm_4_11 rfl rfl (by decide) rfl dX3_passTicks_59 ?_
          refine xr_aload_n (pc := 62) X (i := 0) 0 rfl rfl dX3_passTicks_62 ?_
          refine xgX3 (pc := 63) X (oo0) hh0.1 2 wm_2_20 rfl rfl (by decide) rfl dX3_passTicks_63 ?_
          refine xr_callVI (na := 2) (pc := 66) X (oo0 + 7 + 9 * zz19.toNatClampNeg) [.int (σ20 oo0 1), .ref (ad (oo0 + 1))] _ (c_X2_receiveLetters Γ.2.1 hI (oo0 + 7 + 9 * zz19.toNatClampNeg) ((hh0.2.2.2.2 _ (xin_lt haa23))) (σ20 oo0 1) 4 (oo0 + 1) hh0.2.1 σ20) (wG_V wm_12_8 wm_12_5 wm_12_6 wm_12_7 wm_3_4) rfl rfl rfl (by decide +kernel) ⟨Nat.le_of_ble_eq_true rfl, Nat.le_of_ble_eq_true rfl⟩ (hh0.2.2.2.2 _ (xin_lt haa23)).1.1 (hh0.2.2.2.2 _ (xin_lt haa23)).1.2 rfl (T := TX2) (C := RX2) rfl rfl rfl (Nat.le_of_ble_eq_true rfl) ⟨Nat.le_of_ble_eq_true rfl, Nat.le_of_ble_eq_true rfl⟩ dX3_passTicks_66 (fun zz25 σ24 => ?_)
          refine xr_iadd (pc := 69) X dX3_passTicks_69 ?_
          refine x_leti (fun zz26 => ?_)
          refine xr_istore (pc := 70) X (i := 4) (lv2 := [(0, .ref (ad oo0)), (1, .int pp1), (2, .int pp2), (3, .int pp3), (4, .int zz26), (5, .int zz6), (6, .int zz19), (7, .ref (ad (oo0 + 7 + 9 * zz19.toNatClampNeg)))]) [1, 2, 3, 4, 0, 5, 6, 7] (Nat.le_of_ble_eq_true rfl) hnL rfl dX3_passTicks_70 ?_
          refine xr_aload (pc := 72) X (i := 7) 7 rfl dX3_passTicks_72 ?_
          refine xgNX2 (pc := 74) X (oo0 + 7 + 9 * zz19.toNatClampNeg) ((hh0.2.2.2.2 _ (xin_lt haa23)).1) 12 18 rfl rfl rfl (by decide) rfl dX3_passTicks_74 ?_
          refine xr_aload_n (pc := 77) X (i := 0) 0 rfl rfl dX3_passTicks_77 ?_
          refine xgX3 (pc := 78) X (oo0) hh0.1 1 wm_4_11 rfl rfl (by decide) rfl dX3_passTicks_78 ?_
          refine x_jn (fun (KK28 : xS → Option (Int32 × xS)) => ∀ σ27, xM Γ D ad N Sh (xQI Γ D ad N Sh 0 0) 0 0 (KK28 σ27) σ27 99 [(0, .ref (ad oo0)), (1, .int pp1), (2, .int pp2), (3, .int pp3), (4, .int zz26), (5, .int zz6), (6, .int zz19), (7, .ref (ad (oo0 + 7 + 9 * zz19.toNatClampNeg)))] []) (fun σ27 => ?_) (fun KK28 hKK29 => ?_)
          · refine xr_aload (pc := 99) X (i := 7) 7 rfl dX3_passTicks_99 ?_
            refine xr_aload_n (pc := 101) X (i := 0) 0 rfl rfl dX3_passTicks_101 ?_
            refine xgX3 (pc := 102) X (oo0) hh0.1 1 wm_4_11 rfl rfl (by decide) rfl dX3_passTicks_102 ?_
            refine xr_callVI (na := 1) (pc := 105) X (oo0 + 7 + 9 * zz19.toNatClampNeg) [.int (σ27 oo0 1)] _ (c_X2_receiveAnswers Γ.2.1 hI (oo0 + 7 + 9 * zz19.toNatClampNeg) ((hh0.2.2.2.2 _ (xin_lt haa23))) (σ27 oo0 1) σ27) (wG_V wm_12_18 wm_12_15 wm_12_16 wm_12_17 wm_3_4) rfl rfl rfl (by decide +kernel) ⟨Nat.le_of_ble_eq_true rfl, Nat.le_of_ble_eq_true rfl⟩ (hh0.2.2.2.2 _ (xin_lt haa23)).1.1 (hh0.2.2.2.2 _ (xin_lt haa23)).1.2 rfl (T := TX2) (C := RX2) rfl rfl rfl (Nat.le_of_ble_eq_true rfl) ⟨Nat.le_of_ble_eq_true rfl, Nat.le_of_ble_eq_true rfl⟩ dX3_passTicks_105 (fun zz33 σ32 => ?_)
            refine x_jn (fun (KK35 : xS → Option (Int32 × xS)) => ∀ σ34, xM Γ D ad N Sh (xQI Γ D ad N Sh 0 0) 0 0 (KK35 σ34) σ34 130 [(0, .ref (ad oo0)), (1, .int pp1), (2, .int pp2), (3, .int pp3), (4, .int zz26), (5, .int zz6), (6, .int zz19), (7, .ref (ad (oo0 + 7 + 9 * zz19.toNatClampNeg)))] []) (fun σ34 => ?_) (fun KK35 hKK36 => ?_)
            · refine xr_aload (pc := 130) X (i := 7) 7 rfl dX3_passTicks_130 ?_
              refine xgNX2 (pc := 132) X (oo0 + 7 + 9 * zz19.toNatClampNeg) ((hh0.2.2.2.2 _ (xin_lt haa23)).1) 2 19 rfl rfl rfl (by decide) rfl dX3_passTicks_132 ?_
              refine xr_if_le (pc := 135) X 149 (by decide) dX3_passTicks_135 (fun _ => ?_) (fun _ => ?_)
              · refine xr_iinc (pc := 149) X (i := 6) (j := 6) [1, 2, 3, 4, 5, 6, 0, 7] (Nat.le_of_ble_eq_true rfl) hnL rfl rfl (fun zz39 => [(0, .ref (ad oo0)), (1, .int pp1), (2, .int pp2), (3, .int pp3), (4, .int zz26), (5, .int zz6), (6, .int zz39), (7, .ref (ad (oo0 + 7 + 9 * zz19.toNatClampNeg)))]) (fun _ => rfl) dX3_passTicks_149 (fun zz39 => ?_)
                refine xr_goto (pc := 152) X 33 (by decide) dX3_passTicks_152 ?_
                exact x_sub [0, 1, 2, 3, 4, 5, 6] rfl (ihh22 _ _ _)
              refine xr_aload (pc := 138) X (i := 7) 7 rfl dX3_passTicks_138 ?_
              refine xr_dup (pc := 140) X rfl dX3_passTicks_140 ?_
              refine xgNX2 (pc := 141) X (oo0 + 7 + 9 * zz19.toNatClampNeg) ((hh0.2.2.2.2 _ (xin_lt haa23)).1) 7 20 rfl rfl rfl (by decide) rfl dX3_passTicks_141 ?_
              refine xr_iconst (pc := 144) X dX3_passTicks_144 (v := 1) (by decide) ?_
              refine xr_iadd (pc := 145) X dX3_passTicks_145 ?_
              refine xpNX2 (pc := 146) X (oo0 + 7 + 9 * zz19.toNatClampNeg) ((hh0.2.2.2.2 _ (xin_lt haa23)).1) 7 20 rfl (ty := .int) rfl (fun _ => rfl) rfl (by decide +kernel) rfl rfl (Nat.le_of_ble_eq_true rfl) (by decide) rfl dX3_passTicks_146 (fun σ40 => ?_)
              refine xr_iinc (pc := 149) X (i := 6) (j := 6) [1, 2, 3, 4, 5, 6, 0, 7] (Nat.le_of_ble_eq_true rfl) hnL rfl rfl (fun zz41 => [(0, .ref (ad oo0)), (1, .int pp1), (2, .int pp2), (3, .int pp3), (4, .int zz26), (5, .int zz6), (6, .int zz41), (7, .ref (ad (oo0 + 7 + 9 * zz19.toNatClampNeg)))]) (fun _ => rfl) dX3_passTicks_149 (fun zz41 => ?_)
              refine xr_goto (pc := 152) X 33 (by decide) dX3_passTicks_152 ?_
              exact x_sub [0, 1, 2, 3, 4, 5, 6] rfl (ihh22 _ _ _)
            refine xr_if_eq (pc := 108) X 130 (by decide) dX3_passTicks_108 (fun _ => ?_) (fun _ => ?_)
            · exact hKK36  _
            refine xr_aload (pc := 111) X (i := 7) 7 rfl dX3_passTicks_111 ?_
            refine xr_aload_n (pc := 113) X (i := 0) 0 rfl rfl dX3_passTicks_113 ?_
            refine xgX3 (pc := 114) X (oo0) hh0.1 1 wm_4_11 rfl rfl (by decide) rfl dX3_passTicks_114 ?_
            refine xr_aload_n (pc := 117) X (i := 0) 0 rfl rfl dX3_passTicks_117 ?_
            refine xgX3 (pc := 118) X (oo0) hh0.1 2 wm_2_20 rfl rfl (by decide) rfl dX3_passTicks_118 ?_
            refine xr_aload (pc := 121) X (i := 7) 7 rfl dX3_passTicks_121 ?_
            refine xgNX2 (pc := 123) X (oo0 + 7 + 9 * zz19.toNatClampNeg) ((hh0.2.2.2.2 _ (xin_lt haa23)).1) 3 17 rfl rfl rfl (by decide) rfl dX3_passTicks_123 ?_
            refine xr_callVI (na := 3) (pc := 126) X (oo0 + 7 + 9 * zz19.toNatClampNeg) [.int (σ32 oo0 1), .ref (ad (oo0 + 1)), .int (σ32 (oo0 + 7 + 9 * zz19.toNatClampNeg) 3)] _ (c_X2_sendLetters Γ.2.1 hI (oo0 + 7 + 9 * zz19.toNatClampNeg) ((hh0.2.2.2.2 _ (xin_lt haa23))) (σ32 oo0 1) 4 (oo0 + 1) hh0.2.1 (σ32 (oo0 + 7 + 9 * zz19.toNatClampNeg) 3) σ32) (wG_V wm_10_16 wm_10_13 wm_10_14 wm_10_15 wm_3_4) rfl rfl rfl (by decide +kernel) ⟨Nat.le_of_ble_eq_true rfl, Nat.le_of_ble_eq_true rfl⟩ (hh0.2.2.2.2 _ (xin_lt haa23)).1.1 (hh0.2.2.2.2 _ (xin_lt haa23)).1.2 rfl (T := TX2) (C := RX2) rfl rfl rfl (Nat.le_of_ble_eq_true rfl) ⟨Nat.le_of_ble_eq_true rfl, Nat.le_of_ble_eq_true rfl⟩ dX3_passTicks_126 (fun zz38 σ37 => ?_)
            refine xr_pop (pc := 129) X rfl dX3_passTicks_129 ?_
            exact hKK36  _
          refine xr_icmp_ne (pc := 81) X 99 (by decide) dX3_passTicks_81 (fun _ => ?_) (fun _ => ?_)
          · exact hKK29  _
          refine xr_aload (pc := 84) X (i := 7) 7 rfl dX3_passTicks_84 ?_
          refine xr_aload_n (pc := 86) X (i := 0) 0 rfl rfl dX3_passTicks_86 ?_
          refine xgX3 (pc := 87) X (oo0) hh0.1 1 wm_4_11 rfl rfl (by decide) rfl dX3_passTicks_87 ?_
          refine xr_aload_n (pc := 90) X (i := 0) 0 rfl rfl dX3_passTicks_90 ?_
          refine xgX3 (pc := 91) X (oo0) hh0.1 2 wm_2_20 rfl rfl (by decide) rfl dX3_passTicks_91 ?_
          refine xr_iconst (pc := 94) X dX3_passTicks_94 (v := 0) (by decide) ?_
          refine xr_iald (pc := 95) X (oo0 + 1) (4) hh0.2.1.1 hh0.2.1.2 dX3_passTicks_95 (fun zz30 => ?_)
          refine xr_callVV (na := 2) (pc := 96) X (oo0 + 7 + 9 * zz19.toNatClampNeg) [.int (σ24 oo0 1), .int zz30] _ (c_X2_sendAnswer Γ.2.1 hI (oo0 + 7 + 9 * zz19.toNatClampNeg) ((hh0.2.2.2.2 _ (xin_lt haa23))) (σ24 oo0 1) zz30 σ24) (wG_V wm_12_13 wm_12_14 wm_12_11 wm_12_12 wm_3_4) rfl rfl rfl (by decide +kernel) ⟨Nat.le_of_ble_eq_true rfl, Nat.le_of_ble_eq_true rfl⟩ (hh0.2.2.2.2 _ (xin_lt haa23)).1.1 (hh0.2.2.2.2 _ (xin_lt haa23)).1.2 rfl (T := TX2) (C := RX2) rfl rfl rfl (Nat.le_of_ble_eq_true rfl) ⟨Nat.le_of_ble_eq_true rfl, Nat.le_of_ble_eq_true rfl⟩ dX3_passTicks_96 (fun σ31 => ?_)
          exact hKK29  _
      refine hLL42 _ (fun zz13 σ14 => ?_) _ _ _ _
      refine xr_iinc (pc := 155) X (i := 5) (j := 5) [1, 2, 3, 4, 5, 0] (Nat.le_of_ble_eq_true rfl) hnL rfl rfl (fun zz15 => [(0, .ref (ad oo0)), (1, .int pp1), (2, .int pp2), (3, .int pp3), (4, .int zz13), (5, .int zz15)]) (fun _ => rfl) dX3_passTicks_155 (fun zz15 => ?_)
      refine xr_goto (pc := 158) X 6 (by decide) dX3_passTicks_158 ?_
      exact ihh9 _ _ _
  refine hLL43 _ (fun zz1 σ2 => ?_) _ _ _ _
  refine xr_iload (pc := 161) X (i := 4) 0 rfl dX3_passTicks_161 ?_
  exact xr_iret (pc := 163) X (Nat.le_of_ble_eq_true rfl) (Nat.le_of_ble_eq_true rfl) dX3_passTicks_163
def F_X3_replaceSetting (oo0 : Nat) (pp1 : Int32) (pp2 : Int32) (σ : xS) : Option (Int32 × xS) :=
  if xin pp1 4 = true then (xlet (σ (oo0 + 1) pp1.toNatClampNeg) (fun (zz1 : Int32) => if xin pp1 4 = true then (xlet (xu σ (oo0 + 1) pp1.toNatClampNeg pp2) (fun (σ2 : xS) => some (zz1, σ2))) else none)) else none
abbrev rm_X3_replaceSetting : Room := { frames := 0, cells := 0, slots := 0, locals := 0 }
set_option maxHeartbeats 4000000 in
set_option maxRecDepth 100000 in
theorem c_X3_replaceSetting (l : Launch) {D : va_G} {ad : Nat → Nat} {N : Nat} {Sh : xSh} (hI : ∀ i j, i < N → j < N → ad i = ad j → i = j) (oo0 : Nat) (hh0 : xIs3 D ad N Sh oo0) (pp1 : Int32) (pp2 : Int32) (σ : xS) : xKI l yX3_replaceSetting (Cond.code yX3_replaceSetting cX3_replaceSetting 4 (some .int) :: wG) rm_X3_replaceSetting 0 0 D ad N Sh [.ref (ad oo0), .int pp1, .int pp2] σ (F_X3_replaceSetting oo0 pp1 pp2 σ) := by
  refine x_startI (own := RX3) (maxL := 4) (by decide) rfl rfl (Nat.le_of_ble_eq_true rfl) rfl hI (fun Γ hl hnL X => ?_)
  subst hl
  unfold F_X3_replaceSetting
  refine xr_aload_n (pc := 0) X (i := 0) 0 rfl rfl dX3_replaceSetting_0 ?_
  refine xgX3 (pc := 1) X (oo0) hh0.1 2 wm_2_20 rfl rfl (by decide) rfl dX3_replaceSetting_1 ?_
  refine xr_iload_n (pc := 4) X (i := 1) 1 rfl rfl dX3_replaceSetting_4 ?_
  refine xr_iald (pc := 5) X (oo0 + 1) (4) hh0.2.1.1 hh0.2.1.2 dX3_replaceSetting_5 (fun zz1 => ?_)
  refine xr_istore_n (pc := 6) X (hf := rfl) (i := 3) (lv2 := [(0, .ref (ad oo0)), (1, .int pp1), (2, .int pp2), (3, .int zz1)]) [1, 2, 3, 0] (Nat.le_of_ble_eq_true rfl) hnL rfl dX3_replaceSetting_6 ?_
  refine xr_aload_n (pc := 7) X (i := 0) 0 rfl rfl dX3_replaceSetting_7 ?_
  refine xgX3 (pc := 8) X (oo0) hh0.1 2 wm_2_20 rfl rfl (by decide) rfl dX3_replaceSetting_8 ?_
  refine xr_iload_n (pc := 11) X (i := 1) 1 rfl rfl dX3_replaceSetting_11 ?_
  refine xr_iload_n (pc := 12) X (i := 2) 2 rfl rfl dX3_replaceSetting_12 ?_
  refine xr_iast (pc := 13) X (oo0 + 1) (4) hh0.2.1.1 hh0.2.1.2 dX3_replaceSetting_13 (fun σ2 => ?_)
  refine xr_iload_n (pc := 14) X (i := 3) 3 rfl rfl dX3_replaceSetting_14 ?_
  exact xr_iret (pc := 15) X (Nat.le_of_ble_eq_true rfl) (Nat.le_of_ble_eq_true rfl) dX3_replaceSetting_15
def F_X3_attempt (oo0 : Nat) (pp1 : Int32) (pp2 : Int32) (pp3 : Int32) (pp4 : Int32) (σ : xS) : Option (Int32 × xS) :=
  xbI (F_X3_faultOf oo0 pp1 pp2 pp3 pp4 σ) (fun (zz2 : Int32) (σ1 : xS) => if zz2 = 0 then (if pp1 = 0 then (xbV (F_X3_begin oo0 pp2 σ1) (fun (σ3 : xS) => some (pp2, σ3)))
 else (if pp1 = 1 then (if xin pp2 4 = true then (xbV (F_X2_addNote (oo0 + 7 + 9 * pp2.toNatClampNeg) pp3 σ1) (fun (σ6 : xS) => if xin pp2 4 = true then (if xin pp2 4 = true then (xbI (F_X2_sendLetters (oo0 + 7 + 9 * pp2.toNatClampNeg) (σ6 oo0 1) 4 (oo0 + 1) (σ6 (oo0 + 7 + 9 * pp2.toNatClampNeg) 3) σ6) (fun (zz10 : Int32) (σ9 : xS) => some (zz10, σ9))) else none) else none)) else none)
 else (if pp1 = 2 then (xbV (F_X0_addLast 8 (oo0 + 2) ((σ1 oo0 1) + pp2) pp3 pp4 σ1) (fun (σ12 : xS) => some ((σ12 (oo0 + 2) 3), σ12)))
 else (if pp1 = 3 then (if xin pp2 4 = true then (xjn (fun (zz15 : Int32) (σ16 : xS) => if vp_nar .boolean zz15 = zz15 then (xlet (xu σ16 (oo0 + 7 + 9 * pp2.toNatClampNeg) 3 zz15) (fun (σ19 : xS) => if xin pp2 4 = true then (if xin pp2 4 = true then (xbI (F_X2_sendLetters (oo0 + 7 + 9 * pp2.toNatClampNeg) (σ19 oo0 1) 4 (oo0 + 1) (σ19 (oo0 + 7 + 9 * pp2.toNatClampNeg) 3) σ19) (fun (zz23 : Int32) (σ22 : xS) => some (zz23, σ22))) else none) else none)) else none)
 (fun (KK17 : Int32 → xS → Option (Int32 × xS)) => if ¬ pp3 = 1 then (KK17 0 σ1)
 else (KK17 1 σ1))) else none)
 else (if pp1 = 4 then (if xin pp2 4 = true then (xbI (F_X2_sendLetters (oo0 + 7 + 9 * pp2.toNatClampNeg) (σ1 oo0 1) 4 (oo0 + 1) 0 σ1) (fun (zz28 : Int32) (σ27 : xS) => some (zz28, σ27))) else none)
 else (if pp1 = 5 then (xbI (F_X3_passTicks oo0 pp2 0 (σ1 oo0 0) σ1) (fun (zz31 : Int32) (σ30 : xS) => some (zz31, σ30)))
 else (xbI (F_X3_replaceSetting oo0 pp2 pp3 σ1) (fun (zz34 : Int32) (σ33 : xS) => some (zz34, σ33)))))))))
 else (some ((-1 : Int32), σ1)))
abbrev rm_X3_attempt : Room := { frames := 4, cells := 0, slots := 0, locals := 101 }
set_option maxHeartbeats 4000000 in
set_option maxRecDepth 100000 in
theorem c_X3_attempt (l : Launch) {D : va_G} {ad : Nat → Nat} {N : Nat} {Sh : xSh} (hI : ∀ i j, i < N → j < N → ad i = ad j → i = j) (oo0 : Nat) (hh0 : xIs3 D ad N Sh oo0) (pp1 : Int32) (pp2 : Int32) (pp3 : Int32) (pp4 : Int32) (σ : xS) : xKI l yX3_attempt (Cond.code yX3_attempt cX3_attempt 5 (some .int) :: wG) rm_X3_attempt 0 0 D ad N Sh [.ref (ad oo0), .int pp1, .int pp2, .int pp3, .int pp4] σ (F_X3_attempt oo0 pp1 pp2 pp3 pp4 σ) := by
  refine x_startI (own := RX3) (maxL := 5) (by decide) rfl rfl (Nat.le_of_ble_eq_true rfl) rfl hI (fun Γ hl hnL X => ?_)
  subst hl
  unfold F_X3_attempt
  refine xr_aload_n (pc := 0) X (i := 0) 0 rfl rfl dX3_attempt_0 ?_
  refine xr_iload_n (pc := 1) X (i := 1) 1 rfl rfl dX3_attempt_1 ?_
  refine xr_iload_n (pc := 2) X (i := 2) 2 rfl rfl dX3_attempt_2 ?_
  refine xr_iload_n (pc := 3) X (i := 3) 3 rfl rfl dX3_attempt_3 ?_
  refine xr_iload (pc := 4) X (i := 4) 4 rfl dX3_attempt_4 ?_
  refine xr_callVI (na := 4) (pc := 6) X (oo0) [.int pp1, .int pp2, .int pp3, .int pp4] _ (c_X3_faultOf Γ.2.1 hI oo0 hh0 pp1 pp2 pp3 pp4 σ) (wG_V wm_9_12 wm_9_9 wm_9_10 wm_9_11 wm_1_16) rfl rfl rfl (by decide +kernel) ⟨Nat.le_of_ble_eq_true rfl, Nat.le_of_ble_eq_true rfl⟩ hh0.1.1 hh0.1.2 rfl (T := TX3) (C := RX3) rfl rfl rfl (Nat.le_of_ble_eq_true rfl) ⟨Nat.le_of_ble_eq_true rfl, Nat.le_of_ble_eq_true rfl⟩ dX3_attempt_6 (fun zz2 σ1 => ?_)
  refine xr_if_eq (pc := 9) X 14 (by decide) dX3_attempt_9 (fun _ => ?_) (fun _ => ?_)
  · refine xr_iload_n (pc := 14) X (i := 1) 1 rfl rfl dX3_attempt_14 ?_
    refine x_if (fun hcc4 => ?_) (fun hcc4 => ?_)
    · refine xr_tin (off := 37) (pc := 15) X 52 dX3_attempt_15 (by rw [hcc4]; decide) (by rw [hcc4]; decide) (by rw [hcc4]; rfl) (by decide) ?_
      refine xr_aload_n (pc := 52) X (i := 0) 0 rfl rfl dX3_attempt_52 ?_
      refine xr_iload_n (pc := 53) X (i := 2) 2 rfl rfl dX3_attempt_53 ?_
      refine xr_callVV (na := 1) (pc := 54) X (oo0) [.int pp2] _ (c_X3_begin Γ.2.1 hI oo0 hh0 pp2 σ1) (wG_V wm_4_9 wm_4_6 wm_4_7 wm_4_8 wm_1_16) rfl rfl rfl (by decide +kernel) ⟨Nat.le_of_ble_eq_true rfl, Nat.le_of_ble_eq_true rfl⟩ hh0.1.1 hh0.1.2 rfl (T := TX3) (C := RX3) rfl rfl rfl (Nat.le_of_ble_eq_true rfl) ⟨Nat.le_of_ble_eq_true rfl, Nat.le_of_ble_eq_true rfl⟩ dX3_attempt_54 (fun σ3 => ?_)
      refine xr_iload_n (pc := 57) X (i := 2) 2 rfl rfl dX3_attempt_57 ?_
      exact xr_iret (pc := 58) X (Nat.le_of_ble_eq_true rfl) (Nat.le_of_ble_eq_true rfl) dX3_attempt_58
    refine x_if (fun hcc11 => ?_) (fun hcc11 => ?_)
    · refine xr_tin (off := 44) (pc := 15) X 59 dX3_attempt_15 (by rw [hcc11]; decide) (by rw [hcc11]; decide) (by rw [hcc11]; rfl) (by decide) ?_
      refine xr_aload_n (pc := 59) X (i := 0) 0 rfl rfl dX3_attempt_59 ?_
      refine xgX3 (pc := 60) X (oo0) hh0.1 4 wm_3_2 rfl rfl (by decide) rfl dX3_attempt_60 ?_
      refine xr_iload_n (pc := 63) X (i := 2) 2 rfl rfl dX3_attempt_63 ?_
      refine xr_aldPair (pc := 64) X (oo0 + 6) 4 (fun j => oo0 + 7 + 9 * j) hh0.2.2.2.1.1 hh0.2.2.2.1.2 (fun _ hj => if_pos hj) dX3_attempt_64 (fun haa5 => ?_)
      refine xr_iload_n (pc := 65) X (i := 3) 3 rfl rfl dX3_attempt_65 ?_
      refine xr_callVV (na := 1) (pc := 66) X (oo0 + 7 + 9 * pp2.toNatClampNeg) [.int pp3] _ (c_X2_addNote Γ.2.1 hI (oo0 + 7 + 9 * pp2.toNatClampNeg) ((hh0.2.2.2.2 _ (xin_lt haa5))) pp3 σ1) (wG_V wm_10_12 wm_10_9 wm_10_10 wm_10_11 wm_3_4) rfl rfl rfl (by decide +kernel) ⟨Nat.le_of_ble_eq_true rfl, Nat.le_of_ble_eq_true rfl⟩ (hh0.2.2.2.2 _ (xin_lt haa5)).1.1 (hh0.2.2.2.2 _ (xin_lt haa5)).1.2 rfl (T := TX2) (C := RX2) rfl rfl rfl (Nat.le_of_ble_eq_true rfl) ⟨Nat.le_of_ble_eq_true rfl, Nat.le_of_ble_eq_true rfl⟩ dX3_attempt_66 (fun σ6 => ?_)
      refine xr_aload_n (pc := 69) X (i := 0) 0 rfl rfl dX3_attempt_69 ?_
      refine xgX3 (pc := 70) X (oo0) hh0.1 4 wm_3_2 rfl rfl (by decide) rfl dX3_attempt_70 ?_
      refine xr_iload_n (pc := 73) X (i := 2) 2 rfl rfl dX3_attempt_73 ?_
      refine xr_aldPair (pc := 74) X (oo0 + 6) 4 (fun j => oo0 + 7 + 9 * j) hh0.2.2.2.1.1 hh0.2.2.2.1.2 (fun _ hj => if_pos hj) dX3_attempt_74 (fun haa7 => ?_)
      refine xr_aload_n (pc := 75) X (i := 0) 0 rfl rfl dX3_attempt_75 ?_
      refine xgX3 (pc := 76) X (oo0) hh0.1 1 wm_4_11 rfl rfl (by decide) rfl dX3_attempt_76 ?_
      refine xr_aload_n (pc := 79) X (i := 0) 0 rfl rfl dX3_attempt_79 ?_
      refine xgX3 (pc := 80) X (oo0) hh0.1 2 wm_2_20 rfl rfl (by decide) rfl dX3_attempt_80 ?_
      refine xr_aload_n (pc := 83) X (i := 0) 0 rfl rfl dX3_attempt_83 ?_
      refine xgX3 (pc := 84) X (oo0) hh0.1 4 wm_3_2 rfl rfl (by decide) rfl dX3_attempt_84 ?_
      refine xr_iload_n (pc := 87) X (i := 2) 2 rfl rfl dX3_attempt_87 ?_
      refine xr_aldPair (pc := 88) X (oo0 + 6) 4 (fun j => oo0 + 7 + 9 * j) hh0.2.2.2.1.1 hh0.2.2.2.1.2 (fun _ hj => if_pos hj) dX3_attempt_88 (fun haa8 => ?_)
      refine xgNX2 (pc := 89) X (oo0 + 7 + 9 * pp2.toNatClampNeg) ((hh0.2.2.2.2 _ (xin_lt haa8)).1) 3 17 rfl rfl rfl (by decide) rfl dX3_attempt_89 ?_
      refine xr_callVI (na := 3) (pc := 92) X (oo0 + 7 + 9 * pp2.toNatClampNeg) [.int (σ6 oo0 1), .ref (ad (oo0 + 1)), .int (σ6 (oo0 + 7 + 9 * pp2.toNatClampNeg) 3)] _ (c_X2_sendLetters Γ.2.1 hI (oo0 + 7 + 9 * pp2.toNatClampNeg) ((hh0.2.2.2.2 _ (xin_lt haa7))) (σ6 oo0 1) 4 (oo0 + 1) hh0.2.1 (σ6 (oo0 + 7 + 9 * pp2.toNatClampNeg) 3) σ6) (wG_V wm_10_16 wm_10_13 wm_10_14 wm_10_15 wm_3_4) rfl rfl rfl (by decide +kernel) ⟨Nat.le_of_ble_eq_true rfl, Nat.le_of_ble_eq_true rfl⟩ (hh0.2.2.2.2 _ (xin_lt haa7)).1.1 (hh0.2.2.2.2 _ (xin_lt haa7)).1.2 rfl (T := TX2) (C := RX2) rfl rfl rfl (Nat.le_of_ble_eq_true rfl) ⟨Nat.le_of_ble_eq_true rfl, Nat.le_of_ble_eq_true rfl⟩ dX3_attempt_92 (fun zz10 σ9 => ?_)
      exact xr_iret (pc := 95) X (Nat.le_of_ble_eq_true rfl) (Nat.le_of_ble_eq_true rfl) dX3_attempt_95
    refine x_if (fun hcc13 => ?_) (fun hcc13 => ?_)
    · refine xr_tin (off := 81) (pc := 15) X 96 dX3_attempt_15 (by rw [hcc13]; decide) (by rw [hcc13]; decide) (by rw [hcc13]; rfl) (by decide) ?_
      refine xr_aload_n (pc := 96) X (i := 0) 0 rfl rfl dX3_attempt_96 ?_
      refine xgX3 (pc := 97) X (oo0) hh0.1 3 wm_3_0 rfl rfl (by decide) rfl dX3_attempt_97 ?_
      refine xr_aload_n (pc := 100) X (i := 0) 0 rfl rfl dX3_attempt_100 ?_
      refine xgX3 (pc := 101) X (oo0) hh0.1 1 wm_4_11 rfl rfl (by decide) rfl dX3_attempt_101 ?_
      refine xr_iload_n (pc := 104) X (i := 2) 2 rfl rfl dX3_attempt_104 ?_
      refine xr_iadd (pc := 105) X dX3_attempt_105 ?_
      refine xr_iload_n (pc := 106) X (i := 3) 3 rfl rfl dX3_attempt_106 ?_
      refine xr_iload (pc := 107) X (i := 4) 4 rfl dX3_attempt_107 ?_
      refine xr_callVV (na := 3) (pc := 109) X (oo0 + 2) [.int ((σ1 oo0 1) + pp2), .int pp3, .int pp4] _ (c_X0_addLast Γ.2.1 hI 8 (oo0 + 2) hh0.2.2.1 ((σ1 oo0 1) + pp2) pp3 pp4 σ1) (wG_V wm_11_5 wm_11_6 wm_11_3 wm_11_4 wm_2_23) rfl rfl rfl (by decide +kernel) ⟨Nat.le_of_ble_eq_true rfl, Nat.le_of_ble_eq_true rfl⟩ hh0.2.2.1.1.1 hh0.2.2.1.1.2 rfl (T := TX0) (C := RX0) rfl rfl rfl (Nat.le_of_ble_eq_true rfl) ⟨Nat.le_of_ble_eq_true rfl, Nat.le_of_ble_eq_true rfl⟩ dX3_attempt_109 (fun σ12 => ?_)
      refine xr_aload_n (pc := 112) X (i := 0) 0 rfl rfl dX3_attempt_112 ?_
      refine xgX3 (pc := 113) X (oo0) hh0.1 3 wm_3_0 rfl rfl (by decide) rfl dX3_attempt_113 ?_
      refine xgNX0 (pc := 116) X (oo0 + 2) hh0.2.2.1.1 3 24 rfl rfl rfl (by decide) rfl dX3_attempt_116 ?_
      exact xr_iret (pc := 119) X (Nat.le_of_ble_eq_true rfl) (Nat.le_of_ble_eq_true rfl) dX3_attempt_119
    refine x_if (fun hcc25 => ?_) (fun hcc25 => ?_)
    · refine xr_tin (off := 105) (pc := 15) X 120 dX3_attempt_15 (by rw [hcc25]; decide) (by rw [hcc25]; decide) (by rw [hcc25]; rfl) (by decide) ?_
      refine xr_aload_n (pc := 120) X (i := 0) 0 rfl rfl dX3_attempt_120 ?_
      refine xgX3 (pc := 121) X (oo0) hh0.1 4 wm_3_2 rfl rfl (by decide) rfl dX3_attempt_121 ?_
      refine xr_iload_n (pc := 124) X (i := 2) 2 rfl rfl dX3_attempt_124 ?_
      refine xr_aldPair (pc := 125) X (oo0 + 6) 4 (fun j => oo0 + 7 + 9 * j) hh0.2.2.2.1.1 hh0.2.2.2.1.2 (fun _ hj => if_pos hj) dX3_attempt_125 (fun haa14 => ?_)
      refine xr_iload_n (pc := 126) X (i := 3) 3 rfl rfl dX3_attempt_126 ?_
      refine xr_iconst (pc := 127) X dX3_attempt_127 (v := 1) (by decide) ?_
      refine x_jn (fun (KK17 : Int32 → xS → Option (Int32 × xS)) => ∀ zz15 σ16, xM Γ D ad N Sh (xQI Γ D ad N Sh 0 0) 0 0 (KK17 zz15 σ16) σ16 136 [(0, .ref (ad oo0)), (2, .int pp2)] [.int zz15, .ref (ad (oo0 + 7 + 9 * pp2.toNatClampNeg))]) (fun zz15 σ16 => ?_) (fun KK17 hKK18 => ?_)
      · refine x_gd (fun hzz24 => ?_)
        refine xpNX2 (pc := 136) X (oo0 + 7 + 9 * pp2.toNatClampNeg) ((hh0.2.2.2.2 _ (xin_lt haa14)).1) 3 17 rfl (ty := .boolean) rfl (fun _ => rfl) rfl (by decide +kernel) (congrArg Value.int hzz24) (xfitZ hzz24) (Nat.le_of_ble_eq_true rfl) (by decide) rfl dX3_attempt_136 (fun σ19 => ?_)
        refine xr_aload_n (pc := 139) X (i := 0) 0 rfl rfl dX3_attempt_139 ?_
        refine xgX3 (pc := 140) X (oo0) hh0.1 4 wm_3_2 rfl rfl (by decide) rfl dX3_attempt_140 ?_
        refine xr_iload_n (pc := 143) X (i := 2) 1 rfl rfl dX3_attempt_143 ?_
        refine xr_aldPair (pc := 144) X (oo0 + 6) 4 (fun j => oo0 + 7 + 9 * j) hh0.2.2.2.1.1 hh0.2.2.2.1.2 (fun _ hj => if_pos hj) dX3_attempt_144 (fun haa20 => ?_)
        refine xr_aload_n (pc := 145) X (i := 0) 0 rfl rfl dX3_attempt_145 ?_
        refine xgX3 (pc := 146) X (oo0) hh0.1 1 wm_4_11 rfl rfl (by decide) rfl dX3_attempt_146 ?_
        refine xr_aload_n (pc := 149) X (i := 0) 0 rfl rfl dX3_attempt_149 ?_
        refine xgX3 (pc := 150) X (oo0) hh0.1 2 wm_2_20 rfl rfl (by decide) rfl dX3_attempt_150 ?_
        refine xr_aload_n (pc := 153) X (i := 0) 0 rfl rfl dX3_attempt_153 ?_
        refine xgX3 (pc := 154) X (oo0) hh0.1 4 wm_3_2 rfl rfl (by decide) rfl dX3_attempt_154 ?_
        refine xr_iload_n (pc := 157) X (i := 2) 1 rfl rfl dX3_attempt_157 ?_
        refine xr_aldPair (pc := 158) X (oo0 + 6) 4 (fun j => oo0 + 7 + 9 * j) hh0.2.2.2.1.1 hh0.2.2.2.1.2 (fun _ hj => if_pos hj) dX3_attempt_158 (fun haa21 => ?_)
        refine xgNX2 (pc := 159) X (oo0 + 7 + 9 * pp2.toNatClampNeg) ((hh0.2.2.2.2 _ (xin_lt haa21)).1) 3 17 rfl rfl rfl (by decide) rfl dX3_attempt_159 ?_
        refine xr_callVI (na := 3) (pc := 162) X (oo0 + 7 + 9 * pp2.toNatClampNeg) [.int (σ19 oo0 1), .ref (ad (oo0 + 1)), .int (σ19 (oo0 + 7 + 9 * pp2.toNatClampNeg) 3)] _ (c_X2_sendLetters Γ.2.1 hI (oo0 + 7 + 9 * pp2.toNatClampNeg) ((hh0.2.2.2.2 _ (xin_lt haa20))) (σ19 oo0 1) 4 (oo0 + 1) hh0.2.1 (σ19 (oo0 + 7 + 9 * pp2.toNatClampNeg) 3) σ19) (wG_V wm_10_16 wm_10_13 wm_10_14 wm_10_15 wm_3_4) rfl rfl rfl (by decide +kernel) ⟨Nat.le_of_ble_eq_true rfl, Nat.le_of_ble_eq_true rfl⟩ (hh0.2.2.2.2 _ (xin_lt haa20)).1.1 (hh0.2.2.2.2 _ (xin_lt haa20)).1.2 rfl (T := TX2) (C := RX2) rfl rfl rfl (Nat.le_of_ble_eq_true rfl) ⟨Nat.le_of_ble_eq_true rfl, Nat.le_of_ble_eq_true rfl⟩ dX3_attempt_162 (fun zz23 σ22 => ?_)
        exact xr_iret (pc := 165) X (Nat.le_of_ble_eq_true rfl) (Nat.le_of_ble_eq_true rfl) dX3_attempt_165
      refine xr_icmp_ne (pc := 128) X 135 (by decide) dX3_attempt_128 (fun _ => ?_) (fun _ => ?_)
      · refine xr_iconst (pc := 135) X dX3_attempt_135 (v := 0) (by decide) ?_
        exact x_sub [0, 2] rfl (hKK18 _ _)
      refine xr_iconst (pc := 131) X dX3_attempt_131 (v := 1) (by decide) ?_
      refine xr_goto (pc := 132) X 136 (by decide) dX3_attempt_132 ?_
      exact x_sub [0, 2] rfl (hKK18 _ _)
    refine x_if (fun hcc29 => ?_) (fun hcc29 => ?_)
    · refine xr_tin (off := 151) (pc := 15) X 166 dX3_attempt_15 (by rw [hcc29]; decide) (by rw [hcc29]; decide) (by rw [hcc29]; rfl) (by decide) ?_
      refine xr_aload_n (pc := 166) X (i := 0) 0 rfl rfl dX3_attempt_166 ?_
      refine xgX3 (pc := 167) X (oo0) hh0.1 4 wm_3_2 rfl rfl (by decide) rfl dX3_attempt_167 ?_
      refine xr_iload_n (pc := 170) X (i := 2) 2 rfl rfl dX3_attempt_170 ?_
      refine xr_aldPair (pc := 171) X (oo0 + 6) 4 (fun j => oo0 + 7 + 9 * j) hh0.2.2.2.1.1 hh0.2.2.2.1.2 (fun _ hj => if_pos hj) dX3_attempt_171 (fun haa26 => ?_)
      refine xr_aload_n (pc := 172) X (i := 0) 0 rfl rfl dX3_attempt_172 ?_
      refine xgX3 (pc := 173) X (oo0) hh0.1 1 wm_4_11 rfl rfl (by decide) rfl dX3_attempt_173 ?_
      refine xr_aload_n (pc := 176) X (i := 0) 0 rfl rfl dX3_attempt_176 ?_
      refine xgX3 (pc := 177) X (oo0) hh0.1 2 wm_2_20 rfl rfl (by decide) rfl dX3_attempt_177 ?_
      refine xr_iconst (pc := 180) X dX3_attempt_180 (v := 0) (by decide) ?_
      refine xr_callVI (na := 3) (pc := 181) X (oo0 + 7 + 9 * pp2.toNatClampNeg) [.int (σ1 oo0 1), .ref (ad (oo0 + 1)), .int 0] _ (c_X2_sendLetters Γ.2.1 hI (oo0 + 7 + 9 * pp2.toNatClampNeg) ((hh0.2.2.2.2 _ (xin_lt haa26))) (σ1 oo0 1) 4 (oo0 + 1) hh0.2.1 0 σ1) (wG_V wm_10_16 wm_10_13 wm_10_14 wm_10_15 wm_3_4) rfl rfl rfl (by decide +kernel) ⟨Nat.le_of_ble_eq_true rfl, Nat.le_of_ble_eq_true rfl⟩ (hh0.2.2.2.2 _ (xin_lt haa26)).1.1 (hh0.2.2.2.2 _ (xin_lt haa26)).1.2 rfl (T := TX2) (C := RX2) rfl rfl rfl (Nat.le_of_ble_eq_true rfl) ⟨Nat.le_of_ble_eq_true rfl, Nat.le_of_ble_eq_true rfl⟩ dX3_attempt_181 (fun zz28 σ27 => ?_)
      exact xr_iret (pc := 184) X (Nat.le_of_ble_eq_true rfl) (Nat.le_of_ble_eq_true rfl) dX3_attempt_184
    refine x_if (fun hcc32 => ?_) (fun hcc32 => ?_)
    · refine xr_tin (off := 170) (pc := 15) X 185 dX3_attempt_15 (by rw [hcc32]; decide) (by rw [hcc32]; decide) (by rw [hcc32]; rfl) (by decide) ?_
      refine xr_aload_n (pc := 185) X (i := 0) 0 rfl rfl dX3_attempt_185 ?_
      refine xr_iload_n (pc := 186) X (i := 2) 2 rfl rfl dX3_attempt_186 ?_
      refine xr_iconst (pc := 187) X dX3_attempt_187 (v := 0) (by decide) ?_
      refine xr_aload_n (pc := 188) X (i := 0) 0 rfl rfl dX3_attempt_188 ?_
      refine xgX3 (pc := 189) X (oo0) hh0.1 0 wm_4_10 rfl rfl (by decide) rfl dX3_attempt_189 ?_
      refine xr_callVI (na := 3) (pc := 192) X (oo0) [.int pp2, .int 0, .int (σ1 oo0 0)] _ (c_X3_passTicks Γ.2.1 hI oo0 hh0 pp2 0 (σ1 oo0 0) σ1) (wG_V wm_11_10 wm_11_7 wm_11_8 wm_11_9 wm_1_16) rfl rfl rfl (by decide +kernel) ⟨Nat.le_of_ble_eq_true rfl, Nat.le_of_ble_eq_true rfl⟩ hh0.1.1 hh0.1.2 rfl (T := TX3) (C := RX3) rfl rfl rfl (Nat.le_of_ble_eq_true rfl) ⟨Nat.le_of_ble_eq_true rfl, Nat.le_of_ble_eq_true rfl⟩ dX3_attempt_192 (fun zz31 σ30 => ?_)
      exact xr_iret (pc := 195) X (Nat.le_of_ble_eq_true rfl) (Nat.le_of_ble_eq_true rfl) dX3_attempt_195
    refine xr_tout (pc := 15) X 196 dX3_attempt_15 (by have g0 := xne hcc4 (j := 0) (by decide); have g1 := xne hcc11 (j := 1) (by decide); have g2 := xne hcc13 (j := 2) (by decide); have g3 := xne hcc25 (j := 3) (by decide); have g4 := xne hcc29 (j := 4) (by decide); have g5 := xne hcc32 (j := 5) (by decide); omega) (by decide) ?_
    refine xr_aload_n (pc := 196) X (i := 0) 0 rfl rfl dX3_attempt_196 ?_
    refine xr_iload_n (pc := 197) X (i := 2) 2 rfl rfl dX3_attempt_197 ?_
    refine xr_iload_n (pc := 198) X (i := 3) 3 rfl rfl dX3_attempt_198 ?_
    refine xr_callVI (na := 2) (pc := 199) X (oo0) [.int pp2, .int pp3] _ (c_X3_replaceSetting Γ.2.1 hI oo0 hh0 pp2 pp3 σ1) (wG_V wm_12_23 wm_12_20 wm_12_21 wm_12_22 wm_1_16) rfl rfl rfl (by decide +kernel) ⟨Nat.le_of_ble_eq_true rfl, Nat.le_of_ble_eq_true rfl⟩ hh0.1.1 hh0.1.2 rfl (T := TX3) (C := RX3) rfl rfl rfl (Nat.le_of_ble_eq_true rfl) ⟨Nat.le_of_ble_eq_true rfl, Nat.le_of_ble_eq_true rfl⟩ dX3_attempt_199 (fun zz34 σ33 => ?_)
    exact xr_iret (pc := 202) X (Nat.le_of_ble_eq_true rfl) (Nat.le_of_ble_eq_true rfl) dX3_attempt_202
  refine xr_iconst (pc := 12) X dX3_attempt_12 (v := (-1)) (by decide) ?_
  exact xr_iret (pc := 13) X (Nat.le_of_ble_eq_true rfl) (Nat.le_of_ble_eq_true rfl) dX3_attempt_13
def L_X3_hasPlannedFor_2 (oo0 : Nat) (pp1 : Int32) (KK2 : xS → Option (Int32 × xS)) (KK5 : xS → Option (Int32 × xS)) : Nat → Int32 → xS → Option (Int32 × xS)
  | 0, _, _ => none
  | nn_9 + 1, zz7, σ8 => if (σ8 (oo0 + 2) 3) ≤ zz7 then (KK5 σ8)
 else (xbI (F_X0_writerAt 8 (oo0 + 2) zz7 σ8) (fun (zz12 : Int32) (σ11 : xS) => if ¬ zz12 = pp1 then (xlet (zz7 + 1) (fun (zz13 : Int32) => L_X3_hasPlannedFor_2 oo0 pp1 KK2 KK5 nn_9 zz13 σ11))
 else (KK2 σ11)))
def F_X3_hasPlannedFor (oo0 : Nat) (pp1 : Int32) (σ : xS) : Option (Int32 × xS) :=
  L_X3_hasPlannedFor_2 oo0 pp1 (fun (σ1 : xS) => some ((1 : Int32), σ1)) (fun (σ4 : xS) => some ((0 : Int32), σ4)) 1000 0 σ
abbrev rm_X3_hasPlannedFor : Room := { frames := 1, cells := 0, slots := 0, locals := 21 }
set_option maxHeartbeats 4000000 in
set_option maxRecDepth 100000 in
theorem c_X3_hasPlannedFor (l : Launch) {D : va_G} {ad : Nat → Nat} {N : Nat} {Sh : xSh} (hI : ∀ i j, i < N → j < N → ad i = ad j → i = j) (oo0 : Nat) (hh0 : xIs3 D ad N Sh oo0) (pp1 : Int32) (σ : xS) : xKI l yX3_hasPlannedFor (Cond.code yX3_hasPlannedFor cX3_hasPlannedFor 3 (some .boolean) :: wG) rm_X3_hasPlannedFor 0 0 D ad N Sh [.ref (ad oo0), .int pp1] σ (F_X3_hasPlannedFor oo0 pp1 σ) := by
  refine x_startI (own := RX3) (maxL := 3) (by decide) rfl rfl (Nat.le_of_ble_eq_true rfl) rfl hI (fun Γ hl hnL X => ?_)
  subst hl
  unfold F_X3_hasPlannedFor
  refine xr_iconst (pc := 0) X dX3_hasPlannedFor_0 (v := 0) (by decide) ?_
  refine xr_istore_n (pc := 1) X (hf := rfl) (i := 2) (lv2 := [(0, .ref (ad oo0)), (1, .int pp1), (2, .int 0)]) [1, 2, 0] (Nat.le_of_ble_eq_true rfl) hnL rfl dX3_hasPlannedFor_1 ?_
  have hLL14 : ∀ (KK2 : xS → Option (Int32 × xS)) (KK5 : xS → Option (Int32 × xS)) (hKK3 : ∀ σ1, xM Γ D ad N Sh (xQI Γ D ad N Sh 0 0) 0 0 (KK2 σ1) σ1 25 [] []) (hKK6 : ∀ σ4, xM Γ D ad N Sh (xQI Γ D ad N Sh 0 0) 0 0 (KK5 σ4) σ4 33 [] []), ∀ (nn_9 : Nat) zz7 σ8, xM Γ D ad N Sh (xQI Γ D ad N Sh 0 0) 0 0 (L_X3_hasPlannedFor_2 oo0 pp1 KK2 KK5 nn_9 zz7 σ8) σ8 2 [(0, .ref (ad oo0)), (1, .int pp1), (2, .int zz7)] [] := by
    intro KK2 KK5 hKK3 hKK6 nn_9
    induction nn_9 with
    | zero => intro zz7 σ8; exact xM_none
    | succ nn_9 ihh10 =>
      intro zz7 σ8
      rw [L_X3_hasPlannedFor_2]
      refine xr_iload_n (pc := 2) X (i := 2) 2 rfl rfl dX3_hasPlannedFor_2 ?_
      refine xr_aload_n (pc := 3) X (i := 0) 0 rfl rfl dX3_hasPlannedFor_3 ?_
      refine xgX3 (pc := 4) X (oo0) hh0.1 3 wm_3_0 rfl rfl (by decide) rfl dX3_hasPlannedFor_4 ?_
      refine xgNX0 (pc := 7) X (oo0 + 2) hh0.2.2.1.1 3 24 rfl rfl rfl (by decide) rfl dX3_hasPlannedFor_7 ?_
      refine xr_icmp_ge (pc := 10) X 33 (by decide) dX3_hasPlannedFor_10 (fun _ => ?_) (fun _ => ?_)
      · exact x_sub [] rfl (hKK6  _)
      refine xr_aload_n (pc := 13) X (i := 0) 0 rfl rfl dX3_hasPlannedFor_13 ?_
      refine xgX3 (pc := 14) X (oo0) hh0.1 3 wm_3_0 rfl rfl (by decide) rfl dX3_hasPlannedFor_14 ?_
      refine xr_iload_n (pc := 17) X (i := 2) 2 rfl rfl dX3_hasPlannedFor_17 ?_
      refine xr_callVI (na := 1) (pc := 18) X (oo0 + 2) [.int zz7] _ (c_X0_writerAt Γ.2.1 hI 8 (oo0 + 2) hh0.2.2.1 zz7 σ8) (wG_V wm_11_20 wm_11_17 wm_11_18 wm_11_19 wm_2_23) rfl rfl rfl (by decide +kernel) ⟨Nat.le_of_ble_eq_true rfl, Nat.le_of_ble_eq_true rfl⟩ hh0.2.2.1.1.1 hh0.2.2.1.1.2 rfl (T := TX0) (C := RX0) rfl rfl rfl (Nat.le_of_ble_eq_true rfl) ⟨Nat.le_of_ble_eq_true rfl, Nat.le_of_ble_eq_true rfl⟩ dX3_hasPlannedFor_18 (fun zz12 σ11 => ?_)
      refine xr_iload_n (pc := 21) X (i := 1) 1 rfl rfl dX3_hasPlannedFor_21 ?_
      refine xr_icmp_ne (pc := 22) X 27 (by decide) dX3_hasPlannedFor_22 (fun _ => ?_) (fun _ => ?_)
      · refine xr_iinc (pc := 27) X (i := 2) (j := 2) [1, 2, 0] (Nat.le_of_ble_eq_true rfl) hnL rfl rfl (fun zz13 => [(0, .ref (ad oo0)), (1, .int pp1), (2, .int zz13)]) (fun _ => rfl) dX3_hasPlannedFor_27 (fun zz13 => ?_)
        refine xr_goto (pc := 30) X 2 (by decide) dX3_hasPlannedFor_30 ?_
        exact ihh10 _ _
      exact x_sub [] rfl (hKK3  _)
  refine hLL14 _ _ (fun σ1 => ?_) (fun σ4 => ?_) _ _ _
  · refine xr_iconst (pc := 25) X dX3_hasPlannedFor_25 (v := 1) (by decide) ?_
    exact xr_zret (pc := 26) X rfl (Nat.le_of_ble_eq_true rfl) (Nat.le_of_ble_eq_true rfl) dX3_hasPlannedFor_26
  refine xr_iconst (pc := 33) X dX3_hasPlannedFor_33 (v := 0) (by decide) ?_
  exact xr_zret (pc := 34) X rfl (Nat.le_of_ble_eq_true rfl) (Nat.le_of_ble_eq_true rfl) dX3_hasPlannedFor_34
def F_X3_isDone (oo0 : Nat) (pp1 : Int32) (σ : xS) : Option (Int32 × xS) :=
  if xin pp1 4 = true then (if ¬ (σ (oo0 + 7 + 9 * pp1.toNatClampNeg) 2) = 0 then (some ((0 : Int32), σ))
 else (if xin pp1 4 = true then (if ¬ (σ ((oo0 + 7 + 9 * pp1.toNatClampNeg) + 1) 3) = 0 then (some ((0 : Int32), σ))
 else (xbI (F_X3_hasPlannedFor oo0 pp1 σ) (fun (zz4 : Int32) (σ3 : xS) => if ¬ zz4 = 0 then (some ((0 : Int32), σ3))
 else (some ((1 : Int32), σ3))))) else none)) else none
abbrev rm_X3_isDone : Room := { frames := 2, cells := 0, slots := 0, locals := 43 }
set_option maxHeartbeats 4000000 in
set_option maxRecDepth 100000 in
theorem c_X3_isDone (l : Launch) {D : va_G} {ad : Nat → Nat} {N : Nat} {Sh : xSh} (hI : ∀ i j, i < N → j < N → ad i = ad j → i = j) (oo0 : Nat) (hh0 : xIs3 D ad N Sh oo0) (pp1 : Int32) (σ : xS) : xKI l yX3_isDone (Cond.code yX3_isDone cX3_isDone 2 (some .boolean) :: wG) rm_X3_isDone 0 0 D ad N Sh [.ref (ad oo0), .int pp1] σ (F_X3_isDone oo0 pp1 σ) := by
  refine x_startI (own := RX3) (maxL := 2) (by decide) rfl rfl (Nat.le_of_ble_eq_true rfl) rfl hI (fun Γ hl hnL X => ?_)
  subst hl
  unfold F_X3_isDone
  refine xr_aload_n (pc := 0) X (i := 0) 0 rfl rfl dX3_isDone_0 ?_
  refine xgX3 (pc := 1) X (oo0) hh0.1 4 wm_3_2 rfl rfl (by decide) rfl dX3_isDone_1 ?_
  refine xr_iload_n (pc := 4) X (i := 1) 1 rfl rfl dX3_isDone_4 ?_
  refine xr_aldPair (pc := 5) X (oo0 + 6) 4 (fun j => oo0 + 7 + 9 * j) hh0.2.2.2.1.1 hh0.2.2.2.1.2 (fun _ hj => if_pos hj) dX3_isDone_5 (fun haa1 => ?_)
  refine xgNX2 (pc := 6) X (oo0 + 7 + 9 * pp1.toNatClampNeg) ((hh0.2.2.2.2 _ (xin_lt haa1)).1) 2 19 rfl rfl rfl (by decide) rfl dX3_isDone_6 ?_
  refine xr_if_ne (pc := 9) X 39 (by decide) dX3_isDone_9 (fun _ => ?_) (fun _ => ?_)
  · refine xr_iconst (pc := 39) X dX3_isDone_39 (v := 0) (by decide) ?_
    exact xr_zret (pc := 40) X rfl (Nat.le_of_ble_eq_true rfl) (Nat.le_of_ble_eq_true rfl) dX3_isDone_40
  refine xr_aload_n (pc := 12) X (i := 0) 0 rfl rfl dX3_isDone_12 ?_
  refine xgX3 (pc := 13) X (oo0) hh0.1 4 wm_3_2 rfl rfl (by decide) rfl dX3_isDone_13 ?_
  refine xr_iload_n (pc := 16) X (i := 1) 1 rfl rfl dX3_isDone_16 ?_
  refine xr_aldPair (pc := 17) X (oo0 + 6) 4 (fun j => oo0 + 7 + 9 * j) hh0.2.2.2.1.1 hh0.2.2.2.1.2 (fun _ hj => if_pos hj) dX3_isDone_17 (fun haa2 => ?_)
  refine xgNX2 (pc := 18) X (oo0 + 7 + 9 * pp1.toNatClampNeg) ((hh0.2.2.2.2 _ (xin_lt haa2)).1) 1 21 rfl rfl rfl (by decide) rfl dX3_isDone_18 ?_
  refine xgNX0 (pc := 21) X ((oo0 + 7 + 9 * pp1.toNatClampNeg) + 1) ((hh0.2.2.2.2 _ (xin_lt haa2)).2.1.1) 3 24 rfl rfl rfl (by decide) rfl dX3_isDone_21 ?_
  refine xr_if_ne (pc := 24) X 39 (by decide) dX3_isDone_24 (fun _ => ?_) (fun _ => ?_)
  · refine xr_iconst (pc := 39) X dX3_isDone_39 (v := 0) (by decide) ?_
    exact xr_zret (pc := 40) X rfl (Nat.le_of_ble_eq_true rfl) (Nat.le_of_ble_eq_true rfl) dX3_isDone_40
  refine xr_aload_n (pc := 27) X (i := 0) 0 rfl rfl dX3_isDone_27 ?_
  refine xr_iload_n (pc := 28) X (i := 1) 1 rfl rfl dX3_isDone_28 ?_
  refine xr_callVI (na := 1) (pc := 29) X (oo0) [.int pp1] _ (c_X3_hasPlannedFor Γ.2.1 hI oo0 hh0 pp1 σ) (wG_V wm_20_1 wm_19_22 wm_19_23 wm_20_0 wm_1_16) rfl rfl rfl (by decide +kernel) ⟨Nat.le_of_ble_eq_true rfl, Nat.le_of_ble_eq_true rfl⟩ hh0.1.1 hh0.1.2 rfl (T := TX3) (C := RX3) rfl rfl rfl (Nat.le_of_ble_eq_true rfl) ⟨Nat.le_of_ble_eq_true rfl, Nat.le_of_ble_eq_true rfl⟩ dX3_isDone_29 (fun zz4 σ3 => ?_)
  refine xr_if_ne (pc := 32) X 39 (by decide) dX3_isDone_32 (fun _ => ?_) (fun _ => ?_)
  · refine xr_iconst (pc := 39) X dX3_isDone_39 (v := 0) (by decide) ?_
    exact xr_zret (pc := 40) X rfl (Nat.le_of_ble_eq_true rfl) (Nat.le_of_ble_eq_true rfl) dX3_isDone_40
  refine xr_iconst (pc := 35) X dX3_isDone_35 (v := 1) (by decide) ?_
  refine xr_goto (pc := 36) X 40 (by decide) dX3_isDone_36 ?_
  exact xr_zret (pc := 40) X rfl (Nat.le_of_ble_eq_true rfl) (Nat.le_of_ble_eq_true rfl) dX3_isDone_40
def L_X3_ticksUntilDone_2 (oo0 : Nat) (pp1 : Int32) (pp2 : Int32) (KK3 : Int32 → xS → Option (Int32 × xS)) (KK6 : xS → Option (Int32 × xS)) : Nat → Int32 → xS → Option (Int32 × xS)
  | 0, _, _ => none
  | nn_10 + 1, zz8, σ9 => if pp2 < zz8 then (KK6 σ9)
 else (xbI (F_X3_isDone oo0 pp1 σ9) (fun (zz13 : Int32) (σ12 : xS) => if zz13 = 0 then (xbI (F_X3_passTicks oo0 1 pp1 (pp1 + 1) σ12) (fun (zz15 : Int32) (σ14 : xS) => xlet (zz8 + 1) (fun (zz16 : Int32) => L_X3_ticksUntilDone_2 oo0 pp1 pp2 KK3 KK6 nn_10 zz16 σ14)))
 else (KK3 zz8 σ12)))
def F_X3_ticksUntilDone (oo0 : Nat) (pp1 : Int32) (pp2 : Int32) (σ : xS) : Option (Int32 × xS) :=
  L_X3_ticksUntilDone_2 oo0 pp1 pp2 (fun (zz1 : Int32) (σ2 : xS) => some (zz1, σ2)) (fun (σ5 : xS) => some ((-1 : Int32), σ5)) 1000 0 σ
abbrev rm_X3_ticksUntilDone : Room := { frames := 4, cells := 0, slots := 0, locals := 101 }
set_option maxHeartbeats 4000000 in
set_option maxRecDepth 100000 in
theorem c_X3_ticksUntilDone (l : Launch) {D : va_G} {ad : Nat → Nat} {N : Nat} {Sh : xSh} (hI : ∀ i j, i < N → j < N → ad i = ad j → i = j) (oo0 : Nat) (hh0 : xIs3 D ad N Sh oo0) (pp1 : Int32) (pp2 : Int32) (σ : xS) : xKI l yX3_ticksUntilDone (Cond.code yX3_ticksUntilDone cX3_ticksUntilDone 4 (some .int) :: wG) rm_X3_ticksUntilDone 0 0 D ad N Sh [.ref (ad oo0), .int pp1, .int pp2] σ (F_X3_ticksUntilDone oo0 pp1 pp2 σ) := by
  refine x_startI (own := RX3) (maxL := 4) (by decide) rfl rfl (Nat.le_of_ble_eq_true rfl) rfl hI (fun Γ hl hnL X => ?_)
  subst hl
  unfold F_X3_ticksUntilDone
  refine xr_iconst (pc := 0) X dX3_ticksUntilDone_0 (v := 0) (by decide) ?_
  refine xr_istore_n (pc := 1) X (hf := rfl) (i := 3) (lv2 := [(0, .ref (ad oo0)), (1, .int pp1), (2, .int pp2), (3, .int 0)]) [1, 2, 3, 0] (Nat.le_of_ble_eq_true rfl) hnL rfl dX3_ticksUntilDone_1 ?_
  have hLL17 : ∀ (KK3 : Int32 → xS → Option (Int32 × xS)) (KK6 : xS → Option (Int32 × xS)) (hKK4 : ∀ zz1 σ2, xM Γ D ad N Sh (xQI Γ D ad N Sh 0 0) 0 0 (KK3 zz1 σ2) σ2 15 [(3, .int zz1)] []) (hKK7 : ∀ σ5, xM Γ D ad N Sh (xQI Γ D ad N Sh 0 0) 0 0 (KK6 σ5) σ5 33 [] []), ∀ (nn_10 : Nat) zz8 σ9, xM Γ D ad N Sh (xQI Γ D ad N Sh 0 0) 0 0 (L_X3_ticksUntilDone_2 oo0 pp1 pp2 KK3 KK6 nn_10 zz8 σ9) σ9 2 [(0, .ref (ad oo0)), (1, .int pp1), (2, .int pp2), (3, .int zz8)] [] := by
    intro KK3 KK6 hKK4 hKK7 nn_10
    induction nn_10 with
    | zero => intro zz8 σ9; exact xM_none
    | succ nn_10 ihh11 =>
      intro zz8 σ9
      rw [L_X3_ticksUntilDone_2]
      refine xr_iload_n (pc := 2) X (i := 3) 3 rfl rfl dX3_ticksUntilDone_2 ?_
      refine xr_iload_n (pc := 3) X (i := 2) 2 rfl rfl dX3_ticksUntilDone_3 ?_
      refine xr_icmp_gt (pc := 4) X 33 (by decide) dX3_ticksUntilDone_4 (fun _ => ?_) (fun _ => ?_)
      · exact x_sub [] rfl (hKK7  _)
      refine xr_aload_n (pc := 7) X (i := 0) 0 rfl rfl dX3_ticksUntilDone_7 ?_
      refine xr_iload_n (pc := 8) X (i := 1) 1 rfl rfl dX3_ticksUntilDone_8 ?_
      refine xr_callVI (na := 1) (pc := 9) X (oo0) [.int pp1] _ (c_X3_isDone Γ.2.1 hI oo0 hh0 pp1 σ9) (wG_V wm_19_21 wm_19_18 wm_19_19 wm_19_20 wm_1_16) rfl rfl rfl (by decide +kernel) ⟨Nat.le_of_ble_eq_true rfl, Nat.le_of_ble_eq_true rfl⟩ hh0.1.1 hh0.1.2 rfl (T := TX3) (C := RX3) rfl rfl rfl (Nat.le_of_ble_eq_true rfl) ⟨Nat.le_of_ble_eq_true rfl, Nat.le_of_ble_eq_true rfl⟩ dX3_ticksUntilDone_9 (fun zz13 σ12 => ?_)
      refine xr_if_eq (pc := 12) X 17 (by decide) dX3_ticksUntilDone_12 (fun _ => ?_) (fun _ => ?_)
      · refine xr_aload_n (pc := 17) X (i := 0) 0 rfl rfl dX3_ticksUntilDone_17 ?_
        refine xr_iconst (pc := 18) X dX3_ticksUntilDone_18 (v := 1) (by decide) ?_
        refine xr_iload_n (pc := 19) X (i := 1) 1 rfl rfl dX3_ticksUntilDone_19 ?_
        refine xr_iload_n (pc := 20) X (i := 1) 1 rfl rfl dX3_ticksUntilDone_20 ?_
        refine xr_iconst (pc := 21) X dX3_ticksUntilDone_21 (v := 1) (by decide) ?_
        refine xr_iadd (pc := 22) X dX3_ticksUntilDone_22 ?_
        refine xr_callVI (na := 3) (pc := 23) X (oo0) [.int 1, .int pp1, .int (pp1 + 1)] _ (c_X3_passTicks Γ.2.1 hI oo0 hh0 1 pp1 (pp1 + 1) σ12) (wG_V wm_11_10 wm_11_7 wm_11_8 wm_11_9 wm_1_16) rfl rfl rfl (by decide +kernel) ⟨Nat.le_of_ble_eq_true rfl, Nat.le_of_ble_eq_true rfl⟩ hh0.1.1 hh0.1.2 rfl (T := TX3) (C := RX3) rfl rfl rfl (Nat.le_of_ble_eq_true rfl) ⟨Nat.le_of_ble_eq_true rfl, Nat.le_of_ble_eq_true rfl⟩ dX3_ticksUntilDone_23 (fun zz15 σ14 => ?_)
        refine xr_pop (pc := 26) X rfl dX3_ticksUntilDone_26 ?_
        refine xr_iinc (pc := 27) X (i := 3) (j := 3) [1, 2, 3, 0] (Nat.le_of_ble_eq_true rfl) hnL rfl rfl (fun zz16 => [(0, .ref (ad oo0)), (1, .int pp1), (2, .int pp2), (3, .int zz16)]) (fun _ => rfl) dX3_ticksUntilDone_27 (fun zz16 => ?_)
        refine xr_goto (pc := 30) X 2 (by decide) dX3_ticksUntilDone_30 ?_
        exact ihh11 _ _
      exact x_sub [3] rfl (hKK4 _ _)
  refine hLL17 _ _ (fun zz1 σ2 => ?_) (fun σ5 => ?_) _ _ _
  · refine xr_iload_n (pc := 15) X (i := 3) 0 rfl rfl dX3_ticksUntilDone_15 ?_
    exact xr_iret (pc := 16) X (Nat.le_of_ble_eq_true rfl) (Nat.le_of_ble_eq_true rfl) dX3_ticksUntilDone_16
  refine xr_iconst (pc := 33) X dX3_ticksUntilDone_33 (v := (-1)) (by decide) ?_
  exact xr_iret (pc := 34) X (Nat.le_of_ble_eq_true rfl) (Nat.le_of_ble_eq_true rfl) dX3_ticksUntilDone_34
def L_X3_ticksUntilThere_2 (oo0 : Nat) (pp1 : Int32) (pp2 : Int32) (KK3 : Int32 → xS → Option (Int32 × xS)) (KK6 : xS → Option (Int32 × xS)) : Nat → Int32 → xS → Option (Int32 × xS)
  | 0, _, _ => none
  | nn_10 + 1, zz8, σ9 => if 400 < zz8 then (KK6 σ9)
 else (if xin pp1 4 = true then (if (σ9 (oo0 + 7 + 9 * pp1.toNatClampNeg) 9) < pp2 then (xbI (F_X3_passTicks oo0 1 pp1 (pp1 + 1) σ9) (fun (zz14 : Int32) (σ13 : xS) => xlet (zz8 + 1) (fun (zz15 : Int32) => L_X3_ticksUntilThere_2 oo0 pp1 pp2 KK3 KK6 nn_10 zz15 σ13)))
 else (KK3 zz8 σ9)) else none)
def F_X3_ticksUntilThere (oo0 : Nat) (pp1 : Int32) (pp2 : Int32) (σ : xS) : Option (Int32 × xS) :=
  L_X3_ticksUntilThere_2 oo0 pp1 pp2 (fun (zz1 : Int32) (σ2 : xS) => some (zz1, σ2)) (fun (σ5 : xS) => some ((-1 : Int32), σ5)) 1000 0 σ
abbrev rm_X3_ticksUntilThere : Room := { frames := 4, cells := 0, slots := 0, locals := 101 }
set_option maxHeartbeats 4000000 in
set_option maxRecDepth 100000 in
theorem c_X3_ticksUntilThere (l : Launch) {D : va_G} {ad : Nat → Nat} {N : Nat} {Sh : xSh} (hI : ∀ i j, i < N → j < N → ad i = ad j → i = j) (oo0 : Nat) (hh0 : xIs3 D ad N Sh oo0) (pp1 : Int32) (pp2 : Int32) (σ : xS) : xKI l yX3_ticksUntilThere (Cond.code yX3_ticksUntilThere cX3_ticksUntilThere 4 (some .int) :: wG) rm_X3_ticksUntilThere 0 0 D ad N Sh [.ref (ad oo0), .int pp1, .int pp2] σ (F_X3_ticksUntilThere oo0 pp1 pp2 σ) := by
  refine x_startI (own := RX3) (maxL := 4) (by decide) rfl rfl (Nat.le_of_ble_eq_true rfl) rfl hI (fun Γ hl hnL X => ?_)
  subst hl
  unfold F_X3_ticksUntilThere
  refine xr_iconst (pc := 0) X dX3_ticksUntilThere_0 (v := 0) (by decide) ?_
  refine xr_istore_n (pc := 1) X (hf := rfl) (i := 3) (lv2 := [(0, .ref (ad oo0)), (1, .int pp1), (2, .int pp2), (3, .int 0)]) [1, 2, 3, 0] (Nat.le_of_ble_eq_true rfl) hnL rfl dX3_ticksUntilThere_1 ?_
  have hLL16 : ∀ (KK3 : Int32 → xS → Option (Int32 × xS)) (KK6 : xS → Option (Int32 × xS)) (hKK4 : ∀ zz1 σ2, xM Γ D ad N Sh (xQI Γ D ad N Sh 0 0) 0 0 (KK3 zz1 σ2) σ2 22 [(3, .int zz1)] []) (hKK7 : ∀ σ5, xM Γ D ad N Sh (xQI Γ D ad N Sh 0 0) 0 0 (KK6 σ5) σ5 40 [] []), ∀ (nn_10 : Nat) zz8 σ9, xM Γ D ad N Sh (xQI Γ D ad N Sh 0 0) 0 0 (L_X3_ticksUntilThere_2 oo0 pp1 pp2 KK3 KK6 nn_10 zz8 σ9) σ9 2 [(0, .ref (ad oo0)), (1, .int pp1), (2, .int pp2), (3, .int zz8)] [] := by
    intro KK3 KK6 hKK4 hKK7 nn_10
    induction nn_10 with
    | zero => intro zz8 σ9; exact xM_none
    | succ nn_10 ihh11 =>
      intro zz8 σ9
      rw [L_X3_ticksUntilThere_2]
      refine xr_iload_n (pc := 2) X (i := 3) 3 rfl rfl dX3_ticksUntilThere_2 ?_
      refine xr_sipush (pc := 3) X dX3_ticksUntilThere_3 (v := 400) (by decide) ?_
      refine xr_icmp_gt (pc := 6) X 40 (by decide) dX3_ticksUntilThere_6 (fun _ => ?_) (fun _ => ?_)
      · exact x_sub [] rfl (hKK7  _)
      refine xr_aload_n (pc := 9) X (i := 0) 0 rfl rfl dX3_ticksUntilThere_9 ?_
      refine xgX3 (pc := 10) X (oo0) hh0.1 4 wm_3_2 rfl rfl (by decide) rfl dX3_ticksUntilThere_10 ?_
      refine xr_iload_n (pc := 13) X (i := 1) 1 rfl rfl dX3_ticksUntilThere_13 ?_
      refine xr_aldPair (pc := 14) X (oo0 + 6) 4 (fun j => oo0 + 7 + 9 * j) hh0.2.2.2.1.1 hh0.2.2.2.1.2 (fun _ hj => if_pos hj) dX3_ticksUntilThere_14 (fun haa12 => ?_)
      refine xgNX2 (pc := 15) X (oo0 + 7 + 9 * pp1.toNatClampNeg) ((hh0.2.2.2.2 _ (xin_lt haa12)).1) 9 22 rfl rfl rfl (by decide) rfl dX3_ticksUntilThere_15 ?_
      refine xr_iload_n (pc := 18) X (i := 2) 2 rfl rfl dX3_ticksUntilThere_18 ?_
      refine xr_icmp_lt (pc := 19) X 24 (by decide) dX3_ticksUntilThere_19 (fun _ => ?_) (fun _ => ?_)
      · refine xr_aload_n (pc := 24) X (i := 0) 0 rfl rfl dX3_ticksUntilThere_24 ?_
        refine xr_iconst (pc := 25) X dX3_ticksUntilThere_25 (v := 1) (by decide) ?_
        refine xr_iload_n (pc := 26) X (i := 1) 1 rfl rfl dX3_ticksUntilThere_26 ?_
        refine xr_iload_n (pc := 27) X (i := 1) 1 rfl rfl dX3_ticksUntilThere_27 ?_
        refine xr_iconst (pc := 28) X dX3_ticksUntilThere_28 (v := 1) (by decide) ?_
        refine xr_iadd (pc := 29) X dX3_ticksUntilThere_29 ?_
        refine xr_callVI (na := 3) (pc := 30) X (oo0) [.int 1, .int pp1, .int (pp1 + 1)] _ (c_X3_passTicks Γ.2.1 hI oo0 hh0 1 pp1 (pp1 + 1) σ9) (wG_V wm_11_10 wm_11_7 wm_11_8 wm_11_9 wm_1_16) rfl rfl rfl (by decide +kernel) ⟨Nat.le_of_ble_eq_true rfl, Nat.le_of_ble_eq_true rfl⟩ hh0.1.1 hh0.1.2 rfl (T := TX3) (C := RX3) rfl rfl rfl (Nat.le_of_ble_eq_true rfl) ⟨Nat.le_of_ble_eq_true rfl, Nat.le_of_ble_eq_true rfl⟩ dX3_ticksUntilThere_30 (fun zz14 σ13 => ?_)
        refine xr_pop (pc := 33) X rfl dX3_ticksUntilThere_33 ?_
        refine xr_iinc (pc := 34) X (i := 3) (j := 3) [1, 2, 3, 0] (Nat.le_of_ble_eq_true rfl) hnL rfl rfl (fun zz15 => [(0, .ref (ad oo0)), (1, .int pp1), (2, .int pp2), (3, .int zz15)]) (fun _ => rfl) dX3_ticksUntilThere_34 (fun zz15 => ?_)
        refine xr_goto (pc := 37) X 2 (by decide) dX3_ticksUntilThere_37 ?_
        exact ihh11 _ _
      exact x_sub [3] rfl (hKK4 _ _)
  refine hLL16 _ _ (fun zz1 σ2 => ?_) (fun σ5 => ?_) _ _ _
  · refine xr_iload_n (pc := 22) X (i := 3) 0 rfl rfl dX3_ticksUntilThere_22 ?_
    exact xr_iret (pc := 23) X (Nat.le_of_ble_eq_true rfl) (Nat.le_of_ble_eq_true rfl) dX3_ticksUntilThere_23
  refine xr_iconst (pc := 40) X dX3_ticksUntilThere_40 (v := (-1)) (by decide) ?_
  exact xr_iret (pc := 41) X (Nat.le_of_ble_eq_true rfl) (Nat.le_of_ble_eq_true rfl) dX3_ticksUntilThere_41
