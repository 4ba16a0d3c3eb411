def F_X6_thrown (oo0 : Nat) (σ : xS) : Option (Int32 × xS) :=
  some ((σ oo0 0), σ)
abbrev rm_X6_thrown : Room := { frames := 0, cells := 0, slots := 0, locals := 0 }
set_option maxHeartbeats 4000000 in
set_option maxRecDepth 100000 in
theorem c_X6_thrown (l : Launch) {D : va_G} {ad : Nat → Nat} {N : Nat} {Sh : xSh} (hI : ∀ i j, i < N → j < N → ad i = ad j → i = j) (oo0 : Nat) (hh0 : xIs6 D ad N Sh oo0) (σ : xS) : xKI l yX6_thrown (Cond.code yX6_thrown cX6_thrown 1 (some .int) :: wG) rm_X6_thrown 0 0 D ad N Sh [.ref (ad oo0)] σ (F_X6_thrown oo0 σ) := by
  refine x_startI (own := RX6) (maxL := 1) (by decide) rfl rfl (Nat.le_of_ble_eq_true rfl) rfl hI (fun Γ hl hnL X => ?_)
  subst hl
  unfold F_X6_thrown
  refine xr_aload_n (pc := 0) X (i := 0) 0 rfl rfl dX6_thrown_0 ?_
  refine xgX6 (pc := 1) X (oo0) hh0.1 0 wm_8_6 rfl rfl (by decide) rfl dX6_thrown_1 ?_
  exact xr_iret (pc := 4) X (Nat.le_of_ble_eq_true rfl) (Nat.le_of_ble_eq_true rfl) dX6_thrown_4
def F_X6_refused (oo0 : Nat) (pp1 : Int32) (σ : xS) : Option (Int32 × xS) :=
  xlet (xu σ oo0 0 pp1) (fun (σ1 : xS) => if pp1 ≤ 0 then (some ((0 : Int32), σ1))
 else (some ((1 : Int32), σ1)))
abbrev rm_X6_refused : Room := { frames := 0, cells := 0, slots := 0, locals := 0 }
set_option maxHeartbeats 4000000 in
set_option maxRecDepth 100000 in
theorem c_X6_refused (l : Launch) {D : va_G} {ad : Nat → Nat} {N : Nat} {Sh : xSh} (hI : ∀ i j, i < N → j < N → ad i = ad j → i = j) (oo0 : Nat) (hh0 : xIs6 D ad N Sh oo0) (pp1 : Int32) (σ : xS) : xKI l yX6_refused (Cond.code yX6_refused cX6_refused 2 (some .boolean) :: wG) rm_X6_refused 0 0 D ad N Sh [.ref (ad oo0), .int pp1] σ (F_X6_refused oo0 pp1 σ) := by
  refine x_startI (own := RX6) (maxL := 2) (by decide) rfl rfl (Nat.le_of_ble_eq_true rfl) rfl hI (fun Γ hl hnL X => ?_)
  subst hl
  unfold F_X6_refused
  refine xr_aload_n (pc := 0) X (i := 0) 0 rfl rfl dX6_refused_0 ?_
  refine xr_iload_n (pc := 1) X (i := 1) 1 rfl rfl dX6_refused_1 ?_
  refine xpX6 (pc := 2) X (oo0) hh0.1 0 wm_8_6 (ty := .int) rfl (fun _ => rfl) rfl (by decide +kernel) rfl rfl (Nat.le_of_ble_eq_true rfl) (by decide) rfl dX6_refused_2 (fun σ1 => ?_)
  refine xr_iload_n (pc := 5) X (i := 1) 1 rfl rfl dX6_refused_5 ?_
  refine xr_if_le (pc := 6) X 13 (by decide) dX6_refused_6 (fun _ => ?_) (fun _ => ?_)
  · refine xr_iconst (pc := 13) X dX6_refused_13 (v := 0) (by decide) ?_
    exact xr_zret (pc := 14) X rfl (Nat.le_refl _) (Nat.le_refl _) dX6_refused_14
  refine xr_iconst (pc := 9) X dX6_refused_9 (v := 1) (by decide) ?_
  refine xr_goto (pc := 10) X 14 (by decide) dX6_refused_10 ?_
  exact xr_zret (pc := 14) X rfl (Nat.le_refl _) (Nat.le_refl _) dX6_refused_14
def F_X6_append (oo0 : Nat) (pp1 : Int32) (σ : xS) : Option (Int32 × xS) :=
  xbI (F_X6_in pp1.toInt64 0 255 σ) (fun (zz2 : Int32) (σ1 : xS) => xjn (fun (zz3 : Int32) (σ4 : xS) => xbI (F_X6_refused oo0 zz3 σ4) (fun (zz6 : Int32) (σ5 : xS) => if zz6 = 0 then (if xin (σ5 oo0 2) 120 = true then (xlet (xu σ5 (oo0 + 1) (σ5 oo0 2).toNatClampNeg pp1) (fun (σ7 : xS) => xlet (xu σ7 oo0 2 ((σ7 oo0 2) + 1)) (fun (σ8 : xS) => some ((σ8 oo0 2), σ8)))) else none)
 else (some ((0 : Int32), σ5))))
 (fun (KK9 : Int32 → xS → Option (Int32 × xS)) => if ¬ zz2 = 0 then (if ¬ (σ1 oo0 2) = 120 then (KK9 0 σ1)
 else (KK9 2 σ1))
 else (KK9 1 σ1)))
abbrev rm_X6_append : Room := { frames := 1, cells := 0, slots := 0, locals := 25 }
set_option maxHeartbeats 4000000 in
set_option maxRecDepth 100000 in
theorem c_X6_append (l : Launch) {D : va_G} {ad : Nat → Nat} {N : Nat} {Sh : xSh} (hI : ∀ i j, i < N → j < N → ad i = ad j → i = j) (oo0 : Nat) (hh0 : xIs6 D ad N Sh oo0) (pp1 : Int32) (σ : xS) : xKI l yX6_append (Cond.code yX6_append cX6_append 2 (some .int) :: wG) rm_X6_append 0 0 D ad N Sh [.ref (ad oo0), .int pp1] σ (F_X6_append oo0 pp1 σ) := by
  refine x_startI (own := RX6) (maxL := 2) (by decide) rfl rfl (Nat.le_of_ble_eq_true rfl) rfl hI (fun Γ hl hnL X => ?_)
  subst hl
  unfold F_X6_append
  refine xr_aload_n (pc := 0) X (i := 0) 0 rfl rfl dX6_append_0 ?_
  refine xr_iload_n (pc := 1) X (i := 1) 1 rfl rfl dX6_append_1 ?_
  refine xr_i2l (pc := 2) X dX6_append_2 ?_
  refine xr_lconst (pc := 3) X dX6_append_3 (v := 0) rfl ?_
  refine xr_ldc2 (pc := 4) X dX6_append_4 (List.mem_cons_of_mem _ wm_7_21) ?_
  refine xr_callSI (na := 3) (pc := 7) X [.long pp1.toInt64, .long 0, .long 255] (c_X6_in Γ.2.1 hI pp1.toInt64 0 255 σ) (wG_S wm_8_1 wm_7_23 wm_8_0 wm_1_5) rfl rfl rfl (by decide +kernel) ⟨Nat.le_of_ble_eq_true rfl, Nat.le_of_ble_eq_true rfl⟩ rfl rfl (Nat.le_of_ble_eq_true rfl) ⟨Nat.le_of_ble_eq_true rfl, Nat.le_of_ble_eq_true rfl⟩ dX6_append_7 (fun zz2 σ1 => ?_)
  refine x_jn (fun (KK9 : Int32 → xS → Option (Int32 × xS)) => ∀ zz3 σ4, xM Γ D ad N Sh (xQI Γ D ad N Sh 0 0) 0 0 (KK9 zz3 σ4) σ4 31 [(0, .ref (ad oo0)), (1, .int pp1)] [.int zz3, .ref (ad oo0)]) (fun zz3 σ4 => ?_) (fun KK9 hKK10 => ?_)
  · refine xr_callVI (na := 1) (pc := 31) X (oo0) [.int zz3] _ (c_X6_refused Γ.2.1 hI oo0 hh0 zz3 σ4) (wG_V wm_8_5 wm_8_2 wm_8_3 wm_8_4 wm_1_5) rfl rfl rfl (by decide +kernel) ⟨Nat.le_of_ble_eq_true rfl, Nat.le_of_ble_eq_true rfl⟩ hh0.1.1 hh0.1.2 rfl (T := TX6) (C := RX6) rfl rfl rfl (Nat.le_of_ble_eq_true rfl) ⟨Nat.le_of_ble_eq_true rfl, Nat.le_of_ble_eq_true rfl⟩ dX6_append_31 (fun zz6 σ5 => ?_)
    refine xr_if_eq (pc := 34) X 39 (by decide) dX6_append_34 (fun _ => ?_) (fun _ => ?_)
    · refine xr_aload_n (pc := 39) X (i := 0) 0 rfl rfl dX6_append_39 ?_
      refine xgX6 (pc := 40) X (oo0) hh0.1 1 wm_5_20 rfl rfl (by decide) rfl dX6_append_40 ?_
      refine xr_aload_n (pc := 43) X (i := 0) 0 rfl rfl dX6_append_43 ?_
      refine xgX6 (pc := 44) X (oo0) hh0.1 2 wm_7_22 rfl rfl (by decide) rfl dX6_append_44 ?_
      refine xr_iload_n (pc := 47) X (i := 1) 1 rfl rfl dX6_append_47 ?_
      refine xr_iast (pc := 48) X (oo0 + 1) (120) hh0.2.1.1 hh0.2.1.2 dX6_append_48 (fun σ7 => ?_)
      refine xr_aload_n (pc := 49) X (i := 0) 0 rfl rfl dX6_append_49 ?_
      refine xr_dup (pc := 50) X rfl dX6_append_50 ?_
      refine xgX6 (pc := 51) X (oo0) hh0.1 2 wm_7_22 rfl rfl (by decide) rfl dX6_append_51 ?_
      refine xr_iconst (pc := 54) X dX6_append_54 (v := 1) (by decide) ?_
      refine xr_iadd (pc := 55) X dX6_append_55 ?_
      refine xpX6 (pc := 56) X (oo0) hh0.1 2 wm_7_22 (ty := .int) rfl (fun _ => rfl) rfl (by decide +kernel) rfl rfl (Nat.le_of_ble_eq_true rfl) (by decide) rfl dX6_append_56 (fun σ8 => ?_)
      refine xr_aload_n (pc := 59) X (i := 0) 0 rfl rfl dX6_append_59 ?_
      refine xgX6 (pc := 60) X (oo0) hh0.1 2 wm_7_22 rfl rfl (by decide) rfl dX6_append_60 ?_
      exact xr_iret (pc := 63) X (Nat.le_of_ble_eq_true rfl) (Nat.le_of_ble_eq_true rfl) dX6_append_63
    refine xr_iconst (pc := 37) X dX6_append_37 (v := 0) (by decide) ?_
    exact xr_iret (pc := 38) X (Nat.le_of_ble_eq_true rfl) (Nat.le_of_ble_eq_true rfl) dX6_append_38
  refine xr_if_ne (pc := 10) X 17 (by decide) dX6_append_10 (fun _ => ?_) (fun _ => ?_)
  · refine xr_aload_n (pc := 17) X (i := 0) 0 rfl rfl dX6_append_17 ?_
    refine xgX6 (pc := 18) X (oo0) hh0.1 2 wm_7_22 rfl rfl (by decide) rfl dX6_append_18 ?_
    refine xr_bipush (pc := 21) X dX6_append_21 (v := 120) (by decide) ?_
    refine xr_icmp_ne (pc := 23) X 30 (by decide) dX6_append_23 (fun _ => ?_) (fun _ => ?_)
    · refine xr_iconst (pc := 30) X dX6_append_30 (v := 0) (by decide) ?_
      exact hKK10 _ _
    refine xr_iconst (pc := 26) X dX6_append_26 (v := 2) (by decide) ?_
    refine xr_goto (pc := 27) X 31 (by decide) dX6_append_27 ?_
    exact hKK10 _ _
  refine xr_iconst (pc := 13) X dX6_append_13 (v := 1) (by decide) ?_
  refine xr_goto (pc := 14) X 31 (by decide) dX6_append_14 ?_
  exact hKK10 _ _
def F_X6_clearText (oo0 : Nat) (σ : xS) : Option (Int32 × xS) :=
  xlet (xu σ oo0 0 0) (fun (σ1 : xS) => xlet (σ1 oo0 2) (fun (zz2 : Int32) => xlet (xu σ1 oo0 2 0) (fun (σ3 : xS) => some (zz2, σ3))))
abbrev rm_X6_clearText : Room := { frames := 0, cells := 0, slots := 0, locals := 0 }
set_option maxHeartbeats 4000000 in
set_option maxRecDepth 100000 in
theorem c_X6_clearText (l : Launch) {D : va_G} {ad : Nat → Nat} {N : Nat} {Sh : xSh} (hI : ∀ i j, i < N → j < N → ad i = ad j → i = j) (oo0 : Nat) (hh0 : xIs6 D ad N Sh oo0) (σ : xS) : xKI l yX6_clearText (Cond.code yX6_clearText cX6_clearText 2 (some .int) :: wG) rm_X6_clearText 0 0 D ad N Sh [.ref (ad oo0)] σ (F_X6_clearText oo0 σ) := by
  refine x_startI (own := RX6) (maxL := 2) (by decide) rfl rfl (Nat.le_of_ble_eq_true rfl) rfl hI (fun Γ hl hnL X => ?_)
  subst hl
  unfold F_X6_clearText
  refine xr_aload_n (pc := 0) X (i := 0) 0 rfl rfl dX6_clearText_0 ?_
  refine xr_iconst (pc := 1) X dX6_clearText_1 (v := 0) (by decide) ?_
  refine xpX6 (pc := 2) X (oo0) hh0.1 0 wm_8_6 (ty := .int) rfl (fun _ => rfl) rfl (by decide +kernel) rfl rfl (Nat.le_of_ble_eq_true rfl) (by decide) rfl dX6_clearText_2 (fun σ1 => ?_)
  refine xr_aload_n (pc := 5) X (i := 0) 0 rfl rfl dX6_clearText_5 ?_
  refine xgX6 (pc := 6) X (oo0) hh0.1 2 wm_7_22 rfl rfl (by decide) rfl dX6_clearText_6 ?_
  refine x_leti (fun zz2 => ?_)
  refine xr_istore_n (pc := 9) X (hf := rfl) (i := 1) [1, 0] (Nat.le_of_ble_eq_true rfl) hnL rfl dX6_clearText_9 ?_
  refine xr_aload_n (pc := 10) X (i := 0) 0 rfl rfl dX6_clearText_10 ?_
  refine xr_iconst (pc := 11) X dX6_clearText_11 (v := 0) (by decide) ?_
  refine xpX6 (pc := 12) X (oo0) hh0.1 2 wm_7_22 (ty := .int) rfl (fun _ => rfl) rfl (by decide +kernel) rfl rfl (Nat.le_of_ble_eq_true rfl) (by decide) rfl dX6_clearText_12 (fun σ3 => ?_)
  refine xr_iload_n (pc := 15) X (i := 1) 1 rfl rfl dX6_clearText_15 ?_
  exact xr_iret (pc := 16) X (Nat.le_of_ble_eq_true rfl) (Nat.le_of_ble_eq_true rfl) dX6_clearText_16
def L_X6_figures_26 (oo0 : Nat) (pp1 : Int32) (pp3 : Int32) (pp4 : Int32) (KK4 : xS → Option (Int32 × xS)) (KK8 : Int32 → xS → Option (Int32 × xS)) : Nat → Int32 → Int32 → xS → Option (Int32 × xS)
  | 0, _, _, _ => none
  | nn_13 + 1, zz10, zz11, σ12 => if zz11 ≤ 0 then (KK8 zz10 σ12)
 else (if pp1 = ((-1)) then (KK8 zz10 σ12)
 else (xjn (fun (zz15 : Int32) (σ16 : xS) => xlet (zz10 + (zz15 * zz11)) (fun (zz17 : Int32) => xbI (F_X6_in zz15.toInt64 0 9 σ16) (fun (zz19 : Int32) (σ18 : xS) => if zz19 = 0 then (KK4 σ18)
 else (if pp4 < zz17 then (KK4 σ18)
 else (if pp3 ≤ ((zz17 + zz11) - 1) then (xlet (xu σ18 oo0 10 ((σ18 oo0 10) + 1)) (fun (σ20 : xS) => xlet (zz11 / 10) (fun (zz21 : Int32) => L_X6_figures_26 oo0 pp1 pp3 pp4 KK4 KK8 nn_13 zz17 zz21 σ20)))
 else (KK4 σ18))))))
 (fun (KK22 : Int32 → xS → Option (Int32 × xS)) => if (σ12 oo0 2) ≤ (σ12 oo0 10) then (KK22 ((-1)) σ12)
 else (if xin (σ12 oo0 10) 120 = true then (xlet (σ12 (oo0 + 1) (σ12 oo0 10).toNatClampNeg) (fun (zz24 : Int32) => KK22 (zz24 - 48) σ12)) else none))))
def F_X6_figures (oo0 : Nat) (pp1 : Int32) (pp2 : Int32) (pp3 : Int32) (pp4 : Int32) (σ : xS) : Option (Int32 × xS) :=
  xjn (fun (zz1 : Int32) (σ2 : xS) => L_X6_figures_26 oo0 pp1 pp3 pp4 (fun (σ3 : xS) => some ((-1 : Int32), σ3)) (fun (zz6 : Int32) (σ7 : xS) => if ¬ pp1 = ((-1)) then (some (zz6, σ7))
 else (some ((-1 : Int32), σ7))) 1000 0 zz1 σ2)
 (fun (KK26 : Int32 → xS → Option (Int32 × xS)) => if ¬ pp2 = 3 then (if ¬ pp2 = 2 then (KK26 1 σ)
 else (KK26 10 σ))
 else (KK26 100 σ))
abbrev rm_X6_figures : Room := { frames := 1, cells := 0, slots := 0, locals := 25 }
set_option maxHeartbeats 4000000 in
set_option maxRecDepth 100000 in
theorem c_X6_figures (l : Launch) {D : va_G} {ad : Nat → Nat} {N : Nat} {Sh : xSh} (hI : ∀ i j, i < N → j < N → ad i = ad j → i = j) (oo0 : Nat) (hh0 : xIs6 D ad N Sh oo0) (pp1 : Int32) (pp2 : Int32) (pp3 : Int32) (pp4 : Int32) (σ : xS) : xKI l yX6_figures (Cond.code yX6_figures cX6_figures 9 (some .int) :: wG) rm_X6_figures 0 0 D ad N Sh [.ref (ad oo0), .int pp1, .int pp2, .int pp3, .int pp4] σ (F_X6_figures oo0 pp1 pp2 pp3 pp4 σ) := by
  refine x_startI (own := RX6) (maxL := 9) (by decide) rfl rfl (Nat.le_of_ble_eq_true rfl) rfl hI (fun Γ hl hnL X => ?_)
  subst hl
  unfold F_X6_figures
  refine xr_iconst (pc := 0) X dX6_figures_0 (v := 0) (by decide) ?_
  refine xr_istore (pc := 1) X (i := 5) [1, 2, 3, 4, 5, 0] (Nat.le_of_ble_eq_true rfl) hnL rfl dX6_figures_1 ?_
  refine xr_iload_n (pc := 3) X (i := 2) 2 rfl rfl dX6_figures_3 ?_
  refine xr_iconst (pc := 4) X dX6_figures_4 (v := 3) (by decide) ?_
  refine x_jn (fun (KK26 : Int32 → xS → Option (Int32 × xS)) => ∀ zz1 σ2, xM Γ D ad N Sh (xQI Γ D ad N Sh 0 0) 0 0 (KK26 zz1 σ2) σ2 24 [(0, .ref (ad oo0)), (1, .int pp1), (3, .int pp3), (4, .int pp4), (5, .int 0)] [.int zz1]) (fun zz1 σ2 => ?_) (fun KK26 hKK27 => ?_)
  · refine xr_istore (pc := 24) X (i := 6) [1, 2, 3, 4, 5, 0] (Nat.le_of_ble_eq_true rfl) hnL rfl dX6_figures_24 ?_
    have hLL25 : ∀ (KK4 : xS → Option (Int32 × xS)) (KK8 : Int32 → xS → Option (Int32 × xS)) (hKK5 : ∀ σ3, xM Γ D ad N Sh (xQI Γ D ad N Sh 0 0) 0 0 (KK4 σ3) σ3 106 [] []) (hKK9 : ∀ zz6 σ7, xM Γ D ad N Sh (xQI Γ D ad N Sh 0 0) 0 0 (KK8 zz6 σ7) σ7 132 [(1, .int pp1), (5, .int zz6)] []), ∀ (nn_13 : Nat) zz10 zz11 σ12, xM Γ D ad N Sh (xQI Γ D ad N Sh 0 0) 0 0 (L_X6_figures_26 oo0 pp1 pp3 pp4 KK4 KK8 nn_13 zz10 zz11 σ12) σ12 26 [(0, .ref (ad oo0)), (1, .int pp1), (3, .int pp3), (4, .int pp4), (5, .int zz10), (6, .int zz11)] [] := by
      intro KK4 KK8 hKK5 hKK9 nn_13
      induction nn_13 with
      | zero => intro zz10 zz11 σ12; exact xM_none
      | succ nn_13 ihh14 =>
        intro zz10 zz11 σ12
        rw [L_X6_figures_26]
        refine xr_iload (pc := 26) X (i := 6) 5 rfl dX6_figures_26 ?_
        refine xr_if_le (pc := 28) X 132 (by decide) dX6_figures_28 (fun _ => ?_) (fun _ => ?_)
        · exact x_sub [1, 4] rfl (hKK9 _ _)
        refine xr_iload_n (pc := 31) X (i := 1) 1 rfl rfl dX6_figures_31 ?_
        refine xr_iconst (pc := 32) X dX6_figures_32 (v := (-1)) (by decide) ?_
        refine xr_icmp_eq (pc := 33) X 132 (by decide) dX6_figures_33 (fun _ => ?_) (fun _ => ?_)
        · exact x_sub [1, 4] rfl (hKK9 _ _)
        refine xr_aload_n (pc := 36) X (i := 0) 0 rfl rfl dX6_figures_36 ?_
        refine xgX6 (pc := 37) X (oo0) hh0.1 10 wm_10_20 rfl rfl (by decide) rfl dX6_figures_37 ?_
        refine xr_aload_n (pc := 40) X (i := 0) 0 rfl rfl dX6_figures_40 ?_
        refine xgX6 (pc := 41) X (oo0) hh0.1 2 wm_7_22 rfl rfl (by decide) rfl dX6_figures_41 ?_
        refine x_jn (fun (KK22 : Int32 → xS → Option (Int32 × xS)) => ∀ zz15 σ16, xM Γ D ad N Sh (xQI Γ D ad N Sh 0 0) 0 0 (KK22 zz15 σ16) σ16 63 [(0, .ref (ad oo0)), (1, .int pp1), (3, .int pp3), (4, .int pp4), (5, .int zz10), (6, .int zz11)] [.int zz15]) (fun zz15 σ16 => ?_) (fun KK22 hKK23 => ?_)
        · refine xr_istore (pc := 63) X (i := 7) [1, 2, 3, 4, 5, 6, 0] (Nat.le_of_ble_eq_true rfl) hnL rfl dX6_figures_63 ?_
          refine xr_iload (pc := 65) X (i := 5) 4 rfl dX6_figures_65 ?_
          refine xr_iload (pc := 67) X (i := 7) 6 rfl dX6_figures_67 ?_
          refine xr_iload (pc := 69) X (i := 6) 5 rfl dX6_figures_69 ?_
          refine xr_imul (pc := 71) X dX6_figures_71 ?_
          refine xr_iadd (pc := 72) X dX6_figures_72 ?_
          refine x_leti (fun zz17 => ?_)
          refine xr_istore (pc := 73) X (i := 8) [1, 2, 3, 4, 6, 7, 0] (Nat.le_of_ble_eq_true rfl) hnL rfl dX6_figures_73 ?_
          refine xr_iload (pc := 75) X (i := 7) 5 rfl dX6_figures_75 ?_
          refine xr_i2l (pc := 77) X dX6_figures_77 ?_
          refine xr_lconst (pc := 78) X dX6_figures_78 (v := 0) rfl ?_
          refine xr_ldc2 (pc := 79) X dX6_figures_79 (List.mem_cons_of_mem _ wm_11_1) ?_
          refine xr_callSI (na := 3) (pc := 82) X [.long zz15.toInt64, .long 0, .long 9] (c_X6_in Γ.2.1 hI zz15.toInt64 0 9 σ16) (wG_S wm_8_1 wm_7_23 wm_8_0 wm_1_5) rfl rfl rfl (by decide +kernel) ⟨Nat.le_of_ble_eq_true rfl, Nat.le_of_ble_eq_true rfl⟩ rfl rfl (Nat.le_of_ble_eq_true rfl) ⟨Nat.le_of_ble_eq_true rfl, Nat.le_of_ble_eq_true rfl⟩ dX6_figures_82 (fun zz19 σ18 => ?_)
          refine xr_if_eq (pc := 85) X 106 (by decide) dX6_figures_85 (fun _ => ?_) (fun _ => ?_)
          · exact x_sub [] rfl (hKK5  _)
          refine xr_iload (pc := 88) X (i := 8) 6 rfl dX6_figures_88 ?_
          refine xr_iload (pc := 90) X (i := 4) 3 rfl dX6_figures_90 ?_
          refine xr_icmp_gt (pc := 92) X 106 (by decide) dX6_figures_92 (fun _ => ?_) (fun _ => ?_)
          · exact x_sub [] rfl (hKK5  _)
          refine xr_iload (pc := 95) X (i := 8) 6 rfl dX6_figures_95 ?_
          refine xr_iload (pc := 97) X (i := 6) 4 rfl dX6_figures_97 ?_
          refine xr_iadd (pc := 99) X dX6_figures_99 ?_
          refine xr_iconst (pc := 100) X dX6_figures_100 (v := 1) (by decide) ?_
          refine xr_isub (pc := 101) X dX6_figures_101 ?_
          refine xr_iload_n (pc := 102) X (i := 3) 2 rfl rfl dX6_figures_102 ?_
          refine xr_icmp_ge (pc := 103) X 108 (by decide) dX6_figures_103 (fun _ => ?_) (fun _ => ?_)
          · refine xr_iload (pc := 108) X (i := 8) 6 rfl dX6_figures_108 ?_
            refine xr_istore (pc := 110) X (i := 5) [1, 2, 3, 4, 0, 5] (Nat.le_of_ble_eq_true rfl) hnL rfl dX6_figures_110 ?_
            refine xr_aload_n (pc := 112) X (i := 0) 0 rfl rfl dX6_figures_112 ?_
            refine xr_dup (pc := 113) X rfl dX6_figures_113 ?_
            refine xgX6 (pc := 114) X (oo0) hh0.1 10 wm_10_20 rfl rfl (by decide) rfl dX6_figures_114 ?_
            refine xr_iconst (pc := 117) X dX6_figures_117 (v := 1) (by decide) ?_
            refine xr_iadd (pc := 118) X dX6_figures_118 ?_
            refine xpX6 (pc := 119) X (oo0) hh0.1 10 wm_10_20 (ty := .int) rfl (fun _ => rfl) rfl (by decide +kernel) rfl rfl (Nat.le_of_ble_eq_true rfl) (by decide) rfl dX6_figures_119 (fun σ20 => ?_)
            refine xr_iload (pc := 122) X (i := 6) 5 rfl dX6_figures_122 ?_
            refine xr_bipush (pc := 124) X dX6_figures_124 (v := 10) (by decide) ?_
            refine xr_idiv (pc := 126) X (by decide) dX6_figures_126 ?_
            refine x_leti (fun zz21 => ?_)
            refine xr_istore (pc := 127) X (i := 6) [1, 2, 3, 4, 5, 0] (Nat.le_of_ble_eq_true rfl) hnL rfl dX6_figures_127 ?_
            refine xr_goto (pc := 129) X 26 (by decide) dX6_figures_129 ?_
            exact ihh14 _ _ _
          exact x_sub [] rfl (hKK5  _)
        refine xr_icmp_ge (pc := 44) X 62 (by decide) dX6_figures_44 (fun _ => ?_) (fun _ => ?_)
        · refine xr_iconst (pc := 62) X dX6_figures_62 (v := (-1)) (by decide) ?_
          exact hKK23 _ _
        refine xr_aload_n (pc := 47) X (i := 0) 0 rfl rfl dX6_figures_47 ?_
        refine xgX6 (pc := 48) X (oo0) hh0.1 1 wm_5_20 rfl rfl (by decide) rfl dX6_figures_48 ?_
        refine xr_aload_n (pc := 51) X (i := 0) 0 rfl rfl dX6_figures_51 ?_
        refine xgX6 (pc := 52) X (oo0) hh0.1 10 wm_10_20 rfl rfl (by decide) rfl dX6_figures_52 ?_
        refine xr_iald (pc := 55) X (oo0 + 1) (120) hh0.2.1.1 hh0.2.1.2 dX6_figures_55 (fun zz24 => ?_)
        refine xr_bipush (pc := 56) X dX6_figures_56 (v := 48) (by decide) ?_
        refine xr_isub (pc := 58) X dX6_figures_58 ?_
        refine xr_goto (pc := 59) X 63 (by decide) dX6_figures_59 ?_
        exact hKK23 _ _
    refine hLL25 _ _ (fun σ3 => ?_) (fun zz6 σ7 => ?_) _ _ _ _
    · refine xr_iconst (pc := 106) X dX6_figures_106 (v := (-1)) (by decide) ?_
      exact xr_iret (pc := 107) X (Nat.le_of_ble_eq_true rfl) (Nat.le_of_ble_eq_true rfl) dX6_figures_107
    refine xr_iload_n (pc := 132) X (i := 1) 0 rfl rfl dX6_figures_132 ?_
    refine xr_iconst (pc := 133) X dX6_figures_133 (v := (-1)) (by decide) ?_
    refine xr_icmp_ne (pc := 134) X 141 (by decide) dX6_figures_134 (fun _ => ?_) (fun _ => ?_)
    · refine xr_iload (pc := 141) X (i := 5) 1 rfl dX6_figures_141 ?_
      exact xr_iret (pc := 143) X (Nat.le_of_ble_eq_true rfl) (Nat.le_of_ble_eq_true rfl) dX6_figures_143
    refine xr_iconst (pc := 137) X dX6_figures_137 (v := (-1)) (by decide) ?_
    refine xr_goto (pc := 138) X 143 (by decide) dX6_figures_138 ?_
    exact xr_iret (pc := 143) X (Nat.le_of_ble_eq_true rfl) (Nat.le_of_ble_eq_true rfl) dX6_figures_143
  refine xr_icmp_ne (pc := 5) X 13 (by decide) dX6_figures_5 (fun _ => ?_) (fun _ => ?_)
  · refine xr_iload_n (pc := 13) X (i := 2) 2 rfl rfl dX6_figures_13 ?_
    refine xr_iconst (pc := 14) X dX6_figures_14 (v := 2) (by decide) ?_
    refine xr_icmp_ne (pc := 15) X 23 (by decide) dX6_figures_15 (fun _ => ?_) (fun _ => ?_)
    · refine xr_iconst (pc := 23) X dX6_figures_23 (v := 1) (by decide) ?_
      exact x_sub [0, 1, 3, 4, 5] rfl (hKK27 _ _)
    refine xr_bipush (pc := 18) X dX6_figures_18 (v := 10) (by decide) ?_
    refine xr_goto (pc := 20) X 24 (by decide) dX6_figures_20 ?_
    exact x_sub [0, 1, 3, 4, 5] rfl (hKK27 _ _)
  refine xr_bipush (pc := 8) X dX6_figures_8 (v := 100) (by decide) ?_
  refine xr_goto (pc := 10) X 24 (by decide) dX6_figures_10 ?_
  exact x_sub [0, 1, 3, 4, 5] rfl (hKK27 _ _)
def F_X6_done (oo0 : Nat) (pp1 : Int32) (σ : xS) : Option (Int32 × xS) :=
  if pp1 = 0 then (xlet (xu σ oo0 11 ((σ oo0 11) + 1)) (fun (σ1 : xS) => some ((1 : Int32), σ1)))
 else (xlet (xu σ oo0 11 ((σ oo0 11) + 0)) (fun (σ2 : xS) => some ((1 : Int32), σ2)))
abbrev rm_X6_done : Room := { frames := 0, cells := 0, slots := 0, locals := 0 }
set_option maxHeartbeats 4000000 in
set_option maxRecDepth 100000 in
theorem c_X6_done (l : Launch) {D : va_G} {ad : Nat → Nat} {N : Nat} {Sh : xSh} (hI : ∀ i j, i < N → j < N → ad i = ad j → i = j) (oo0 : Nat) (hh0 : xIs6 D ad N Sh oo0) (pp1 : Int32) (σ : xS) : xKI l yX6_done (Cond.code yX6_done cX6_done 2 (some .boolean) :: wG) rm_X6_done 0 0 D ad N Sh [.ref (ad oo0), .int pp1] σ (F_X6_done oo0 pp1 σ) := by
  refine x_startI (own := RX6) (maxL := 2) (by decide) rfl rfl (Nat.le_of_ble_eq_true rfl) rfl hI (fun Γ hl hnL X => ?_)
  subst hl
  unfold F_X6_done
  refine xr_aload_n (pc := 0) X (i := 0) 0 rfl rfl dX6_done_0 ?_
  refine xr_dup (pc := 1) X rfl dX6_done_1 ?_
  refine xgX6 (pc := 2) X (oo0) hh0.1 11 wm_10_19 rfl rfl (by decide) rfl dX6_done_2 ?_
  refine xr_iload_n (pc := 5) X (i := 1) 1 rfl rfl dX6_done_5 ?_
  refine xr_if_eq (pc := 6) X 13 (by decide) dX6_done_6 (fun _ => ?_) (fun _ => ?_)
  · refine xr_iconst (pc := 13) X dX6_done_13 (v := 1) (by decide) ?_
    refine xr_iadd (pc := 14) X dX6_done_14 ?_
    refine xpX6 (pc := 15) X (oo0) hh0.1 11 wm_10_19 (ty := .int) rfl (fun _ => rfl) rfl (by decide +kernel) rfl rfl (Nat.le_of_ble_eq_true rfl) (by decide) rfl dX6_done_15 (fun σ1 => ?_)
    refine xr_iconst (pc := 18) X dX6_done_18 (v := 1) (by decide) ?_
    exact xr_zret (pc := 19) X rfl (Nat.le_refl _) (Nat.le_refl _) dX6_done_19
  refine xr_iconst (pc := 9) X dX6_done_9 (v := 0) (by decide) ?_
  refine xr_goto (pc := 10) X 14 (by decide) dX6_done_10 ?_
  refine xr_iadd (pc := 14) X dX6_done_14 ?_
  refine xpX6 (pc := 15) X (oo0) hh0.1 11 wm_10_19 (ty := .int) rfl (fun _ => rfl) rfl (by decide +kernel) rfl rfl (Nat.le_of_ble_eq_true rfl) (by decide) rfl dX6_done_15 (fun σ2 => ?_)
  refine xr_iconst (pc := 18) X dX6_done_18 (v := 1) (by decide) ?_
  exact xr_zret (pc := 19) X rfl (Nat.le_refl _) (Nat.le_refl _) dX6_done_19
def F_X6_readCommand (oo0 : Nat) (nn1 aa1 : Nat) (σ : xS) : Option (Int32 × xS) :=
  if xin (σ oo0 10) 120 = true then (xlet (σ (oo0 + 1) (σ oo0 10).toNatClampNeg) (fun (zz1 : Int32) => xlet (xu σ oo0 10 ((σ oo0 10) + 1)) (fun (σ2 : xS) => if zz1 = 102 then (xbI (F_X6_figures oo0 0 1 0 3 σ2) (fun (zz4 : Int32) (σ3 : xS) => if zz4 = ((-1)) then (some ((0 : Int32), σ3))
 else (xbI (F_X6_isWriter nn1 aa1 zz4 σ3) (fun (zz6 : Int32) (σ5 : xS) => xjn (fun (zz7 : Int32) (σ8 : xS) => xbI (F_X6_done oo0 zz7 σ8) (fun (zz10 : Int32) (σ9 : xS) => if zz10 = 0 then (some ((0 : Int32), σ9))
 else (some ((1 : Int32), σ9))))
 (fun (KK11 : Int32 → xS → Option (Int32 × xS)) => xjn (fun (σ13 : xS) => KK11 0 σ13)
 (fun (KK14 : xS → Option (Int32 × xS)) => if zz6 = 0 then (KK14 σ5)
 else (xbI (F_X6_sends nn1 aa1 zz4 0 σ5) (fun (zz17 : Int32) (σ16 : xS) => if zz17 < 0 then (KK14 σ16)
 else (KK11 1 σ16)))))))))
 else (if zz1 = 104 then (xbI (F_X6_figures oo0 0 1 0 3 σ2) (fun (zz20 : Int32) (σ19 : xS) => xbI (F_X6_figures oo0 zz20 1 0 1 σ19) (fun (zz22 : Int32) (σ21 : xS) => if zz22 = ((-1)) then (some ((0 : Int32), σ21))
 else (xbI (F_X6_isWriter nn1 aa1 zz20 σ21) (fun (zz24 : Int32) (σ23 : xS) => xjn (fun (zz25 : Int32) (σ26 : xS) => xbI (F_X6_done oo0 zz25 σ26) (fun (zz28 : Int32) (σ27 : xS) => if zz28 = 0 then (some ((0 : Int32), σ27))
 else (some ((1 : Int32), σ27))))
 (fun (KK29 : Int32 → xS → Option (Int32 × xS)) => xjn (fun (σ31 : xS) => KK29 0 σ31)
 (fun (KK32 : xS → Option (Int32 × xS)) => if zz24 = 0 then (KK32 σ23)
 else (xjn (fun (zz34 : Int32) (σ35 : xS) => xbI (F_X6_holdOn nn1 aa1 zz20 zz34 σ35) (fun (zz37 : Int32) (σ36 : xS) => if zz37 < 0 then (KK32 σ36)
 else (KK29 1 σ36)))
 (fun (KK38 : Int32 → xS → Option (Int32 × xS)) => if ¬ zz22 = 1 then (KK38 0 σ23)
 else (KK38 1 σ23))))))))))
 else (if zz1 = 112 then (xbI (F_X6_figures oo0 0 2 1 99 σ2) (fun (zz42 : Int32) (σ41 : xS) => xbI (F_X6_figures oo0 zz42 1 0 3 σ41) (fun (zz44 : Int32) (σ43 : xS) => xbI (F_X6_figures oo0 zz44 3 1 500 σ43) (fun (zz46 : Int32) (σ45 : xS) => if zz46 = ((-1)) then (some ((0 : Int32), σ45))
 else (xbI (F_X6_isWriter nn1 aa1 zz44 σ45) (fun (zz48 : Int32) (σ47 : xS) => xjn (fun (zz49 : Int32) (σ50 : xS) => xbI (F_X6_done oo0 zz49 σ50) (fun (zz52 : Int32) (σ51 : xS) => if zz52 = 0 then (some ((0 : Int32), σ51))
 else (some ((1 : Int32), σ51))))
 (fun (KK53 : Int32 → xS → Option (Int32 × xS)) => xjn (fun (σ55 : xS) => KK53 0 σ55)
 (fun (KK56 : xS → Option (Int32 × xS)) => if zz48 = 0 then (KK56 σ47)
 else (if xin (2 : Int32) nn1 = true then (xlet (σ47 aa1 (2 : Int32).toNatClampNeg) (fun (zz58 : Int32) => if 8 ≤ zz58 then (KK56 σ47)
 else (xbI (F_X6_planOn nn1 aa1 zz42 zz44 zz46 σ47) (fun (zz60 : Int32) (σ59 : xS) => if zz60 ≤ 0 then (KK56 σ59)
 else (KK53 1 σ59))))) else none)))))))))
 else (if zz1 = 116 then (xbI (F_X6_figures oo0 0 2 1 99 σ2) (fun (zz63 : Int32) (σ62 : xS) => if zz63 = ((-1)) then (some ((0 : Int32), σ62))
 else (xbI (F_X6_ticksOn nn1 aa1 zz63 σ62) (fun (zz65 : Int32) (σ64 : xS) => xjn (fun (zz66 : Int32) (σ67 : xS) => xbI (F_X6_done oo0 zz66 σ67) (fun (zz69 : Int32) (σ68 : xS) => if zz69 = 0 then (some ((0 : Int32), σ68))
 else (some ((1 : Int32), σ68))))
 (fun (KK70 : Int32 → xS → Option (Int32 × xS)) => if zz65 < 0 then (KK70 0 σ64)
 else (KK70 1 σ64))))))
 else (if zz1 = 119 then (xbI (F_X6_figures oo0 0 1 0 3 σ2) (fun (zz74 : Int32) (σ73 : xS) => xbI (F_X6_figures oo0 zz74 3 1 500 σ73) (fun (zz76 : Int32) (σ75 : xS) => if zz76 = ((-1)) then (some ((0 : Int32), σ75))
 else (xbI (F_X6_isWriter nn1 aa1 zz74 σ75) (fun (zz78 : Int32) (σ77 : xS) => xjn (fun (zz79 : Int32) (σ80 : xS) => xbI (F_X6_done oo0 zz79 σ80) (fun (zz82 : Int32) (σ81 : xS) => if zz82 = 0 then (some ((0 : Int32), σ81))
 else (some ((1 : Int32), σ81))))
 (fun (KK83 : Int32 → xS → Option (Int32 × xS)) => xjn (fun (σ85 : xS) => KK83 0 σ85)
 (fun (KK86 : xS → Option (Int32 × xS)) => if zz78 = 0 then (KK86 σ77)
 else (xbI (F_X6_canWrite nn1 aa1 zz74 zz76 σ77) (fun (zz89 : Int32) (σ88 : xS) => if zz89 = 0 then (KK86 σ88)
 else (xbI (F_X6_writeOn nn1 aa1 zz74 zz76 σ88) (fun (zz91 : Int32) (σ90 : xS) => if zz91 < 0 then (KK86 σ90)
 else (KK83 1 σ90))))))))))))
 else (xlet (xu σ2 oo0 10 ((σ2 oo0 10) - 1)) (fun (σ93 : xS) => some ((0 : Int32), σ93)))))))))) else none
abbrev rm_X6_readCommand : Room := { frames := 8, cells := 0, slots := 0, locals := 184 }
set_option maxHeartbeats 4000000 in
set_option maxRecDepth 100000 in
theorem c_X6_readCommand (l : Launch) {D : va_G} {ad : Nat → Nat} {N : Nat} {Sh : xSh} (hI : ∀ i j, i < N → j < N → ad i = ad j → i = j) (oo0 : Nat) (hh0 : xIs6 D ad N Sh oo0) (nn1 aa1 : Nat) (hh1 : xHas N Sh aa1 (shI D nn1)) (σ : xS) : xKI l yX6_readCommand (Cond.code yX6_readCommand cX6_readCommand 6 (some .boolean) :: wG) rm_X6_readCommand 0 0 D ad N Sh [.ref (ad oo0), .ref (ad aa1)] σ (F_X6_readCommand oo0 nn1 aa1 σ) := by
  refine x_startI (own := RX6) (maxL := 6) (by decide) rfl rfl (Nat.le_of_ble_eq_true rfl) rfl hI (fun Γ hl hnL X => ?_)
  subst hl
  unfold F_X6_readCommand
  refine xr_aload_n (pc := 0) X (i := 0) 0 rfl rfl dX6_readCommand_0 ?_
  refine xgX6 (pc := 1) X (oo0) hh0.1 1 wm_5_20 rfl rfl (by decide) rfl dX6_readCommand_1 ?_
  refine xr_aload_n (pc := 4) X (i := 0) 0 rfl rfl dX6_readCommand_4 ?_
  refine xgX6 (pc := 5) X (oo0) hh0.1 10 wm_10_20 rfl rfl (by decide) rfl dX6_readCommand_5 ?_
  refine xr_iald (pc := 8) X (oo0 + 1) (120) hh0.2.1.1 hh0.2.1.2 dX6_readCommand_8 (fun zz1 => ?_)
  refine xr_istore_n (pc := 9) X (hf := rfl) (i := 2) [1, 2, 0] (Nat.le_of_ble_eq_true rfl) hnL rfl dX6_readCommand_9 ?_
  refine xr_aload_n (pc := 10) X (i := 0) 0 rfl rfl dX6_readCommand_10 ?_
  refine xr_dup (pc := 11) X rfl dX6_readCommand_11 ?_
  refine xgX6 (pc := 12) X (oo0) hh0.1 10 wm_10_20 rfl rfl (by decide) rfl dX6_readCommand_12 ?_
  refine xr_iconst (pc := 15) X dX6_readCommand_15 (v := 1) (by decide) ?_
  refine xr_iadd (pc := 16) X dX6_readCommand_16 ?_
  refine xpX6 (pc := 17) X (oo0) hh0.1 10 wm_10_20 (ty := .int) rfl (fun _ => rfl) rfl (by decide +kernel) rfl rfl (Nat.le_of_ble_eq_true rfl) (by decide) rfl dX6_readCommand_17 (fun σ2 => ?_)
  refine xr_iload_n (pc := 20) X (i := 2) 2 rfl rfl dX6_readCommand_20 ?_
  refine x_if (fun hcc18 => ?_) (fun hcc18 => ?_)
  · refine xr_look (off := 280) (pc := 21) X 301 dX6_readCommand_21 (by decide) (by rw [hcc18]; rfl) (by decide) ?_
    refine xr_aload_n (pc := 301) X (i := 0) 0 rfl rfl dX6_readCommand_301 ?_
    refine xr_iconst (pc := 302) X dX6_readCommand_302 (v := 0) (by decide) ?_
    refine xr_iconst (pc := 303) X dX6_readCommand_303 (v := 1) (by decide) ?_
    refine xr_iconst (pc := 304) X dX6_readCommand_304 (v := 0) (by decide) ?_
    refine xr_iconst (pc := 305) X dX6_readCommand_305 (v := 3) (by decide) ?_
    refine xr_callVI (na := 4) (pc := 306) X (oo0) [.int 0, .int 1, .int 0, .int 3] _ (c_X6_figures Γ.2.1 hI oo0 hh0 0 1 0 3 σ2) (wG_V wm_11_0 wm_10_21 wm_10_22 wm_10_23 wm_1_5) rfl rfl rfl (by decide +kernel) ⟨Nat.le_of_ble_eq_true rfl, Nat.le_of_ble_eq_true rfl⟩ hh0.1.1 hh0.1.2 rfl (T := TX6) (C := RX6) rfl rfl rfl (Nat.le_of_ble_eq_true rfl) ⟨Nat.le_of_ble_eq_true rfl, Nat.le_of_ble_eq_true rfl⟩ dX6_readCommand_306 (fun zz4 σ3 => ?_)
    refine xr_istore_n (pc := 309) X (hf := rfl) (i := 3) [1, 2, 0] (Nat.le_of_ble_eq_true rfl) hnL rfl dX6_readCommand_309 ?_
    refine xr_iload_n (pc := 310) X (i := 3) 2 rfl rfl dX6_readCommand_310 ?_
    refine xr_iconst (pc := 311) X dX6_readCommand_311 (v := (-1)) (by decide) ?_
    refine xr_icmp_eq (pc := 312) X 348 (by decide) dX6_readCommand_312 (fun _ => ?_) (fun _ => ?_)
    · refine xr_iconst (pc := 348) X dX6_readCommand_348 (v := 0) (by decide) ?_
      exact xr_zret (pc := 349) X rfl (Nat.le_refl _) (Nat.le_refl _) dX6_readCommand_349
    refine xr_aload_n (pc := 315) X (i := 0) 0 rfl rfl dX6_readCommand_315 ?_
    refine xr_aload_n (pc := 316) X (i := 1) 1 rfl rfl dX6_readCommand_316 ?_
    refine xr_iload_n (pc := 317) X (i := 3) 2 rfl rfl dX6_readCommand_317 ?_
    refine xr_callSI (na := 2) (pc := 318) X [.ref (ad aa1), .int zz4] (c_X6_isWriter Γ.2.1 hI nn1 aa1 hh1 zz4 σ3) (wG_S wm_11_8 wm_11_6 wm_11_7 wm_1_5) rfl rfl rfl (by decide +kernel) ⟨Nat.le_of_ble_eq_true rfl, Nat.le_of_ble_eq_true rfl⟩ rfl rfl (Nat.le_of_ble_eq_true rfl) ⟨Nat.le_of_ble_eq_true rfl, Nat.le_of_ble_eq_true rfl⟩ dX6_readCommand_318 (fun zz6 σ5 => ?_)
    refine x_jn (fun (KK11 : Int32 → xS → Option (Int32 × xS)) => ∀ zz7 σ8, xM Γ D ad N Sh (xQI Γ D ad N Sh 0 0) 0 0 (KK11 zz7 σ8) σ8 338 [] [.int zz7, .ref (ad oo0)]) (fun zz7 σ8 => ?_) (fun KK11 hKK12 => ?_)
    · refine xr_callVI (na := 1) (pc := 338) X (oo0) [.int zz7] _ (c_X6_done Γ.2.1 hI oo0 hh0 zz7 σ8) (wG_V wm_12_6 wm_12_3 wm_12_4 wm_12_5 wm_1_5) rfl rfl rfl (by decide +kernel) ⟨Nat.le_of_ble_eq_true rfl, Nat.le_of_ble_eq_true rfl⟩ hh0.1.1 hh0.1.2 rfl (T := TX6) (C := RX6) rfl rfl rfl (Nat.le_of_ble_eq_true rfl) ⟨Nat.le_of_ble_eq_true rfl, Nat.le_of_ble_eq_true rfl⟩ dX6_readCommand_338 (fun zz10 σ9 => ?_)
      refine xr_if_eq (pc := 341) X 348 (by decide) dX6_readCommand_341 (fun _ => ?_) (fun _ => ?_)
      · refine xr_iconst (pc := 348) X dX6_readCommand_348 (v := 0) (by decide) ?_
        exact xr_zret (pc := 349) X rfl (Nat.le_refl _) (Nat.le_refl _) dX6_readCommand_349
      refine xr_iconst (pc := 344) X dX6_readCommand_344 (v := 1) (by decide) ?_
      refine xr_goto (pc := 345) X 349 (by decide) dX6_readCommand_345 ?_
      exact xr_zret (pc := 349) X rfl (Nat.le_refl _) (Nat.le_refl _) dX6_readCommand_349
    refine x_jn (fun (KK14 : xS → Option (Int32 × xS)) => ∀ σ13, xM Γ D ad N Sh (xQI Γ D ad N Sh 0 0) 0 0 (KK14 σ13) σ13 337 [] [.ref (ad oo0)]) (fun σ13 => ?_) (fun KK14 hKK15 => ?_)
    · refine xr_iconst (pc := 337) X dX6_readCommand_337 (v := 0) (by decide) ?_
      exact hKK12 _ _
    refine xr_if_eq (pc := 321) X 337 (by decide) dX6_readCommand_321 (fun _ => ?_) (fun _ => ?_)
    · exact x_sub [] rfl (hKK15  _)
    refine xr_aload_n (pc := 324) X (i := 1) 1 rfl rfl dX6_readCommand_324 ?_
    refine xr_iload_n (pc := 325) X (i := 3) 2 rfl rfl dX6_readCommand_325 ?_
    refine xr_iconst (pc := 326) X dX6_readCommand_326 (v := 0) (by decide) ?_
    refine xr_callSI (na := 3) (pc := 327) X [.ref (ad aa1), .int zz4, .int 0] (c_X6_sends Γ.2.1 hI nn1 aa1 hh1 zz4 0 σ5) (wG_S wm_11_23 wm_11_21 wm_11_22 wm_1_5) rfl rfl rfl (by decide +kernel) ⟨Nat.le_of_ble_eq_true rfl, Nat.le_of_ble_eq_true rfl⟩ rfl rfl (Nat.le_of_ble_eq_true rfl) ⟨Nat.le_of_ble_eq_true rfl, Nat.le_of_ble_eq_true rfl⟩ dX6_readCommand_327 (fun zz17 σ16 => ?_)
    refine xr_if_lt (pc := 330) X 337 (by decide) dX6_readCommand_330 (fun _ => ?_) (fun _ => ?_)
    · exact x_sub [] rfl (hKK15  _)
    refine xr_iconst (pc := 333) X dX6_readCommand_333 (v := 1) (by decide) ?_
    refine xr_goto (pc := 334) X 338 (by decide) dX6_readCommand_334 ?_
    exact x_sub [] rfl (hKK12 _ _)
  refine x_if (fun hcc40 => ?_) (fun hcc40 => ?_)
  · refine xr_look (off := 210) (pc := 21) X 231 dX6_readCommand_21 (by decide) (by rw [hcc40]; rfl) (by decide) ?_
    refine xr_aload_n (pc := 231) X (i := 0) 0 rfl rfl dX6_readCommand_231 ?_
    refine xr_iconst (pc := 232) X dX6_readCommand_232 (v := 0) (by decide) ?_
    refine xr_iconst (pc := 233) X dX6_readCommand_233 (v := 1) (by decide) ?_
    refine xr_iconst (pc := 234) X dX6_readCommand_234 (v := 0) (by decide) ?_
    refine xr_iconst (pc := 235) X dX6_readCommand_235 (v := 3) (by decide) ?_
    refine xr_callVI (na := 4) (pc := 236) X (oo0) [.int 0, .int 1, .int 0, .int 3] _ (c_X6_figures Γ.2.1 hI oo0 hh0 0 1 0 3 σ2) (wG_V wm_11_0 wm_10_21 wm_10_22 wm_10_23 wm_1_5) rfl rfl rfl (by decide +kernel) ⟨Nat.le_of_ble_eq_true rfl, Nat.le_of_ble_eq_true rfl⟩ hh0.1.1 hh0.1.2 rfl (T := TX6) (C := RX6) rfl rfl rfl (Nat.le_of_ble_eq_true rfl) ⟨Nat.le_of_ble_eq_true rfl, Nat.le_of_ble_eq_true rfl⟩ dX6_readCommand_236 (fun zz20 σ19 => ?_)
    refine xr_istore_n (pc := 239) X (hf := rfl) (i := 3) [1, 2, 0] (Nat.le_of_ble_eq_true rfl) hnL rfl dX6_readCommand_239 ?_
    refine xr_aload_n (pc := 240) X (i := 0) 0 rfl rfl dX6_readCommand_240 ?_
    refine xr_iload_n (pc := 241) X (i := 3) 2 rfl rfl dX6_readCommand_241 ?_
    refine xr_iconst (pc := 242) X dX6_readCommand_242 (v := 1) (by decide) ?_
    refine xr_iconst (pc := 243) X dX6_readCommand_243 (v := 0) (by decide) ?_
    refine xr_iconst (pc := 244) X dX6_readCommand_244 (v := 1) (by decide) ?_
    refine xr_callVI (na := 4) (pc := 245) X (oo0) [.int zz20, .int 1, .int 0, .int 1] _ (c_X6_figures Γ.2.1 hI oo0 hh0 zz20 1 0 1 σ19) (wG_V wm_11_0 wm_10_21 wm_10_22 wm_10_23 wm_1_5) rfl rfl rfl (by decide +kernel) ⟨Nat.le_of_ble_eq_true rfl, Nat.le_of_ble_eq_true rfl⟩ hh0.1.1 hh0.1.2 rfl (T := TX6) (C := RX6) rfl rfl rfl (Nat.le_of_ble_eq_true rfl) ⟨Nat.le_of_ble_eq_true rfl, Nat.le_of_ble_eq_true rfl⟩ dX6_readCommand_245 (fun zz22 σ21 => ?_)
    refine xr_istore (pc := 248) X (i := 4) [1, 2, 3, 0] (Nat.le_of_ble_eq_true rfl) hnL rfl dX6_readCommand_248 ?_
    refine xr_iload (pc := 250) X (i := 4) 3 rfl dX6_readCommand_250 ?_
    refine xr_iconst (pc := 252) X dX6_readCommand_252 (v := (-1)) (by decide) ?_
    refine xr_icmp_eq (pc := 253) X 299 (by decide) dX6_readCommand_253 (fun _ => ?_) (fun _ => ?_)
    · refine xr_iconst (pc := 299) X dX6_readCommand_299 (v := 0) (by decide) ?_
      exact xr_zret (pc := 300) X rfl (Nat.le_refl _) (Nat.le_refl _) dX6_readCommand_300
    refine xr_aload_n (pc := 256) X (i := 0) 0 rfl rfl dX6_readCommand_256 ?_
    refine xr_aload_n (pc := 257) X (i := 1) 1 rfl rfl dX6_readCommand_257 ?_
    refine xr_iload_n (pc := 258) X (i := 3) 2 rfl rfl dX6_readCommand_258 ?_
    refine xr_callSI (na := 2) (pc := 259) X [.ref (ad aa1), .int zz20] (c_X6_isWriter Γ.2.1 hI nn1 aa1 hh1 zz20 σ21) (wG_S wm_11_8 wm_11_6 wm_11_7 wm_1_5) rfl rfl rfl (by decide +kernel) ⟨Nat.le_of_ble_eq_true rfl, Nat.le_of_ble_eq_true rfl⟩ rfl rfl (Nat.le_of_ble_eq_true rfl) ⟨Nat.le_of_ble_eq_true rfl, Nat.le_of_ble_eq_true rfl⟩ dX6_readCommand_259 (fun zz24 σ23 => ?_)
    refine x_jn (fun (KK29 : Int32 → xS → Option (Int32 × xS)) => ∀ zz25 σ26, xM Γ D ad N Sh (xQI Γ D ad N Sh 0 0) 0 0 (KK29 zz25 σ26) σ26 289 [] [.int zz25, .ref (ad oo0)]) (fun zz25 σ26 => ?_) (fun KK29 hKK30 => ?_)
    · refine xr_callVI (na := 1) (pc := 289) X (oo0) [.int zz25] _ (c_X6_done Γ.2.1 hI oo0 hh0 zz25 σ26) (wG_V wm_12_6 wm_12_3 wm_12_4 wm_12_5 wm_1_5) rfl rfl rfl (by decide +kernel) ⟨Nat.le_of_ble_eq_true rfl, Nat.le_of_ble_eq_true rfl⟩ hh0.1.1 hh0.1.2 rfl (T := TX6) (C := RX6) rfl rfl rfl (Nat.le_of_ble_eq_true rfl) ⟨Nat.le_of_ble_eq_true rfl, Nat.le_of_ble_eq_true rfl⟩ dX6_readCommand_289 (fun zz28 σ27 => ?_)
      refine xr_if_eq (pc := 292) X 299 (by decide) dX6_readCommand_292 (fun _ => ?_) (fun _ => ?_)
      · refine xr_iconst (pc := 299) X dX6_readCommand_299 (v := 0) (by decide) ?_
        exact xr_zret (pc := 300) X rfl (Nat.le_refl _) (Nat.le_refl _) dX6_readCommand_300
      refine xr_iconst (pc := 295) X dX6_readCommand_295 (v := 1) (by decide) ?_
      refine xr_goto (pc := 296) X 300 (by decide) dX6_readCommand_296 ?_
      exact xr_zret (pc := 300) X rfl (Nat.le_refl _) (Nat.le_refl _) dX6_readCommand_300
    refine x_jn (fun (KK32 : xS → Option (Int32 × xS)) => ∀ σ31, xM Γ D ad N Sh (xQI Γ D ad N Sh 0 0) 0 0 (KK32 σ31) σ31 288 [] [.ref (ad oo0)]) (fun σ31 => ?_) (fun KK32 hKK33 => ?_)
    · refine xr_iconst (pc := 288) X dX6_readCommand_288 (v := 0) (by decide) ?_
      exact hKK30 _ _
    refine xr_if_eq (pc := 262) X 288 (by decide) dX6_readCommand_262 (fun _ => ?_) (fun _ => ?_)
    · exact x_sub [] rfl (hKK33  _)
    refine xr_aload_n (pc := 265) X (i := 1) 1 rfl rfl dX6_readCommand_265 ?_
    refine xr_iload_n (pc := 266) X (i := 3) 2 rfl rfl dX6_readCommand_266 ?_
    refine xr_iload (pc := 267) X (i := 4) 3 rfl dX6_readCommand_267 ?_
    refine xr_iconst (pc := 269) X dX6_readCommand_269 (v := 1) (by decide) ?_
    refine x_jn (fun (KK38 : Int32 → xS → Option (Int32 × xS)) => ∀ zz34 σ35, xM Γ D ad N Sh (xQI Γ D ad N Sh 0 0) 0 0 (KK38 zz34 σ35) σ35 278 [] [.int zz34, .int zz20, .ref (ad aa1), .ref (ad oo0)]) (fun zz34 σ35 => ?_) (fun KK38 hKK39 => ?_)
    · refine xr_callSI (na := 3) (pc := 278) X [.ref (ad aa1), .int zz20, .int zz34] (c_X6_holdOn Γ.2.1 hI nn1 aa1 hh1 zz20 zz34 σ35) (wG_S wm_12_12 wm_12_10 wm_12_11 wm_1_5) rfl rfl rfl (by decide +kernel) ⟨Nat.le_of_ble_eq_true rfl, Nat.le_of_ble_eq_true rfl⟩ rfl rfl (Nat.le_of_ble_eq_true rfl) ⟨Nat.le_of_ble_eq_true rfl, Nat.le_of_ble_eq_true rfl⟩ dX6_readCommand_278 (fun zz37 σ36 => ?_)
      refine xr_if_lt (pc := 281) X 288 (by decide) dX6_readCommand_281 (fun _ => ?_) (fun _ => ?_)
      · exact hKK33  _
      refine xr_iconst (pc := 284) X dX6_readCommand_284 (v := 1) (by decide) ?_
      refine xr_goto (pc := 285) X 289 (by decide) dX6_readCommand_285 ?_
      exact hKK30 _ _
    refine xr_icmp_ne (pc := 270) X 277 (by decide) dX6_readCommand_270 (fun _ => ?_) (fun _ => ?_)
    · refine xr_iconst (pc := 277) X dX6_readCommand_277 (v := 0) (by decide) ?_
      exact x_sub [] rfl (hKK39 _ _)
    refine xr_iconst (pc := 273) X dX6_readCommand_273 (v := 1) (by decide) ?_
    refine xr_goto (pc := 274) X 278 (by decide) dX6_readCommand_274 ?_
    exact x_sub [] rfl (hKK39 _ _)
  refine x_if (fun hcc61 => ?_) (fun hcc61 => ?_)
  · refine xr_look (off := 124) (pc := 21) X 145 dX6_readCommand_21 (by decide) (by rw [hcc61]; rfl) (by decide) ?_
    refine xr_aload_n (pc := 145) X (i := 0) 0 rfl rfl dX6_readCommand_145 ?_
    refine xr_iconst (pc := 146) X dX6_readCommand_146 (v := 0) (by decide) ?_
    refine xr_iconst (pc := 147) X dX6_readCommand_147 (v := 2) (by decide) ?_
    refine xr_iconst (pc := 148) X dX6_readCommand_148 (v := 1) (by decide) ?_
    refine xr_bipush (pc := 149) X dX6_readCommand_149 (v := 99) (by decide) ?_
    refine xr_callVI (na := 4) (pc := 151) X (oo0) [.int 0, .int 2, .int 1, .int 99] _ (c_X6_figures Γ.2.1 hI oo0 hh0 0 2 1 99 σ2) (wG_V wm_11_0 wm_10_21 wm_10_22 wm_10_23 wm_1_5) rfl rfl rfl (by decide +kernel) ⟨Nat.le_of_ble_eq_true rfl, Nat.le_of_ble_eq_true rfl⟩ hh0.1.1 hh0.1.2 rfl (T := TX6) (C := RX6) rfl rfl rfl (Nat.le_of_ble_eq_true rfl) ⟨Nat.le_of_ble_eq_true rfl, Nat.le_of_ble_eq_true rfl⟩ dX6_readCommand_151 (fun zz42 σ41 => ?_)
    refine xr_istore_n (pc := 154) X (hf := rfl) (i := 3) [1, 2, 0] (Nat.le_of_ble_eq_true rfl) hnL rfl dX6_readCommand_154 ?_
    refine xr_aload_n (pc := 155) X (i := 0) 0 rfl rfl dX6_readCommand_155 ?_
    refine xr_iload_n (pc := 156) X (i := 3) 2 rfl rfl dX6_readCommand_156 ?_
    refine xr_iconst (pc := 157) X dX6_readCommand_157 (v := 1) (by decide) ?_
    refine xr_iconst (pc := 158) X dX6_readCommand_158 (v := 0) (by decide) ?_
    refine xr_iconst (pc := 159) X dX6_readCommand_159 (v := 3) (by decide) ?_
    refine xr_callVI (na := 4) (pc := 160) X (oo0) [.int zz42, .int 1, .int 0, .int 3] _ (c_X6_figures Γ.2.1 hI oo0 hh0 zz42 1 0 3 σ41) (wG_V wm_11_0 wm_10_21 wm_10_22 wm_10_23 wm_1_5) rfl rfl rfl (by decide +kernel) ⟨Nat.le_of_ble_eq_true rfl, Nat.le_of_ble_eq_true rfl⟩ hh0.1.1 hh0.1.2 rfl (T := TX6) (C := RX6) rfl rfl rfl (Nat.le_of_ble_eq_true rfl) ⟨Nat.le_of_ble_eq_true rfl, Nat.le_of_ble_eq_true rfl⟩ dX6_readCommand_160 (fun zz44 σ43 => ?_)
    refine xr_istore (pc := 163) X (i := 4) [1, 2, 3, 0] (Nat.le_of_ble_eq_true rfl) hnL rfl dX6_readCommand_163 ?_
    refine xr_aload_n (pc := 165) X (i := 0) 0 rfl rfl dX6_readCommand_165 ?_
    refine xr_iload (pc := 166) X (i := 4) 3 rfl dX6_readCommand_166 ?_
    refine xr_iconst (pc := 168) X dX6_readCommand_168 (v := 3) (by decide) ?_
    refine xr_iconst (pc := 169) X dX6_readCommand_169 (v := 1) (by decide) ?_
    refine xr_sipush (pc := 170) X dX6_readCommand_170 (v := 500) (by decide) ?_
    refine xr_callVI (na := 4) (pc := 173) X (oo0) [.int zz44, .int 3, .int 1, .int 500] _ (c_X6_figures Γ.2.1 hI oo0 hh0 zz44 3 1 500 σ43) (wG_V wm_11_0 wm_10_21 wm_10_22 wm_10_23 wm_1_5) rfl rfl rfl (by decide +kernel) ⟨Nat.le_of_ble_eq_true rfl, Nat.le_of_ble_eq_true rfl⟩ hh0.1.1 hh0.1.2 rfl (T := TX6) (C := RX6) rfl rfl rfl (Nat.le_of_ble_eq_true rfl) ⟨Nat.le_of_ble_eq_true rfl, Nat.le_of_ble_eq_true rfl⟩ dX6_readCommand_173 (fun zz46 σ45 => ?_)
    refine xr_istore (pc := 176) X (i := 5) [1, 2, 3, 4, 0] (Nat.le_of_ble_eq_true rfl) hnL rfl dX6_readCommand_176 ?_
    refine xr_iload (pc := 178) X (i := 5) 4 rfl dX6_readCommand_178 ?_
    refine xr_iconst (pc := 180) X dX6_readCommand_180 (v := (-1)) (by decide) ?_
    refine xr_icmp_eq (pc := 181) X 229 (by decide) dX6_readCommand_181 (fun _ => ?_) (fun _ => ?_)
    · refine xr_iconst (pc := 229) X dX6_readCommand_229 (v := 0) (by decide) ?_
      exact xr_zret (pc := 230) X rfl (Nat.le_refl _) (Nat.le_refl _) dX6_readCommand_230
    refine xr_aload_n (pc := 184) X (i := 0) 0 rfl rfl dX6_readCommand_184 ?_
    refine xr_aload_n (pc := 185) X (i := 1) 1 rfl rfl dX6_readCommand_185 ?_
    refine xr_iload (pc := 186) X (i := 4) 3 rfl dX6_readCommand_186 ?_
    refine xr_callSI (na := 2) (pc := 188) X [.ref (ad aa1), .int zz44] (c_X6_isWriter Γ.2.1 hI nn1 aa1 hh1 zz44 σ45) (wG_S wm_11_8 wm_11_6 wm_11_7 wm_1_5) rfl rfl rfl (by decide +kernel) ⟨Nat.le_of_ble_eq_true rfl, Nat.le_of_ble_eq_true rfl⟩ rfl rfl (Nat.le_of_ble_eq_true rfl) ⟨Nat.le_of_ble_eq_true rfl, Nat.le_of_ble_eq_true rfl⟩ dX6_readCommand_188 (fun zz48 σ47 => ?_)
    refine x_jn (fun (KK53 : Int32 → xS → Option (Int32 × xS)) => ∀ zz49 σ50, xM Γ D ad N Sh (xQI Γ D ad N Sh 0 0) 0 0 (KK53 zz49 σ50) σ50 219 [] [.int zz49, .ref (ad oo0)]) (fun zz49 σ50 => ?_) (fun KK53 hKK54 => ?_)
    · refine xr_callVI (na := 1) (pc := 219) X (oo0) [.int zz49] _ (c_X6_done Γ.2.1 hI oo0 hh0 zz49 σ50) (wG_V wm_12_6 wm_12_3 wm_12_4 wm_12_5 wm_1_5) rfl rfl rfl (by decide +kernel) ⟨Nat.le_of_ble_eq_true rfl, Nat.le_of_ble_eq_true rfl⟩ hh0.1.1 hh0.1.2 rfl (T := TX6) (C := RX6) rfl rfl rfl (Nat.le_of_ble_eq_true rfl) ⟨Nat.le_of_ble_eq_true rfl, Nat.le_of_ble_eq_true rfl⟩ dX6_readCommand_219 (fun zz52 σ51 => ?_)
      refine xr_if_eq (pc := 222) X 229 (by decide) dX6_readCommand_222 (fun _ => ?_) (fun _ => ?_)
      · refine xr_iconst (pc := 229) X dX6_readCommand_229 (v := 0) (by decide) ?_
        exact xr_zret (pc := 230) X rfl (Nat.le_refl _) (Nat.le_refl _) dX6_readCommand_230
      refine xr_iconst (pc := 225) X dX6_readCommand_225 (v := 1) (by decide) ?_
      refine xr_goto (pc := 226) X 230 (by decide) dX6_readCommand_226 ?_
      exact xr_zret (pc := 230) X rfl (Nat.le_refl _) (Nat.le_refl _) dX6_readCommand_230
    refine x_jn (fun (KK56 : xS → Option (Int32 × xS)) => ∀ σ55, xM Γ D ad N Sh (xQI Γ D ad N Sh 0 0) 0 0 (KK56 σ55) σ55 218 [] [.ref (ad oo0)]) (fun σ55 => ?_) (fun KK56 hKK57 => ?_)
    · refine xr_iconst (pc := 218) X dX6_readCommand_218 (v := 0) (by decide) ?_
      exact hKK54 _ _
    refine xr_if_eq (pc := 191) X 218 (by decide) dX6_readCommand_191 (fun _ => ?_) (fun _ => ?_)
    · exact x_sub [] rfl (hKK57  _)
    refine xr_aload_n (pc := 194) X (i := 1) 1 rfl rfl dX6_readCommand_194 ?_
    refine xr_iconst (pc := 195) X dX6_readCommand_195 (v := 2) (by decide) ?_
    refine xr_iald (pc := 196) X (aa1) (nn1) hh1.1 hh1.2 dX6_readCommand_196 (fun zz58 => ?_)
    refine xr_bipush (pc := 197) X dX6_readCommand_197 (v := 8) (by decide) ?_
    refine xr_icmp_ge (pc := 199) X 218 (by decide) dX6_readCommand_199 (fun _ => ?_) (fun _ => ?_)
    · exact x_sub [] rfl (hKK57  _)
    refine xr_aload_n (pc := 202) X (i := 1) 1 rfl rfl dX6_readCommand_202 ?_
    refine xr_iload_n (pc := 203) X (i := 3) 2 rfl rfl dX6_readCommand_203 ?_
    refine xr_iload (pc := 204) X (i := 4) 3 rfl dX6_readCommand_204 ?_
    refine xr_iload (pc := 206) X (i := 5) 4 rfl dX6_readCommand_206 ?_
    refine xr_callSI (na := 4) (pc := 208) X [.ref (ad aa1), .int zz42, .int zz44, .int zz46] (c_X6_planOn Γ.2.1 hI nn1 aa1 hh1 zz42 zz44 zz46 σ47) (wG_S wm_12_9 wm_12_7 wm_12_8 wm_1_5) rfl rfl rfl (by decide +kernel) ⟨Nat.le_of_ble_eq_true rfl, Nat.le_of_ble_eq_true rfl⟩ rfl rfl (Nat.le_of_ble_eq_true rfl) ⟨Nat.le_of_ble_eq_true rfl, Nat.le_of_ble_eq_true rfl⟩ dX6_readCommand_208 (fun zz60 σ59 => ?_)
    refine xr_if_le (pc := 211) X 218 (by decide) dX6_readCommand_211 (fun _ => ?_) (fun _ => ?_)
    · exact x_sub [] rfl (hKK57  _)
    refine xr_iconst (pc := 214) X dX6_readCommand_214 (v := 1) (by decide) ?_
    refine xr_goto (pc := 215) X 219 (by decide) dX6_readCommand_215 ?_
    exact x_sub [] rfl (hKK54 _ _)
  refine x_if (fun hcc72 => ?_) (fun hcc72 => ?_)
  · refine xr_look (off := 329) (pc := 21) X 350 dX6_readCommand_21 (by decide) (by rw [hcc72]; rfl) (by decide) ?_
    refine xr_aload_n (pc := 350) X (i := 0) 0 rfl rfl dX6_readCommand_350 ?_
    refine xr_iconst (pc := 351) X dX6_readCommand_351 (v := 0) (by decide) ?_
    refine xr_iconst (pc := 352) X dX6_readCommand_352 (v := 2) (by decide) ?_
    refine xr_iconst (pc := 353) X dX6_readCommand_353 (v := 1) (by decide) ?_
    refine xr_bipush (pc := 354) X dX6_readCommand_354 (v := 99) (by decide) ?_
    refine xr_callVI (na := 4) (pc := 356) X (oo0) [.int 0, .int 2, .int 1, .int 99] _ (c_X6_figures Γ.2.1 hI oo0 hh0 0 2 1 99 σ2) (wG_V wm_11_0 wm_10_21 wm_10_22 wm_10_23 wm_1_5) rfl rfl rfl (by decide +kernel) ⟨Nat.le_of_ble_eq_true rfl, Nat.le_of_ble_eq_true rfl⟩ hh0.1.1 hh0.1.2 rfl (T := TX6) (C := RX6) rfl rfl rfl (Nat.le_of_ble_eq_true rfl) ⟨Nat.le_of_ble_eq_true rfl, Nat.le_of_ble_eq_true rfl⟩ dX6_readCommand_356 (fun zz63 σ62 => ?_)
    refine xr_istore_n (pc := 359) X (hf := rfl) (i := 3) [1, 2, 0] (Nat.le_of_ble_eq_true rfl) hnL rfl dX6_readCommand_359 ?_
    refine xr_iload_n (pc := 360) X (i := 3) 2 rfl rfl dX6_readCommand_360 ?_
    refine xr_iconst (pc := 361) X dX6_readCommand_361 (v := (-1)) (by decide) ?_
    refine xr_icmp_eq (pc := 362) X 389 (by decide) dX6_readCommand_362 (fun _ => ?_) (fun _ => ?_)
    · refine xr_iconst (pc := 389) X dX6_readCommand_389 (v := 0) (by decide) ?_
      exact xr_zret (pc := 390) X rfl (Nat.le_refl _) (Nat.le_refl _) dX6_readCommand_390
    refine xr_aload_n (pc := 365) X (i := 0) 0 rfl rfl dX6_readCommand_365 ?_
    refine xr_aload_n (pc := 366) X (i := 1) 1 rfl rfl dX6_readCommand_366 ?_
    refine xr_iload_n (pc := 367) X (i := 3) 2 rfl rfl dX6_readCommand_367 ?_
    refine xr_callSI (na := 2) (pc := 368) X [.ref (ad aa1), .int zz63] (c_X6_ticksOn Γ.2.1 hI nn1 aa1 hh1 zz63 σ62) (wG_S wm_12_15 wm_12_13 wm_12_14 wm_1_5) rfl rfl rfl (by decide +kernel) ⟨Nat.le_of_ble_eq_true rfl, Nat.le_of_ble_eq_true rfl⟩ rfl rfl (Nat.le_of_ble_eq_true rfl) ⟨Nat.le_of_ble_eq_true rfl, Nat.le_of_ble_eq_true rfl⟩ dX6_readCommand_368 (fun zz65 σ64 => ?_)
    refine x_jn (fun (KK70 : Int32 → xS → Option (Int32 × xS)) => ∀ zz66 σ67, xM Γ D ad N Sh (xQI Γ D ad N Sh 0 0) 0 0 (KK70 zz66 σ67) σ67 379 [] [.int zz66, .ref (ad oo0)]) (fun zz66 σ67 => ?_) (fun KK70 hKK71 => ?_)
    · refine xr_callVI (na := 1) (pc := 379) X (oo0) [.int zz66] _ (c_X6_done Γ.2.1 hI oo0 hh0 zz66 σ67) (wG_V wm_12_6 wm_12_3 wm_12_4 wm_12_5 wm_1_5) rfl rfl rfl (by decide +kernel) ⟨Nat.le_of_ble_eq_true rfl, Nat.le_of_ble_eq_true rfl⟩ hh0.1.1 hh0.1.2 rfl (T := TX6) (C := RX6) rfl rfl rfl (Nat.le_of_ble_eq_true rfl) ⟨Nat.le_of_ble_eq_true rfl, Nat.le_of_ble_eq_true rfl⟩ dX6_readCommand_379 (fun zz69 σ68 => ?_)
      refine xr_if_eq (pc := 382) X 389 (by decide) dX6_readCommand_382 (fun _ => ?_) (fun _ => ?_)
      · refine xr_iconst (pc := 389) X dX6_readCommand_389 (v := 0) (by decide) ?_
        exact xr_zret (pc := 390) X rfl (Nat.le_refl _) (Nat.le_refl _) dX6_readCommand_390
      refine xr_iconst (pc := 385) X dX6_readCommand_385 (v := 1) (by decide) ?_
      refine xr_goto (pc := 386) X 390 (by decide) dX6_readCommand_386 ?_
      exact xr_zret (pc := 390) X rfl (Nat.le_refl _) (Nat.le_refl _) dX6_readCommand_390
    refine xr_if_lt (pc := 371) X 378 (by decide) dX6_readCommand_371 (fun _ => ?_) (fun _ => ?_)
    · refine xr_iconst (pc := 378) X dX6_readCommand_378 (v := 0) (by decide) ?_
      exact x_sub [] rfl (hKK71 _ _)
    refine xr_iconst (pc := 374) X dX6_readCommand_374 (v := 1) (by decide) ?_
    refine xr_goto (pc := 375) X 379 (by decide) dX6_readCommand_375 ?_
    exact x_sub [] rfl (hKK71 _ _)
  refine x_if (fun hcc92 => ?_) (fun hcc92 => ?_)
  · refine xr_look (off := 51) (pc := 21) X 72 dX6_readCommand_21 (by decide) (by rw [hcc92]; rfl) (by decide) ?_
    refine xr_aload_n (pc := 72) X (i := 0) 0 rfl rfl dX6_readCommand_72 ?_
    refine xr_iconst (pc := 73) X dX6_readCommand_73 (v := 0) (by decide) ?_
    refine xr_iconst (pc := 74) X dX6_readCommand_74 (v := 1) (by decide) ?_
    refine xr_iconst (pc := 75) X dX6_readCommand_75 (v := 0) (by decide) ?_
    refine xr_iconst (pc := 76) X dX6_readCommand_76 (v := 3) (by decide) ?_
    refine xr_callVI (na := 4) (pc := 77) X (oo0) [.int 0, .int 1, .int 0, .int 3] _ (c_X6_figures Γ.2.1 hI oo0 hh0 0 1 0 3 σ2) (wG_V wm_11_0 wm_10_21 wm_10_22 wm_10_23 wm_1_5) rfl rfl rfl (by decide +kernel) ⟨Nat.le_of_ble_eq_true rfl, Nat.le_of_ble_eq_true rfl⟩ hh0.1.1 hh0.1.2 rfl (T := TX6) (C := RX6) rfl rfl rfl (Nat.le_of_ble_eq_true rfl) ⟨Nat.le_of_ble_eq_true rfl, Nat.le_of_ble_eq_true rfl⟩ dX6_readCommand_77 (fun zz74 σ73 => ?_)
    refine xr_istore_n (pc := 80) X (hf := rfl) (i := 3) [1, 2, 0] (Nat.le_of_ble_eq_true rfl) hnL rfl dX6_readCommand_80 ?_
    refine xr_aload_n (pc := 81) X (i := 0) 0 rfl rfl dX6_readCommand_81 ?_
    refine xr_iload_n (pc := 82) X (i := 3) 2 rfl rfl dX6_readCommand_82 ?_
    refine xr_iconst (pc := 83) X dX6_readCommand_83 (v := 3) (by decide) ?_
    refine xr_iconst (pc := 84) X dX6_readCommand_84 (v := 1) (by decide) ?_
    refine xr_sipush (pc := 85) X dX6_readCommand_85 (v := 500) (by decide) ?_
    refine xr_callVI (na := 4) (pc := 88) X (oo0) [.int zz74, .int 3, .int 1, .int 500] _ (c_X6_figures Γ.2.1 hI oo0 hh0 zz74 3 1 500 σ73) (wG_V wm_11_0 wm_10_21 wm_10_22 wm_10_23 wm_1_5) rfl rfl rfl (by decide +kernel) ⟨Nat.le_of_ble_eq_true rfl, Nat.le_of_ble_eq_true rfl⟩ hh0.1.1 hh0.1.2 rfl (T := TX6) (C := RX6) rfl rfl rfl (Nat.le_of_ble_eq_true rfl) ⟨Nat.le_of_ble_eq_true rfl, Nat.le_of_ble_eq_true rfl⟩ dX6_readCommand_88 (fun zz76 σ75 => ?_)
    refine xr_istore (pc := 91) X (i := 4) [1, 2, 3, 0] (Nat.le_of_ble_eq_true rfl) hnL rfl dX6_readCommand_91 ?_
    refine xr_iload (pc := 93) X (i := 4) 3 rfl dX6_readCommand_93 ?_
    refine xr_iconst (pc := 95) X dX6_readCommand_95 (v := (-1)) (by decide) ?_
    refine xr_icmp_eq (pc := 96) X 143 (by decide) dX6_readCommand_96 (fun _ => ?_) (fun _ => ?_)
    · refine xr_iconst (pc := 143) X dX6_readCommand_143 (v := 0) (by decide) ?_
      exact xr_zret (pc := 144) X rfl (Nat.le_refl _) (Nat.le_refl _) dX6_readCommand_144
    refine xr_aload_n (pc := 99) X (i := 0) 0 rfl rfl dX6_readCommand_99 ?_
    refine xr_aload_n (pc := 100) X (i := 1) 1 rfl rfl dX6_readCommand_100 ?_
    refine xr_iload_n (pc := 101) X (i := 3) 2 rfl rfl dX6_readCommand_101 ?_
    refine xr_callSI (na := 2) (pc := 102) X [.ref (ad aa1), .int zz74] (c_X6_isWriter Γ.2.1 hI nn1 aa1 hh1 zz74 σ75) (wG_S wm_11_8 wm_11_6 wm_11_7 wm_1_5) rfl rfl rfl (by decide +kernel) ⟨Nat.le_of_ble_eq_true rfl, Nat.le_of_ble_eq_true rfl⟩ rfl rfl (Nat.le_of_ble_eq_true rfl) ⟨Nat.le_of_ble_eq_true rfl, Nat.le_of_ble_eq_true rfl⟩ dX6_readCommand_102 (fun zz78 σ77 => ?_)
    refine x_jn (fun (KK83 : Int32 → xS → Option (Int32 × xS)) => ∀ zz79 σ80, xM Γ D ad N Sh (xQI Γ D ad N Sh 0 0) 0 0 (KK83 zz79 σ80) σ80 133 [] [.int zz79, .ref (ad oo0)]) (fun zz79 σ80 => ?_) (fun KK83 hKK84 => ?_)
    · refine xr_callVI (na := 1) (pc := 133) X (oo0) [.int zz79] _ (c_X6_done Γ.2.1 hI oo0 hh0 zz79 σ80) (wG_V wm_12_6 wm_12_3 wm_12_4 wm_12_5 wm_1_5) rfl rfl rfl (by decide +kernel) ⟨Nat.le_of_ble_eq_true rfl, Nat.le_of_ble_eq_true rfl⟩ hh0.1.1 hh0.1.2 rfl (T := TX6) (C := RX6) rfl rfl rfl (Nat.le_of_ble_eq_true rfl) ⟨Nat.le_of_ble_eq_true rfl, Nat.le_of_ble_eq_true rfl⟩ dX6_readCommand_133 (fun zz82 σ81 => ?_)
      refine xr_if_eq (pc := 136) X 143 (by decide) dX6_readCommand_136 (fun _ => ?_) (fun _ => ?_)
      · refine xr_iconst (pc := 143) X dX6_readCommand_143 (v := 0) (by decide) ?_
        exact xr_zret (pc := 144) X rfl (Nat.le_refl _) (Nat.le_refl _) dX6_readCommand_144
      refine xr_iconst (pc := 139) X dX6_readCommand_139 (v := 1) (by decide) ?_
      refine xr_goto (pc := 140) X 144 (by decide) dX6_readCommand_140 ?_
      exact xr_zret (pc := 144) X rfl (Nat.le_refl _) (Nat.le_refl _) dX6_readCommand_144
    refine x_jn (fun (KK86 : xS → Option (Int32 × xS)) => ∀ σ85, xM Γ D ad N Sh (xQI Γ D ad N Sh 0 0) 0 0 (KK86 σ85) σ85 132 [] [.ref (ad oo0)]) (fun σ85 => ?_) (fun KK86 hKK87 => ?_)
    · refine xr_iconst (pc := 132) X dX6_readCommand_132 (v := 0) (by decide) ?_
      exact hKK84 _ _
    refine xr_if_eq (pc := 105) X 132 (by decide) dX6_readCommand_105 (fun _ => ?_) (fun _ => ?_)
    · exact x_sub [] rfl (hKK87  _)
    refine xr_aload_n (pc := 108) X (i := 1) 1 rfl rfl dX6_readCommand_108 ?_
    refine xr_iload_n (pc := 109) X (i := 3) 2 rfl rfl dX6_readCommand_109 ?_
    refine xr_iload (pc := 110) X (i := 4) 3 rfl dX6_readCommand_110 ?_
    refine xr_callSI (na := 3) (pc := 112) X [.ref (ad aa1), .int zz74, .int zz76] (c_X6_canWrite Γ.2.1 hI nn1 aa1 hh1 zz74 zz76 σ77) (wG_S wm_11_11 wm_11_9 wm_11_10 wm_1_5) rfl rfl rfl (by decide +kernel) ⟨Nat.le_of_ble_eq_true rfl, Nat.le_of_ble_eq_true rfl⟩ rfl rfl (Nat.le_of_ble_eq_true rfl) ⟨Nat.le_of_ble_eq_true rfl, Nat.le_of_ble_eq_true rfl⟩ dX6_readCommand_112 (fun zz89 σ88 => ?_)
    refine xr_if_eq (pc := 115) X 132 (by decide) dX6_readCommand_115 (fun _ => ?_) (fun _ => ?_)
    · exact x_sub [] rfl (hKK87  _)
    refine xr_aload_n (pc := 118) X (i := 1) 1 rfl rfl dX6_readCommand_118 ?_
    refine xr_iload_n (pc := 119) X (i := 3) 2 rfl rfl dX6_readCommand_119 ?_
    refine xr_iload (pc := 120) X (i := 4) 3 rfl dX6_readCommand_120 ?_
    refine xr_callSI (na := 3) (pc := 122) X [.ref (ad aa1), .int zz74, .int zz76] (c_X6_writeOn Γ.2.1 hI nn1 aa1 hh1 zz74 zz76 σ88) (wG_S wm_11_17 wm_11_15 wm_11_16 wm_1_5) rfl rfl rfl (by decide +kernel) ⟨Nat.le_of_ble_eq_true rfl, Nat.le_of_ble_eq_true rfl⟩ rfl rfl (Nat.le_of_ble_eq_true rfl) ⟨Nat.le_of_ble_eq_true rfl, Nat.le_of_ble_eq_true rfl⟩ dX6_readCommand_122 (fun zz91 σ90 => ?_)
    refine xr_if_lt (pc := 125) X 132 (by decide) dX6_readCommand_125 (fun _ => ?_) (fun _ => ?_)
    · exact x_sub [] rfl (hKK87  _)
    refine xr_iconst (pc := 128) X dX6_readCommand_128 (v := 1) (by decide) ?_
    refine xr_goto (pc := 129) X 133 (by decide) dX6_readCommand_129 ?_
    exact x_sub [] rfl (hKK84 _ _)
  refine xr_look (off := 370) (pc := 21) X 391 dX6_readCommand_21 (by decide) (by have g0 := xne hcc18 (j := 102) (by decide); have g1 := xne hcc40 (j := 104) (by decide); have g2 := xne hcc61 (j := 112) (by decide); have g3 := xne hcc72 (j := 116) (by decide); have g4 := xne hcc92 (j := 119) (by decide); simp [Op.lookupswitch.offset, Ne.symm g0, g0, Ne.symm g1, g1, Ne.symm g2, g2, Ne.symm g3, g3, Ne.symm g4, g4]; done) (by decide) ?_
  refine xr_aload_n (pc := 391) X (i := 0) 0 rfl rfl dX6_readCommand_391 ?_
  refine xr_dup (pc := 392) X rfl dX6_readCommand_392 ?_
  refine xgX6 (pc := 393) X (oo0) hh0.1 10 wm_10_20 rfl rfl (by decide) rfl dX6_readCommand_393 ?_
  refine xr_iconst (pc := 396) X dX6_readCommand_396 (v := 1) (by decide) ?_
  refine xr_isub (pc := 397) X dX6_readCommand_397 ?_
  refine xpX6 (pc := 398) X (oo0) hh0.1 10 wm_10_20 (ty := .int) rfl (fun _ => rfl) rfl (by decide +kernel) rfl rfl (Nat.le_of_ble_eq_true rfl) (by decide) rfl dX6_readCommand_398 (fun σ93 => ?_)
  refine xr_iconst (pc := 401) X dX6_readCommand_401 (v := 0) (by decide) ?_
  exact xr_zret (pc := 402) X rfl (Nat.le_refl _) (Nat.le_refl _) dX6_readCommand_402
def L_X6_readText_63 (oo0 : Nat) (nn1 : Nat) (aa1 : Nat) (KK10 : xS → Option (Int32 × xS)) (KK13 : xS → Option (Int32 × xS)) : Nat → xS → Option (Int32 × xS)
  | 0, _ => none
  | nn_16 + 1, σ15 => if (σ15 oo0 2) ≤ (σ15 oo0 10) then (KK13 σ15)
 else (xbI (F_X6_readCommand oo0 nn1 aa1 σ15) (fun (zz19 : Int32) (σ18 : xS) => if ¬ zz19 = 0 then (L_X6_readText_63 oo0 nn1 aa1 KK10 KK13 nn_16 σ18)
 else (KK10 σ18)))
def F_X6_readText (oo0 : Nat) (nn1 aa1 : Nat) (σ : xS) : Option (Int32 × xS) :=
  xlet (xu σ oo0 11 0) (fun (σ1 : xS) => xlet (xu σ1 oo0 10 0) (fun (σ2 : xS) => if (σ2 oo0 2) = 0 then (some ((0 : Int32), σ2))
 else (if xin (0 : Int32) 120 = true then (xlet (σ2 (oo0 + 1) (0 : Int32).toNatClampNeg) (fun (zz3 : Int32) => if zz3 = 78 then (xlet (xu σ2 oo0 10 1) (fun (σ4 : xS) => xbI (F_X6_figures oo0 0 1 1 4 σ4) (fun (zz6 : Int32) (σ5 : xS) => if ¬ zz6 = ((-1)) then (xbV (F_X6_clear nn1 aa1 zz6 σ5) (fun (σ7 : xS) => xbV (F_X6_firstSettings nn1 aa1 σ7) (fun (σ8 : xS) => L_X6_readText_63 oo0 nn1 aa1 (fun (σ9 : xS) => some ((σ9 oo0 10), σ9)) (fun (σ12 : xS) => some ((-1 : Int32), σ12)) 1000  σ8)))
 else (some ((σ5 oo0 10), σ5)))))
 else (some ((0 : Int32), σ2)))) else none)))
abbrev rm_X6_readText : Room := { frames := 9, cells := 0, slots := 0, locals := 209 }
set_option maxHeartbeats 4000000 in
set_option maxRecDepth 100000 in
theorem c_X6_readText (l : Launch) {D : va_G} {ad : Nat → Nat} {N : Nat} {Sh : xSh} (hI : ∀ i j, i < N → j < N → ad i = ad j → i = j) (oo0 : Nat) (hh0 : xIs6 D ad N Sh oo0) (nn1 aa1 : Nat) (hh1 : xHas N Sh aa1 (shI D nn1)) (σ : xS) : xKI l yX6_readText (Cond.code yX6_readText cX6_readText 3 (some .int) :: wG) rm_X6_readText 0 0 D ad N Sh [.ref (ad oo0), .ref (ad aa1)] σ (F_X6_readText oo0 nn1 aa1 σ) := by
  refine x_startI (own := RX6) (maxL := 3) (by decide) rfl rfl (Nat.le_of_ble_eq_true rfl) rfl hI (fun Γ hl hnL X => ?_)
  subst hl
  unfold F_X6_readText
  refine xr_aload_n (pc := 0) X (i := 0) 0 rfl rfl dX6_readText_0 ?_
  refine xr_iconst (pc := 1) X dX6_readText_1 (v := 0) (by decide) ?_
  refine xpX6 (pc := 2) X (oo0) hh0.1 11 wm_10_19 (ty := .int) rfl (fun _ => rfl) rfl (by decide +kernel) rfl rfl (Nat.le_of_ble_eq_true rfl) (by decide) rfl dX6_readText_2 (fun σ1 => ?_)
  refine xr_aload_n (pc := 5) X (i := 0) 0 rfl rfl dX6_readText_5 ?_
  refine xr_iconst (pc := 6) X dX6_readText_6 (v := 0) (by decide) ?_
  refine xpX6 (pc := 7) X (oo0) hh0.1 10 wm_10_20 (ty := .int) rfl (fun _ => rfl) rfl (by decide +kernel) rfl rfl (Nat.le_of_ble_eq_true rfl) (by decide) rfl dX6_readText_7 (fun σ2 => ?_)
  refine xr_aload_n (pc := 10) X (i := 0) 0 rfl rfl dX6_readText_10 ?_
  refine xgX6 (pc := 11) X (oo0) hh0.1 2 wm_7_22 rfl rfl (by decide) rfl dX6_readText_11 ?_
  refine xr_if_eq (pc := 14) X 28 (by decide) dX6_readText_14 (fun _ => ?_) (fun _ => ?_)
  · refine xr_iconst (pc := 28) X dX6_readText_28 (v := 0) (by decide) ?_
    exact xr_iret (pc := 29) X (Nat.le_of_ble_eq_true rfl) (Nat.le_of_ble_eq_true rfl) dX6_readText_29
  refine xr_aload_n (pc := 17) X (i := 0) 0 rfl rfl dX6_readText_17 ?_
  refine xgX6 (pc := 18) X (oo0) hh0.1 1 wm_5_20 rfl rfl (by decide) rfl dX6_readText_18 ?_
  refine xr_iconst (pc := 21) X dX6_readText_21 (v := 0) (by decide) ?_
  refine xr_iald (pc := 22) X (oo0 + 1) (120) hh0.2.1.1 hh0.2.1.2 dX6_readText_22 (fun zz3 => ?_)
  refine xr_bipush (pc := 23) X dX6_readText_23 (v := 78) (by decide) ?_
  refine xr_icmp_eq (pc := 25) X 30 (by decide) dX6_readText_25 (fun _ => ?_) (fun _ => ?_)
  · refine xr_aload_n (pc := 30) X (i := 0) 0 rfl rfl dX6_readText_30 ?_
    refine xr_iconst (pc := 31) X dX6_readText_31 (v := 1) (by decide) ?_
    refine xpX6 (pc := 32) X (oo0) hh0.1 10 wm_10_20 (ty := .int) rfl (fun _ => rfl) rfl (by decide +kernel) rfl rfl (Nat.le_of_ble_eq_true rfl) (by decide) rfl dX6_readText_32 (fun σ4 => ?_)
    refine xr_aload_n (pc := 35) X (i := 0) 0 rfl rfl dX6_readText_35 ?_
    refine xr_iconst (pc := 36) X dX6_readText_36 (v := 0) (by decide) ?_
    refine xr_iconst (pc := 37) X dX6_readText_37 (v := 1) (by decide) ?_
    refine xr_iconst (pc := 38) X dX6_readText_38 (v := 1) (by decide) ?_
    refine xr_iconst (pc := 39) X dX6_readText_39 (v := 4) (by decide) ?_
    refine xr_callVI (na := 4) (pc := 40) X (oo0) [.int 0, .int 1, .int 1, .int 4] _ (c_X6_figures Γ.2.1 hI oo0 hh0 0 1 1 4 σ4) (wG_V wm_11_0 wm_10_21 wm_10_22 wm_10_23 wm_1_5) rfl rfl rfl (by decide +kernel) ⟨Nat.le_of_ble_eq_true rfl, Nat.le_of_ble_eq_true rfl⟩ hh0.1.1 hh0.1.2 rfl (T := TX6) (C := RX6) rfl rfl rfl (Nat.le_of_ble_eq_true rfl) ⟨Nat.le_of_ble_eq_true rfl, Nat.le_of_ble_eq_true rfl⟩ dX6_readText_40 (fun zz6 σ5 => ?_)
    refine xr_istore_n (pc := 43) X (hf := rfl) (i := 2) [1, 2, 0] (Nat.le_of_ble_eq_true rfl) hnL rfl dX6_readText_43 ?_
    refine xr_iload_n (pc := 44) X (i := 2) 2 rfl rfl dX6_readText_44 ?_
    refine xr_iconst (pc := 45) X dX6_readText_45 (v := (-1)) (by decide) ?_
    refine xr_icmp_ne (pc := 46) X 54 (by decide) dX6_readText_46 (fun _ => ?_) (fun _ => ?_)
    · refine xr_aload_n (pc := 54) X (i := 1) 1 rfl rfl dX6_readText_54 ?_
      refine xr_iload_n (pc := 55) X (i := 2) 2 rfl rfl dX6_readText_55 ?_
      refine xr_callSV (na := 2) (pc := 56) X [.ref (ad aa1), .int zz6] (c_X6_clear Γ.2.1 hI nn1 aa1 hh1 zz6 σ5) (wG_S wm_6_5 wm_6_3 wm_6_4 wm_1_5) rfl rfl rfl (by decide +kernel) ⟨Nat.le_of_ble_eq_true rfl, Nat.le_of_ble_eq_true rfl⟩ rfl rfl (Nat.le_of_ble_eq_true rfl) ⟨Nat.le_of_ble_eq_true rfl, Nat.le_of_ble_eq_true rfl⟩ dX6_readText_56 (fun σ7 => ?_)
      refine xr_aload_n (pc := 59) X (i := 1) 1 rfl rfl dX6_readText_59 ?_
      refine xr_callSV (na := 1) (pc := 60) X [.ref (ad aa1)] (c_X6_firstSettings Γ.2.1 hI nn1 aa1 hh1 σ7) (wG_S wm_6_11 wm_6_9 wm_6_10 wm_1_5) rfl rfl rfl (by decide +kernel) ⟨Nat.le_of_ble_eq_true rfl, Nat.le_of_ble_eq_true rfl⟩ rfl rfl (Nat.le_of_ble_eq_true rfl) ⟨Nat.le_of_ble_eq_true rfl, Nat.le_of_ble_eq_true rfl⟩ dX6_readText_60 (fun σ8 => ?_)
      have hLL20 : ∀ (KK10 : xS → Option (Int32 × xS)) (KK13 : xS → Option (Int32 × xS)) (hKK11 : ∀ σ9, xM Γ D ad N Sh (xQI Γ D ad N Sh 0 0) 0 0 (KK10 σ9) σ9 82 [(0, .ref (ad oo0))] []) (hKK14 : ∀ σ12, xM Γ D ad N Sh (xQI Γ D ad N Sh 0 0) 0 0 (KK13 σ12) σ12 87 [] []), ∀ (nn_16 : Nat) σ15, xM Γ D ad N Sh (xQI Γ D ad N Sh 0 0) 0 0 (L_X6_readText_63 oo0 nn1 aa1 KK10 KK13 nn_16 σ15) σ15 63 [(0, .ref (ad oo0)), (1, .ref (ad aa1))] [] := by
        intro KK10 KK13 hKK11 hKK14 nn_16
        induction nn_16 with
        | zero => intro σ15; exact xM_none
        | succ nn_16 ihh17 =>
          intro σ15
          rw [L_X6_readText_63]
          refine xr_aload_n (pc := 63) X (i := 0) 0 rfl rfl dX6_readText_63 ?_
          refine xgX6 (pc := 64) X (oo0) hh0.1 10 wm_10_20 rfl rfl (by decide) rfl dX6_readText_64 ?_
          refine xr_aload_n (pc := 67) X (i := 0) 0 rfl rfl dX6_readText_67 ?_
          refine xgX6 (pc := 68) X (oo0) hh0.1 2 wm_7_22 rfl rfl (by decide) rfl dX6_readText_68 ?_
          refine xr_icmp_ge (pc := 71) X 87 (by decide) dX6_readText_71 (fun _ => ?_) (fun _ => ?_)
          · exact x_sub [] rfl (hKK14  _)
          refine xr_aload_n (pc := 74) X (i := 0) 0 rfl rfl dX6_readText_74 ?_
          refine xr_aload_n (pc := 75) X (i := 1) 1 rfl rfl dX6_readText_75 ?_
          refine xr_callVI (na := 1) (pc := 76) X (oo0) [.ref (ad aa1)] _ (c_X6_readCommand Γ.2.1 hI oo0 hh0 nn1 aa1 hh1 σ15) (wG_V wm_11_5 wm_11_2 wm_11_3 wm_11_4 wm_1_5) rfl rfl rfl (by decide +kernel) ⟨Nat.le_of_ble_eq_true rfl, Nat.le_of_ble_eq_true rfl⟩ hh0.1.1 hh0.1.2 rfl (T := TX6) (C := RX6) rfl rfl rfl (Nat.le_of_ble_eq_true rfl) ⟨Nat.le_of_ble_eq_true rfl, Nat.le_of_ble_eq_true rfl⟩ dX6_readText_76 (fun zz19 σ18 => ?_)
          refine xr_if_ne (pc := 79) X 63 (by decide) dX6_readText_79 (fun _ => ?_) (fun _ => ?_)
          · exact ihh17  _
          exact x_sub [0] rfl (hKK11  _)
      refine x_sub [0, 1] rfl (hLL20 _ _ (fun σ9 => ?_) (fun σ12 => ?_) _ _)
      · refine xr_aload_n (pc := 82) X (i := 0) 0 rfl rfl dX6_readText_82 ?_
        refine xgX6 (pc := 83) X (oo0) hh0.1 10 wm_10_20 rfl rfl (by decide) rfl dX6_readText_83 ?_
        exact xr_iret (pc := 86) X (Nat.le_of_ble_eq_true rfl) (Nat.le_of_ble_eq_true rfl) dX6_readText_86
      refine xr_iconst (pc := 87) X dX6_readText_87 (v := (-1)) (by decide) ?_
      exact xr_iret (pc := 88) X (Nat.le_of_ble_eq_true rfl) (Nat.le_of_ble_eq_true rfl) dX6_readText_88
    refine xr_aload_n (pc := 49) X (i := 0) 0 rfl rfl dX6_readText_49 ?_
    refine xgX6 (pc := 50) X (oo0) hh0.1 10 wm_10_20 rfl rfl (by decide) rfl dX6_readText_50 ?_
    exact xr_iret (pc := 53) X (Nat.le_of_ble_eq_true rfl) (Nat.le_of_ble_eq_true rfl) dX6_readText_53
  refine xr_iconst (pc := 28) X dX6_readText_28 (v := 0) (by decide) ?_
  exact xr_iret (pc := 29) X (Nat.le_of_ble_eq_true rfl) (Nat.le_of_ble_eq_true rfl) dX6_readText_29
def F_X6_errorPosition (oo0 : Nat) (σ : xS) : Option (Int32 × xS) :=
  xlet (xu σ oo0 0 0) (fun (σ1 : xS) => xbI (F_X6_readText oo0 187 (oo0 + 3) σ1) (fun (zz3 : Int32) (σ2 : xS) => some (zz3, σ2)))
abbrev rm_X6_errorPosition : Room := { frames := 10, cells := 0, slots := 0, locals := 231 }
set_option maxHeartbeats 4000000 in
set_option maxRecDepth 100000 in
theorem c_X6_errorPosition (l : Launch) {D : va_G} {ad : Nat → Nat} {N : Nat} {Sh : xSh} (hI : ∀ i j, i < N → j < N → ad i = ad j → i = j) (oo0 : Nat) (hh0 : xIs6 D ad N Sh oo0) (σ : xS) : xKI l yX6_errorPosition (Cond.code yX6_errorPosition cX6_errorPosition 1 (some .int) :: wG) rm_X6_errorPosition 0 0 D ad N Sh [.ref (ad oo0)] σ (F_X6_errorPosition oo0 σ) := by
  refine x_startI (own := RX6) (maxL := 1) (by decide) rfl rfl (Nat.le_of_ble_eq_true rfl) rfl hI (fun Γ hl hnL X => ?_)
  subst hl
  unfold F_X6_errorPosition
  refine xr_aload_n (pc := 0) X (i := 0) 0 rfl rfl dX6_errorPosition_0 ?_
  refine xr_iconst (pc := 1) X dX6_errorPosition_1 (v := 0) (by decide) ?_
  refine xpX6 (pc := 2) X (oo0) hh0.1 0 wm_8_6 (ty := .int) rfl (fun _ => rfl) rfl (by decide +kernel) rfl rfl (Nat.le_of_ble_eq_true rfl) (by decide) rfl dX6_errorPosition_2 (fun σ1 => ?_)
  refine xr_aload_n (pc := 5) X (i := 0) 0 rfl rfl dX6_errorPosition_5 ?_
  refine xr_aload_n (pc := 6) X (i := 0) 0 rfl rfl dX6_errorPosition_6 ?_
  refine xgX6 (pc := 7) X (oo0) hh0.1 4 wm_5_22 rfl rfl (by decide) rfl dX6_errorPosition_7 ?_
  refine xr_callVI (na := 1) (pc := 10) X (oo0) [.ref (ad (oo0 + 3))] _ (c_X6_readText Γ.2.1 hI oo0 hh0 187 (oo0 + 3) hh0.2.2.2.1 σ1) (wG_V wm_10_18 wm_10_15 wm_10_16 wm_10_17 wm_1_5) rfl rfl rfl (by decide +kernel) ⟨Nat.le_of_ble_eq_true rfl, Nat.le_of_ble_eq_true rfl⟩ hh0.1.1 hh0.1.2 rfl (T := TX6) (C := RX6) rfl rfl rfl (Nat.le_of_ble_eq_true rfl) ⟨Nat.le_of_ble_eq_true rfl, Nat.le_of_ble_eq_true rfl⟩ dX6_errorPosition_10 (fun zz3 σ2 => ?_)
  exact xr_iret (pc := 13) X (Nat.le_of_ble_eq_true rfl) (Nat.le_of_ble_eq_true rfl) dX6_errorPosition_13
def F_X6_load (oo0 : Nat) (σ : xS) : Option (Int32 × xS) :=
  xbI (F_X6_readText oo0 187 (oo0 + 3) σ) (fun (zz2 : Int32) (σ1 : xS) => xjn (fun (zz3 : Int32) (σ4 : xS) => xbI (F_X6_refused oo0 zz3 σ4) (fun (zz6 : Int32) (σ5 : xS) => if zz6 = 0 then (xbV (F_X6_copyState 187 (oo0 + 3) 0 187 (oo0 + 2) 0 σ5) (fun (σ7 : xS) => xlet (xu σ7 oo0 7 0) (fun (σ8 : xS) => if xin (0 : Int32) 2 = true then (xlet (xu σ8 (oo0 + 7) (0 : Int32).toNatClampNeg (vp_nar .boolean (0 : Int32))) (fun (σ9 : xS) => if xin (1 : Int32) 2 = true then (xlet (xu σ9 (oo0 + 7) (1 : Int32).toNatClampNeg (vp_nar .boolean (0 : Int32))) (fun (σ10 : xS) => some ((σ10 oo0 11), σ10))) else none)) else none)))
 else (some ((0 : Int32), σ5))))
 (fun (KK11 : Int32 → xS → Option (Int32 × xS)) => if ¬ zz2 = ((-1)) then (KK11 1 σ1)
 else (KK11 0 σ1)))
abbrev rm_X6_load : Room := { frames := 10, cells := 0, slots := 0, locals := 231 }
set_option maxHeartbeats 4000000 in
set_option maxRecDepth 100000 in
theorem c_X6_load (l : Launch) {D : va_G} {ad : Nat → Nat} {N : Nat} {Sh : xSh} (hI : ∀ i j, i < N → j < N → ad i = ad j → i = j) (oo0 : Nat) (hh0 : xIs6 D ad N Sh oo0) (σ : xS) : xKI l yX6_load (Cond.code yX6_load cX6_load 1 (some .int) :: wG) rm_X6_load 0 0 D ad N Sh [.ref (ad oo0)] σ (F_X6_load oo0 σ) := by
  refine x_startI (own := RX6) (maxL := 1) (by decide) rfl rfl (Nat.le_of_ble_eq_true rfl) rfl hI (fun Γ hl hnL X => ?_)
  subst hl
  unfold F_X6_load
  refine xr_aload_n (pc := 0) X (i := 0) 0 rfl rfl dX6_load_0 ?_
  refine xr_aload_n (pc := 1) X (i := 0) 0 rfl rfl dX6_load_1 ?_
  refine xr_aload_n (pc := 2) X (i := 0) 0 rfl rfl dX6_load_2 ?_
  refine xgX6 (pc := 3) X (oo0) hh0.1 4 wm_5_22 rfl rfl (by decide) rfl dX6_load_3 ?_
  refine xr_callVI (na := 1) (pc := 6) X (oo0) [.ref (ad (oo0 + 3))] _ (c_X6_readText Γ.2.1 hI oo0 hh0 187 (oo0 + 3) hh0.2.2.2.1 σ) (wG_V wm_10_18 wm_10_15 wm_10_16 wm_10_17 wm_1_5) rfl rfl rfl (by decide +kernel) ⟨Nat.le_of_ble_eq_true rfl, Nat.le_of_ble_eq_true rfl⟩ hh0.1.1 hh0.1.2 rfl (T := TX6) (C := RX6) rfl rfl rfl (Nat.le_of_ble_eq_true rfl) ⟨Nat.le_of_ble_eq_true rfl, Nat.le_of_ble_eq_true rfl⟩ dX6_load_6 (fun zz2 σ1 => ?_)
  refine xr_iconst (pc := 9) X dX6_load_9 (v := (-1)) (by decide) ?_
  refine x_jn (fun (KK11 : Int32 → xS → Option (Int32 × xS)) => ∀ zz3 σ4, xM Γ D ad N Sh (xQI Γ D ad N Sh 0 0) 0 0 (KK11 zz3 σ4) σ4 18 [(0, .ref (ad oo0))] [.int zz3, .ref (ad oo0)]) (fun zz3 σ4 => ?_) (fun KK11 hKK12 => ?_)
  · refine xr_callVI (na := 1) (pc := 18) X (oo0) [.int zz3] _ (c_X6_refused Γ.2.1 hI oo0 hh0 zz3 σ4) (wG_V wm_8_5 wm_8_2 wm_8_3 wm_8_4 wm_1_5) rfl rfl rfl (by decide +kernel) ⟨Nat.le_of_ble_eq_true rfl, Nat.le_of_ble_eq_true rfl⟩ hh0.1.1 hh0.1.2 rfl (T := TX6) (C := RX6) rfl rfl rfl (Nat.le_of_ble_eq_true rfl) ⟨Nat.le_of_ble_eq_true rfl, Nat.le_of_ble_eq_true rfl⟩ dX6_load_18 (fun zz6 σ5 => ?_)
    refine xr_if_eq (pc := 21) X 26 (by decide) dX6_load_21 (fun _ => ?_) (fun _ => ?_)
    · refine xr_aload_n (pc := 26) X (i := 0) 0 rfl rfl dX6_load_26 ?_
      refine xgX6 (pc := 27) X (oo0) hh0.1 4 wm_5_22 rfl rfl (by decide) rfl dX6_load_27 ?_
      refine xr_iconst (pc := 30) X dX6_load_30 (v := 0) (by decide) ?_
      refine xr_aload_n (pc := 31) X (i := 0) 0 rfl rfl dX6_load_31 ?_
      refine xgX6 (pc := 32) X (oo0) hh0.1 3 wm_5_21 rfl rfl (by decide) rfl dX6_load_32 ?_
      refine xr_iconst (pc := 35) X dX6_load_35 (v := 0) (by decide) ?_
      refine xr_callSV (na := 4) (pc := 36) X [.ref (ad (oo0 + 3)), .int 0, .ref (ad (oo0 + 2)), .int 0] (c_X6_copyState Γ.2.1 hI 187 (oo0 + 3) hh0.2.2.2.1 0 187 (oo0 + 2) hh0.2.2.1 0 σ5) (wG_S wm_18_9 wm_18_7 wm_18_8 wm_1_5) rfl rfl rfl (by decide +kernel) ⟨Nat.le_of_ble_eq_true rfl, Nat.le_of_ble_eq_true rfl⟩ rfl rfl (Nat.le_of_ble_eq_true rfl) ⟨Nat.le_of_ble_eq_true rfl, Nat.le_of_ble_eq_true rfl⟩ dX6_load_36 (fun σ7 => ?_)
      refine xr_aload_n (pc := 39) X (i := 0) 0 rfl rfl dX6_load_39 ?_
      refine xr_iconst (pc := 40) X dX6_load_40 (v := 0) (by decide) ?_
      refine xpX6 (pc := 41) X (oo0) hh0.1 7 wm_18_6 (ty := .int) rfl (fun _ => rfl) rfl (by decide +kernel) rfl rfl (Nat.le_of_ble_eq_true rfl) (by decide) rfl dX6_load_41 (fun σ8 => ?_)
      refine xr_aload_n (pc := 44) X (i := 0) 0 rfl rfl dX6_load_44 ?_
      refine xgX6 (pc := 45) X (oo0) hh0.1 9 wm_6_2 rfl rfl (by decide) rfl dX6_load_45 ?_
      refine xr_iconst (pc := 48) X dX6_load_48 (v := 0) (by decide) ?_
      refine xr_iconst (pc := 49) X dX6_load_49 (v := 0) (by decide) ?_
      refine xr_zast (pc := 50) X (oo0 + 7) (2) hh0.2.2.2.2.2.2.2.1 hh0.2.2.2.2.2.2.2.2 dX6_load_50 (fun σ9 => ?_)
      refine xr_aload_n (pc := 51) X (i := 0) 0 rfl rfl dX6_load_51 ?_
      refine xgX6 (pc := 52) X (oo0) hh0.1 9 wm_6_2 rfl rfl (by decide) rfl dX6_load_52 ?_
      refine xr_iconst (pc := 55) X dX6_load_55 (v := 1) (by decide) ?_
      refine xr_iconst (pc := 56) X dX6_load_56 (v := 0) (by decide) ?_
      refine xr_zast (pc := 57) X (oo0 + 7) (2) hh0.2.2.2.2.2.2.2.1 hh0.2.2.2.2.2.2.2.2 dX6_load_57 (fun σ10 => ?_)
      refine xr_aload_n (pc := 58) X (i := 0) 0 rfl rfl dX6_load_58 ?_
      refine xgX6 (pc := 59) X (oo0) hh0.1 11 wm_10_19 rfl rfl (by decide) rfl dX6_load_59 ?_
      exact xr_iret (pc := 62) X (Nat.le_of_ble_eq_true rfl) (Nat.le_of_ble_eq_true rfl) dX6_load_62
    refine xr_iconst (pc := 24) X dX6_load_24 (v := 0) (by decide) ?_
    exact xr_iret (pc := 25) X (Nat.le_of_ble_eq_true rfl) (Nat.le_of_ble_eq_true rfl) dX6_load_25
  refine xr_icmp_ne (pc := 10) X 17 (by decide) dX6_load_10 (fun _ => ?_) (fun _ => ?_)
  · refine xr_iconst (pc := 17) X dX6_load_17 (v := 1) (by decide) ?_
    exact hKK12 _ _
  refine xr_iconst (pc := 13) X dX6_load_13 (v := 0) (by decide) ?_
  refine xr_goto (pc := 14) X 18 (by decide) dX6_load_14 ?_
  exact hKK12 _ _
def F_X6_about (oo0 : Nat) (pp1 : Int32) (σ : xS) : Option (Int32 × xS) :=
  xbI (F_X6_in pp1.toInt64 0 8 σ) (fun (zz2 : Int32) (σ1 : xS) => xjn (fun (zz3 : Int32) (σ4 : xS) => xbI (F_X6_refused oo0 zz3 σ4) (fun (zz6 : Int32) (σ5 : xS) => if zz6 = 0 then (if pp1 = 3 then (xbI (F_X6_sum 187 (oo0 + 2) 0 σ5) (fun (zz8 : Int32) (σ7 : xS) => some (zz8, σ7)))
 else (if pp1 = 4 then (xbI (F_X6_sum 187 (oo0 + 2) 6 σ5) (fun (zz11 : Int32) (σ10 : xS) => some (zz11, σ10)))
 else (if pp1 = 5 then (xbI (F_X6_sum 187 (oo0 + 2) 3 σ5) (fun (zz14 : Int32) (σ13 : xS) => some (zz14, σ13)))
 else (if pp1 = 6 then (xbI (F_X6_sum 187 (oo0 + 2) 12 σ5) (fun (zz17 : Int32) (σ16 : xS) => some (zz17, σ16)))
 else (if pp1 = 7 then (xbI (F_X6_sum 187 (oo0 + 2) 8 σ5) (fun (zz20 : Int32) (σ19 : xS) => some (zz20, σ19)))
 else (if pp1 = 8 then (xbI (F_X6_sum 187 (oo0 + 2) 4 σ5) (fun (zz23 : Int32) (σ22 : xS) => some (zz23, σ22)))
 else (if xin pp1 187 = true then (xlet (σ5 (oo0 + 2) pp1.toNatClampNeg) (fun (zz25 : Int32) => some (zz25, σ5))) else none)))))))
 else (some ((0 : Int32), σ5))))
 (fun (KK26 : Int32 → xS → Option (Int32 × xS)) => if zz2 = 0 then (KK26 1 σ1)
 else (KK26 0 σ1)))
abbrev rm_X6_about : Room := { frames := 2, cells := 0, slots := 0, locals := 45 }
set_option maxHeartbeats 4000000 in
set_option maxRecDepth 100000 in
theorem c_X6_about (l : Launch) {D : va_G} {ad : Nat → Nat} {N : Nat} {Sh : xSh} (hI : ∀ i j, i < N → j < N → ad i = ad j → i = j) (oo0 : Nat) (hh0 : xIs6 D ad N Sh oo0) (pp1 : Int32) (σ : xS) : xKI l yX6_about (Cond.code yX6_about cX6_about 2 (some .int) :: wG) rm_X6_about 0 0 D ad N Sh [.ref (ad oo0), .int pp1] σ (F_X6_about oo0 pp1 σ) := by
  refine x_startI (own := RX6) (maxL := 2) (by decide) rfl rfl (Nat.le_of_ble_eq_true rfl) rfl hI (fun Γ hl hnL X => ?_)
  subst hl
  unfold F_X6_about
  refine xr_aload_n (pc := 0) X (i := 0) 0 rfl rfl dX6_about_0 ?_
  refine xr_iload_n (pc := 1) X (i := 1) 1 rfl rfl dX6_about_1 ?_
  refine xr_i2l (pc := 2) X dX6_about_2 ?_
  refine xr_lconst (pc := 3) X dX6_about_3 (v := 0) rfl ?_
  refine xr_ldc2 (pc := 4) X dX6_about_4 (List.mem_cons_of_mem _ wm_19_13) ?_
  refine xr_callSI (na := 3) (pc := 7) X [.long pp1.toInt64, .long 0, .long 8] (c_X6_in Γ.2.1 hI pp1.toInt64 0 8 σ) (wG_S wm_8_1 wm_7_23 wm_8_0 wm_1_5) rfl rfl rfl (by decide +kernel) ⟨Nat.le_of_ble_eq_true rfl, Nat.le_of_ble_eq_true rfl⟩ rfl rfl (Nat.le_of_ble_eq_true rfl) ⟨Nat.le_of_ble_eq_true rfl, Nat.le_of_ble_eq_true rfl⟩ dX6_about_7 (fun zz2 σ1 => ?_)
  refine x_jn (fun (KK26 : Int32 → xS → Option (Int32 × xS)) => ∀ zz3 σ4, xM Γ D ad N Sh (xQI Γ D ad N Sh 0 0) 0 0 (KK26 zz3 σ4) σ4 18 [(0, .ref (ad oo0)), (1, .int pp1)] [.int zz3, .ref (ad oo0)]) (fun zz3 σ4 => ?_) (fun KK26 hKK27 => ?_)
  · refine xr_callVI (na := 1) (pc := 18) X (oo0) [.int zz3] _ (c_X6_refused Γ.2.1 hI oo0 hh0 zz3 σ4) (wG_V wm_8_5 wm_8_2 wm_8_3 wm_8_4 wm_1_5) rfl rfl rfl (by decide +kernel) ⟨Nat.le_of_ble_eq_true rfl, Nat.le_of_ble_eq_true rfl⟩ hh0.1.1 hh0.1.2 rfl (T := TX6) (C := RX6) rfl rfl rfl (Nat.le_of_ble_eq_true rfl) ⟨Nat.le_of_ble_eq_true rfl, Nat.le_of_ble_eq_true rfl⟩ dX6_about_18 (fun zz6 σ5 => ?_)
    refine xr_if_eq (pc := 21) X 26 (by decide) dX6_about_21 (fun _ => ?_) (fun _ => ?_)
    · refine xr_iload_n (pc := 26) X (i := 1) 1 rfl rfl dX6_about_26 ?_
      refine x_if (fun hcc9 => ?_) (fun hcc9 => ?_)
      · refine xr_tin (off := 37) (pc := 27) X 64 dX6_about_27 (by rw [hcc9]; decide) (by rw [hcc9]; decide) (by rw [hcc9]; rfl) (by decide) ?_
        refine xr_aload_n (pc := 64) X (i := 0) 0 rfl rfl dX6_about_64 ?_
        refine xgX6 (pc := 65) X (oo0) hh0.1 3 wm_5_21 rfl rfl (by decide) rfl dX6_about_65 ?_
        refine xr_iconst (pc := 68) X dX6_about_68 (v := 0) (by decide) ?_
        refine xr_callSI (na := 2) (pc := 69) X [.ref (ad (oo0 + 2)), .int 0] (c_X6_sum Γ.2.1 hI 187 (oo0 + 2) hh0.2.2.1 0 σ5) (wG_S wm_12_18 wm_12_16 wm_12_17 wm_1_5) rfl rfl rfl (by decide +kernel) ⟨Nat.le_of_ble_eq_true rfl, Nat.le_of_ble_eq_true rfl⟩ rfl rfl (Nat.le_of_ble_eq_true rfl) ⟨Nat.le_of_ble_eq_true rfl, Nat.le_of_ble_eq_true rfl⟩ dX6_about_69 (fun zz8 σ7 => ?_)
        exact xr_iret (pc := 72) X (Nat.le_of_ble_eq_true rfl) (Nat.le_of_ble_eq_true rfl) dX6_about_72
      refine x_if (fun hcc12 => ?_) (fun hcc12 => ?_)
      · refine xr_tin (off := 46) (pc := 27) X 73 dX6_about_27 (by rw [hcc12]; decide) (by rw [hcc12]; decide) (by rw [hcc12]; rfl) (by decide) ?_
        refine xr_aload_n (pc := 73) X (i := 0) 0 rfl rfl dX6_about_73 ?_
        refine xgX6 (pc := 74) X (oo0) hh0.1 3 wm_5_21 rfl rfl (by decide) rfl dX6_about_74 ?_
        refine xr_bipush (pc := 77) X dX6_about_77 (v := 6) (by decide) ?_
        refine xr_callSI (na := 2) (pc := 79) X [.ref (ad (oo0 + 2)), .int 6] (c_X6_sum Γ.2.1 hI 187 (oo0 + 2) hh0.2.2.1 6 σ5) (wG_S wm_12_18 wm_12_16 wm_12_17 wm_1_5) rfl rfl rfl (by decide +kernel) ⟨Nat.le_of_ble_eq_true rfl, Nat.le_of_ble_eq_true rfl⟩ rfl rfl (Nat.le_of_ble_eq_true rfl) ⟨Nat.le_of_ble_eq_true rfl, Nat.le_of_ble_eq_true rfl⟩ dX6_about_79 (fun zz11 σ10 => ?_)
        exact xr_iret (pc := 82) X (Nat.le_of_ble_eq_true rfl) (Nat.le_of_ble_eq_true rfl) dX6_about_82
      refine x_if (fun hcc15 => ?_) (fun hcc15 => ?_)
      · refine xr_tin (off := 56) (pc := 27) X 83 dX6_about_27 (by rw [hcc15]; decide) (by rw [hcc15]; decide) (by rw [hcc15]; rfl) (by decide) ?_
        refine xr_aload_n (pc := 83) X (i := 0) 0 rfl rfl dX6_about_83 ?_
        refine xgX6 (pc := 84) X (oo0) hh0.1 3 wm_5_21 rfl rfl (by decide) rfl dX6_about_84 ?_
        refine xr_iconst (pc := 87) X dX6_about_87 (v := 3) (by decide) ?_
        refine xr_callSI (na := 2) (pc := 88) X [.ref (ad (oo0 + 2)), .int 3] (c_X6_sum Γ.2.1 hI 187 (oo0 + 2) hh0.2.2.1 3 σ5) (wG_S wm_12_18 wm_12_16 wm_12_17 wm_1_5) rfl rfl rfl (by decide +kernel) ⟨Nat.le_of_ble_eq_true rfl, Nat.le_of_ble_eq_true rfl⟩ rfl rfl (Nat.le_of_ble_eq_true rfl) ⟨Nat.le_of_ble_eq_true rfl, Nat.le_of_ble_eq_true rfl⟩ dX6_about_88 (fun zz14 σ13 => ?_)
        exact xr_iret (pc := 91) X (Nat.le_of_ble_eq_true rfl) (Nat.le_of_ble_eq_true rfl) dX6_about_91
      refine x_if (fun hcc18 => ?_) (fun hcc18 => ?_)
      · refine xr_tin (off := 65) (pc := 27) X 92 dX6_about_27 (by rw [hcc18]; decide) (by rw [hcc18]; decide) (by rw [hcc18]; rfl) (by decide) ?_
        refine xr_aload_n (pc := 92) X (i := 0) 0 rfl rfl dX6_about_92 ?_
        refine xgX6 (pc := 93) X (oo0) hh0.1 3 wm_5_21 rfl rfl (by decide) rfl dX6_about_93 ?_
        refine xr_bipush (pc := 96) X dX6_about_96 (v := 12) (by decide) ?_
        refine xr_callSI (na := 2) (pc := 98) X [.ref (ad (oo0 + 2)), .int 12] (c_X6_sum Γ.2.1 hI 187 (oo0 + 2) hh0.2.2.1 12 σ5) (wG_S wm_12_18 wm_12_16 wm_12_17 wm_1_5) rfl rfl rfl (by decide +kernel) ⟨Nat.le_of_ble_eq_true rfl, Nat.le_of_ble_eq_true rfl⟩ rfl rfl (Nat.le_of_ble_eq_true rfl) ⟨Nat.le_of_ble_eq_true rfl, Nat.le_of_ble_eq_true rfl⟩ dX6_about_98 (fun zz17 σ16 => ?_)
        exact xr_iret (pc := 101) X (Nat.le_of_ble_eq_true rfl) (Nat.le_of_ble_eq_true rfl) dX6_about_101
      refine x_if (fun hcc21 => ?_) (fun hcc21 => ?_)
      · refine xr_tin (off := 75) (pc := 27) X 102 dX6_about_27 (by rw [hcc21]; decide) (by rw [hcc21]; decide) (by rw [hcc21]; rfl) (by decide) ?_
        refine xr_aload_n (pc := 102) X (i := 0) 0 rfl rfl dX6_about_102 ?_
        refine xgX6 (pc := 103) X (oo0) hh0.1 3 wm_5_21 rfl rfl (by decide) rfl dX6_about_103 ?_
        refine xr_bipush (pc := 106) X dX6_about_106 (v := 8) (by decide) ?_
        refine xr_callSI (na := 2) (pc := 108) X [.ref (ad (oo0 + 2)), .int 8] (c_X6_sum Γ.2.1 hI 187 (oo0 + 2) hh0.2.2.1 8 σ5) (wG_S wm_12_18 wm_12_16 wm_12_17 wm_1_5) rfl rfl rfl (by decide +kernel) ⟨Nat.le_of_ble_eq_true rfl, Nat.le_of_ble_eq_true rfl⟩ rfl rfl (Nat.le_of_ble_eq_true rfl) ⟨Nat.le_of_ble_eq_true rfl, Nat.le_of_ble_eq_true rfl⟩ dX6_about_108 (fun zz20 σ19 => ?_)
        exact xr_iret (pc := 111) X (Nat.le_of_ble_eq_true rfl) (Nat.le_of_ble_eq_true rfl) dX6_about_111
      refine x_if (fun hcc24 => ?_) (fun hcc24 => ?_)
      · refine xr_tin (off := 85) (pc := 27) X 112 dX6_about_27 (by rw [hcc24]; decide) (by rw [hcc24]; decide) (by rw [hcc24]; rfl) (by decide) ?_
        refine xr_aload_n (pc := 112) X (i := 0) 0 rfl rfl dX6_about_112 ?_
        refine xgX6 (pc := 113) X (oo0) hh0.1 3 wm_5_21 rfl rfl (by decide) rfl dX6_about_113 ?_
        refine xr_iconst (pc := 116) X dX6_about_116 (v := 4) (by decide) ?_
        refine xr_callSI (na := 2) (pc := 117) X [.ref (ad (oo0 + 2)), .int 4] (c_X6_sum Γ.2.1 hI 187 (oo0 + 2) hh0.2.2.1 4 σ5) (wG_S wm_12_18 wm_12_16 wm_12_17 wm_1_5) rfl rfl rfl (by decide +kernel) ⟨Nat.le_of_ble_eq_true rfl, Nat.le_of_ble_eq_true rfl⟩ rfl rfl (Nat.le_of_ble_eq_true rfl) ⟨Nat.le_of_ble_eq_true rfl, Nat.le_of_ble_eq_true rfl⟩ dX6_about_117 (fun zz23 σ22 => ?_)
        exact xr_iret (pc := 120) X (Nat.le_of_ble_eq_true rfl) (Nat.le_of_ble_eq_true rfl) dX6_about_120
      refine xr_tout (pc := 27) X 121 dX6_about_27 (by have g0 := xne hcc9 (j := 3) (by decide); have g1 := xne hcc12 (j := 4) (by decide); have g2 := xne hcc15 (j := 5) (by decide); have g3 := xne hcc18 (j := 6) (by decide); have g4 := xne hcc21 (j := 7) (by decide); have g5 := xne hcc24 (j := 8) (by decide); omega) (by decide) ?_
      refine xr_aload_n (pc := 121) X (i := 0) 0 rfl rfl dX6_about_121 ?_
      refine xgX6 (pc := 122) X (oo0) hh0.1 3 wm_5_21 rfl rfl (by decide) rfl dX6_about_122 ?_
      refine xr_iload_n (pc := 125) X (i := 1) 1 rfl rfl dX6_about_125 ?_
      refine xr_iald (pc := 126) X (oo0 + 2) (187) hh0.2.2.1.1 hh0.2.2.1.2 dX6_about_126 (fun zz25 => ?_)
      exact xr_iret (pc := 127) X (Nat.le_of_ble_eq_true rfl) (Nat.le_of_ble_eq_true rfl) dX6_about_127
    refine xr_iconst (pc := 24) X dX6_about_24 (v := 0) (by decide) ?_
    exact xr_iret (pc := 25) X (Nat.le_of_ble_eq_true rfl) (Nat.le_of_ble_eq_true rfl) dX6_about_25
  refine xr_if_eq (pc := 10) X 17 (by decide) dX6_about_10 (fun _ => ?_) (fun _ => ?_)
  · refine xr_iconst (pc := 17) X dX6_about_17 (v := 1) (by decide) ?_
    exact hKK27 _ _
  refine xr_iconst (pc := 13) X dX6_about_13 (v := 0) (by decide) ?_
  refine xr_goto (pc := 14) X 18 (by decide) dX6_about_14 ?_
  exact hKK27 _ _
def F_X6_writer (oo0 : Nat) (pp1 : Int32) (pp2 : Int32) (σ : xS) : Option (Int32 × xS) :=
  xbI (F_X6_isWriter 187 (oo0 + 2) pp1 σ) (fun (zz2 : Int32) (σ1 : xS) => xjn (fun (zz3 : Int32) (σ4 : xS) => xbI (F_X6_refused oo0 zz3 σ4) (fun (zz6 : Int32) (σ5 : xS) => if zz6 = 0 then (if ¬ pp2 = 0 then (if ¬ pp2 = 1 then (xbI (F_X6_of 187 (oo0 + 2) pp1 (pp2 - 1) σ5) (fun (zz8 : Int32) (σ7 : xS) => some (zz8, σ7)))
 else (xbI (F_X6_of 187 (oo0 + 2) pp1 6 σ5) (fun (zz10 : Int32) (σ9 : xS) => some (zz10, σ9))))
 else (xbI (F_X6_of 187 (oo0 + 2) pp1 0 σ5) (fun (zz12 : Int32) (σ11 : xS) => some (zz12, σ11))))
 else (some ((0 : Int32), σ5))))
 (fun (KK13 : Int32 → xS → Option (Int32 × xS)) => if ¬ zz2 = 0 then (xbI (F_X6_in pp2.toInt64 0 6 σ1) (fun (zz16 : Int32) (σ15 : xS) => if zz16 = 0 then (KK13 2 σ15)
 else (KK13 0 σ15)))
 else (KK13 1 σ1)))
abbrev rm_X6_writer : Room := { frames := 2, cells := 0, slots := 0, locals := 46 }
set_option maxHeartbeats 4000000 in
set_option maxRecDepth 100000 in
theorem c_X6_writer (l : Launch) {D : va_G} {ad : Nat → Nat} {N : Nat} {Sh : xSh} (hI : ∀ i j, i < N → j < N → ad i = ad j → i = j) (oo0 : Nat) (hh0 : xIs6 D ad N Sh oo0) (pp1 : Int32) (pp2 : Int32) (σ : xS) : xKI l yX6_writer (Cond.code yX6_writer cX6_writer 3 (some .int) :: wG) rm_X6_writer 0 0 D ad N Sh [.ref (ad oo0), .int pp1, .int pp2] σ (F_X6_writer oo0 pp1 pp2 σ) := by
  refine x_startI (own := RX6) (maxL := 3) (by decide) rfl rfl (Nat.le_of_ble_eq_true rfl) rfl hI (fun Γ hl hnL X => ?_)
  subst hl
  unfold F_X6_writer
  refine xr_aload_n (pc := 0) X (i := 0) 0 rfl rfl dX6_writer_0 ?_
  refine xr_aload_n (pc := 1) X (i := 0) 0 rfl rfl dX6_writer_1 ?_
  refine xgX6 (pc := 2) X (oo0) hh0.1 3 wm_5_21 rfl rfl (by decide) rfl dX6_writer_2 ?_
  refine xr_iload_n (pc := 5) X (i := 1) 1 rfl rfl dX6_writer_5 ?_
  refine xr_callSI (na := 2) (pc := 6) X [.ref (ad (oo0 + 2)), .int pp1] (c_X6_isWriter Γ.2.1 hI 187 (oo0 + 2) hh0.2.2.1 pp1 σ) (wG_S wm_11_8 wm_11_6 wm_11_7 wm_1_5) rfl rfl rfl (by decide +kernel) ⟨Nat.le_of_ble_eq_true rfl, Nat.le_of_ble_eq_true rfl⟩ rfl rfl (Nat.le_of_ble_eq_true rfl) ⟨Nat.le_of_ble_eq_true rfl, Nat.le_of_ble_eq_true rfl⟩ dX6_writer_6 (fun zz2 σ1 => ?_)
  refine x_jn (fun (KK13 : Int32 → xS → Option (Int32 × xS)) => ∀ zz3 σ4, xM Γ D ad N Sh (xQI Γ D ad N Sh 0 0) 0 0 (KK13 zz3 σ4) σ4 33 [(0, .ref (ad oo0)), (1, .int pp1), (2, .int pp2)] [.int zz3, .ref (ad oo0)]) (fun zz3 σ4 => ?_) (fun KK13 hKK14 => ?_)
  · refine xr_callVI (na := 1) (pc := 33) X (oo0) [.int zz3] _ (c_X6_refused Γ.2.1 hI oo0 hh0 zz3 σ4) (wG_V wm_8_5 wm_8_2 wm_8_3 wm_8_4 wm_1_5) rfl rfl rfl (by decide +kernel) ⟨Nat.le_of_ble_eq_true rfl, Nat.le_of_ble_eq_true rfl⟩ hh0.1.1 hh0.1.2 rfl (T := TX6) (C := RX6) rfl rfl rfl (Nat.le_of_ble_eq_true rfl) ⟨Nat.le_of_ble_eq_true rfl, Nat.le_of_ble_eq_true rfl⟩ dX6_writer_33 (fun zz6 σ5 => ?_)
    refine xr_if_eq (pc := 36) X 41 (by decide) dX6_writer_36 (fun _ => ?_) (fun _ => ?_)
    · refine xr_iload_n (pc := 41) X (i := 2) 2 rfl rfl dX6_writer_41 ?_
      refine xr_if_ne (pc := 42) X 57 (by decide) dX6_writer_42 (fun _ => ?_) (fun _ => ?_)
      · refine xr_iload_n (pc := 57) X (i := 2) 2 rfl rfl dX6_writer_57 ?_
        refine xr_iconst (pc := 58) X dX6_writer_58 (v := 1) (by decide) ?_
        refine xr_icmp_ne (pc := 59) X 75 (by decide) dX6_writer_59 (fun _ => ?_) (fun _ => ?_)
        · refine xr_aload_n (pc := 75) X (i := 0) 0 rfl rfl dX6_writer_75 ?_
          refine xgX6 (pc := 76) X (oo0) hh0.1 3 wm_5_21 rfl rfl (by decide) rfl dX6_writer_76 ?_
          refine xr_iload_n (pc := 79) X (i := 1) 1 rfl rfl dX6_writer_79 ?_
          refine xr_iload_n (pc := 80) X (i := 2) 2 rfl rfl dX6_writer_80 ?_
          refine xr_iconst (pc := 81) X dX6_writer_81 (v := 1) (by decide) ?_
          refine xr_isub (pc := 82) X dX6_writer_82 ?_
          refine xr_callSI (na := 3) (pc := 83) X [.ref (ad (oo0 + 2)), .int pp1, .int (pp2 - 1)] (c_X6_of Γ.2.1 hI 187 (oo0 + 2) hh0.2.2.1 pp1 (pp2 - 1) σ5) (wG_S wm_11_14 wm_11_12 wm_11_13 wm_1_5) rfl rfl rfl (by decide +kernel) ⟨Nat.le_of_ble_eq_true rfl, Nat.le_of_ble_eq_true rfl⟩ rfl rfl (Nat.le_of_ble_eq_true rfl) ⟨Nat.le_of_ble_eq_true rfl, Nat.le_of_ble_eq_true rfl⟩ dX6_writer_83 (fun zz8 σ7 => ?_)
          exact xr_iret (pc := 86) X (Nat.le_of_ble_eq_true rfl) (Nat.le_of_ble_eq_true rfl) dX6_writer_86
        refine xr_aload_n (pc := 62) X (i := 0) 0 rfl rfl dX6_writer_62 ?_
        refine xgX6 (pc := 63) X (oo0) hh0.1 3 wm_5_21 rfl rfl (by decide) rfl dX6_writer_63 ?_
        refine xr_iload_n (pc := 66) X (i := 1) 1 rfl rfl dX6_writer_66 ?_
        refine xr_bipush (pc := 67) X dX6_writer_67 (v := 6) (by decide) ?_
        refine xr_callSI (na := 3) (pc := 69) X [.ref (ad (oo0 + 2)), .int pp1, .int 6] (c_X6_of Γ.2.1 hI 187 (oo0 + 2) hh0.2.2.1 pp1 6 σ5) (wG_S wm_11_14 wm_11_12 wm_11_13 wm_1_5) rfl rfl rfl (by decide +kernel) ⟨Nat.le_of_ble_eq_true rfl, Nat.le_of_ble_eq_true rfl⟩ rfl rfl (Nat.le_of_ble_eq_true rfl) ⟨Nat.le_of_ble_eq_true rfl, Nat.le_of_ble_eq_true rfl⟩ dX6_writer_69 (fun zz10 σ9 => ?_)
        refine xr_goto (pc := 72) X 86 (by decide) dX6_writer_72 ?_
        exact xr_iret (pc := 86) X (Nat.le_of_ble_eq_true rfl) (Nat.le_of_ble_eq_true rfl) dX6_writer_86
      refine xr_aload_n (pc := 45) X (i := 0) 0 rfl rfl dX6_writer_45 ?_
      refine xgX6 (pc := 46) X (oo0) hh0.1 3 wm_5_21 rfl rfl (by decide) rfl dX6_writer_46 ?_
      refine xr_iload_n (pc := 49) X (i := 1) 1 rfl rfl dX6_writer_49 ?_
      refine xr_iconst (pc := 50) X dX6_writer_50 (v := 0) (by decide) ?_
      refine xr_callSI (na := 3) (pc := 51) X [.ref (ad (oo0 + 2)), .int pp1, .int 0] (c_X6_of Γ.2.1 hI 187 (oo0 + 2) hh0.2.2.1 pp1 0 σ5) (wG_S wm_11_14 wm_11_12 wm_11_13 wm_1_5) rfl rfl rfl (by decide +kernel) ⟨Nat.le_of_ble_eq_true rfl, Nat.le_of_ble_eq_true rfl⟩ rfl rfl (Nat.le_of_ble_eq_true rfl) ⟨Nat.le_of_ble_eq_true rfl, Nat.le_of_ble_eq_true rfl⟩ dX6_writer_51 (fun zz12 σ11 => ?_)
      refine xr_goto (pc := 54) X 86 (by decide) dX6_writer_54 ?_
      exact xr_iret (pc := 86) X (Nat.le_of_ble_eq_true rfl) (Nat.le_of_ble_eq_true rfl) dX6_writer_86
    refine xr_iconst (pc := 39) X dX6_writer_39 (v := 0) (by decide) ?_
    exact xr_iret (pc := 40) X (Nat.le_of_ble_eq_true rfl) (Nat.le_of_ble_eq_true rfl) dX6_writer_40
  refine xr_if_ne (pc := 9) X 16 (by decide) dX6_writer_9 (fun _ => ?_) (fun _ => ?_)
  · refine xr_iload_n (pc := 16) X (i := 2) 2 rfl rfl dX6_writer_16 ?_
    refine xr_i2l (pc := 17) X dX6_writer_17 ?_
    refine xr_lconst (pc := 18) X dX6_writer_18 (v := 0) rfl ?_
    refine xr_ldc2 (pc := 19) X dX6_writer_19 (List.mem_cons_of_mem _ wm_20_4) ?_
    refine xr_callSI (na := 3) (pc := 22) X [.long pp2.toInt64, .long 0, .long 6] (c_X6_in Γ.2.1 hI pp2.toInt64 0 6 σ1) (wG_S wm_8_1 wm_7_23 wm_8_0 wm_1_5) rfl rfl rfl (by decide +kernel) ⟨Nat.le_of_ble_eq_true rfl, Nat.le_of_ble_eq_true rfl⟩ rfl rfl (Nat.le_of_ble_eq_true rfl) ⟨Nat.le_of_ble_eq_true rfl, Nat.le_of_ble_eq_true rfl⟩ dX6_writer_22 (fun zz16 σ15 => ?_)
    refine xr_if_eq (pc := 25) X 32 (by decide) dX6_writer_25 (fun _ => ?_) (fun _ => ?_)
    · refine xr_iconst (pc := 32) X dX6_writer_32 (v := 2) (by decide) ?_
      exact hKK14 _ _
    refine xr_iconst (pc := 28) X dX6_writer_28 (v := 0) (by decide) ?_
    refine xr_goto (pc := 29) X 33 (by decide) dX6_writer_29 ?_
    exact hKK14 _ _
  refine xr_iconst (pc := 12) X dX6_writer_12 (v := 1) (by decide) ?_
  refine xr_goto (pc := 13) X 33 (by decide) dX6_writer_13 ?_
  exact hKK14 _ _
def F_X6_desk (oo0 : Nat) (pp1 : Int32) (pp2 : Int32) (σ : xS) : Option (Int32 × xS) :=
  xbI (F_X6_isWriter 187 (oo0 + 2) pp1 σ) (fun (zz2 : Int32) (σ1 : xS) => xjn (fun (zz3 : Int32) (σ4 : xS) => xbI (F_X6_refused oo0 zz3 σ4) (fun (zz6 : Int32) (σ5 : xS) => if zz6 = 0 then (xbI (F_X6_of 187 (oo0 + 2) pp1 (8 + pp2) σ5) (fun (zz8 : Int32) (σ7 : xS) => some (zz8, σ7)))
 else (some ((0 : Int32), σ5))))
 (fun (KK9 : Int32 → xS → Option (Int32 × xS)) => if ¬ zz2 = 0 then (xbI (F_X6_in pp2.toInt64 0 5 σ1) (fun (zz12 : Int32) (σ11 : xS) => if zz12 = 0 then (KK9 2 σ11)
 else (KK9 0 σ11)))
 else (KK9 1 σ1)))
abbrev rm_X6_desk : Room := { frames := 2, cells := 0, slots := 0, locals := 46 }
set_option maxHeartbeats 4000000 in
set_option maxRecDepth 100000 in
theorem c_X6_desk (l : Launch) {D : va_G} {ad : Nat → Nat} {N : Nat} {Sh : xSh} (hI : ∀ i j, i < N → j < N → ad i = ad j → i = j) (oo0 : Nat) (hh0 : xIs6 D ad N Sh oo0) (pp1 : Int32) (pp2 : Int32) (σ : xS) : xKI l yX6_desk (Cond.code yX6_desk cX6_desk 3 (some .int) :: wG) rm_X6_desk 0 0 D ad N Sh [.ref (ad oo0), .int pp1, .int pp2] σ (F_X6_desk oo0 pp1 pp2 σ) := by
  refine x_startI (own := RX6) (maxL := 3) (by decide) rfl rfl (Nat.le_of_ble_eq_true rfl) rfl hI (fun Γ hl hnL X => ?_)
  subst hl
  unfold F_X6_desk
  refine xr_aload_n (pc := 0) X (i := 0) 0 rfl rfl dX6_desk_0 ?_
  refine xr_aload_n (pc := 1) X (i := 0) 0 rfl rfl dX6_desk_1 ?_
  refine xgX6 (pc := 2) X (oo0) hh0.1 3 wm_5_21 rfl rfl (by decide) rfl dX6_desk_2 ?_
  refine xr_iload_n (pc := 5) X (i := 1) 1 rfl rfl dX6_desk_5 ?_
  refine xr_callSI (na := 2) (pc := 6) X [.ref (ad (oo0 + 2)), .int pp1] (c_X6_isWriter Γ.2.1 hI 187 (oo0 + 2) hh0.2.2.1 pp1 σ) (wG_S wm_11_8 wm_11_6 wm_11_7 wm_1_5) rfl rfl rfl (by decide +kernel) ⟨Nat.le_of_ble_eq_true rfl, Nat.le_of_ble_eq_true rfl⟩ rfl rfl (Nat.le_of_ble_eq_true rfl) ⟨Nat.le_of_ble_eq_true rfl, Nat.le_of_ble_eq_true rfl⟩ dX6_desk_6 (fun zz2 σ1 => ?_)
  refine x_jn (fun (KK9 : Int32 → xS → Option (Int32 × xS)) => ∀ zz3 σ4, xM Γ D ad N Sh (xQI Γ D ad N Sh 0 0) 0 0 (KK9 zz3 σ4) σ4 33 [(0, .ref (ad oo0)), (1, .int pp1), (2, .int pp2)] [.int zz3, .ref (ad oo0)]) (fun zz3 σ4 => ?_) (fun KK9 hKK10 => ?_)
  · refine xr_callVI (na := 1) (pc := 33) X (oo0) [.int zz3] _ (c_X6_refused Γ.2.1 hI oo0 hh0 zz3 σ4) (wG_V wm_8_5 wm_8_2 wm_8_3 wm_8_4 wm_1_5) rfl rfl rfl (by decide +kernel) ⟨Nat.le_of_ble_eq_true rfl, Nat.le_of_ble_eq_true rfl⟩ hh0.1.1 hh0.1.2 rfl (T := TX6) (C := RX6) rfl rfl rfl (Nat.le_of_ble_eq_true rfl) ⟨Nat.le_of_ble_eq_true rfl, Nat.le_of_ble_eq_true rfl⟩ dX6_desk_33 (fun zz6 σ5 => ?_)
    refine xr_if_eq (pc := 36) X 41 (by decide) dX6_desk_36 (fun _ => ?_) (fun _ => ?_)
    · refine xr_aload_n (pc := 41) X (i := 0) 0 rfl rfl dX6_desk_41 ?_
      refine xgX6 (pc := 42) X (oo0) hh0.1 3 wm_5_21 rfl rfl (by decide) rfl dX6_desk_42 ?_
      refine xr_iload_n (pc := 45) X (i := 1) 1 rfl rfl dX6_desk_45 ?_
      refine xr_bipush (pc := 46) X dX6_desk_46 (v := 8) (by decide) ?_
      refine xr_iload_n (pc := 48) X (i := 2) 2 rfl rfl dX6_desk_48 ?_
      refine xr_iadd (pc := 49) X dX6_desk_49 ?_
      refine xr_callSI (na := 3) (pc := 50) X [.ref (ad (oo0 + 2)), .int pp1, .int (8 + pp2)] (c_X6_of Γ.2.1 hI 187 (oo0 + 2) hh0.2.2.1 pp1 (8 + pp2) σ5) (wG_S wm_11_14 wm_11_12 wm_11_13 wm_1_5) rfl rfl rfl (by decide +kernel) ⟨Nat.le_of_ble_eq_true rfl, Nat.le_of_ble_eq_true rfl⟩ rfl rfl (Nat.le_of_ble_eq_true rfl) ⟨Nat.le_of_ble_eq_true rfl, Nat.le_of_ble_eq_true rfl⟩ dX6_desk_50 (fun zz8 σ7 => ?_)
      exact xr_iret (pc := 53) X (Nat.le_of_ble_eq_true rfl) (Nat.le_of_ble_eq_true rfl) dX6_desk_53
    refine xr_iconst (pc := 39) X dX6_desk_39 (v := 0) (by decide) ?_
    exact xr_iret (pc := 40) X (Nat.le_of_ble_eq_true rfl) (Nat.le_of_ble_eq_true rfl) dX6_desk_40
  refine xr_if_ne (pc := 9) X 16 (by decide) dX6_desk_9 (fun _ => ?_) (fun _ => ?_)
  · refine xr_iload_n (pc := 16) X (i := 2) 2 rfl rfl dX6_desk_16 ?_
    refine xr_i2l (pc := 17) X dX6_desk_17 ?_
    refine xr_lconst (pc := 18) X dX6_desk_18 (v := 0) rfl ?_
    refine xr_ldc2 (pc := 19) X dX6_desk_19 (List.mem_cons_of_mem _ wm_20_17) ?_
    refine xr_callSI (na := 3) (pc := 22) X [.long pp2.toInt64, .long 0, .long 5] (c_X6_in Γ.2.1 hI pp2.toInt64 0 5 σ1) (wG_S wm_8_1 wm_7_23 wm_8_0 wm_1_5) rfl rfl rfl (by decide +kernel) ⟨Nat.le_of_ble_eq_true rfl, Nat.le_of_ble_eq_true rfl⟩ rfl rfl (Nat.le_of_ble_eq_true rfl) ⟨Nat.le_of_ble_eq_true rfl, Nat.le_of_ble_eq_true rfl⟩ dX6_desk_22 (fun zz12 σ11 => ?_)
    refine xr_if_eq (pc := 25) X 32 (by decide) dX6_desk_25 (fun _ => ?_) (fun _ => ?_)
    · refine xr_iconst (pc := 32) X dX6_desk_32 (v := 2) (by decide) ?_
      exact hKK10 _ _
    refine xr_iconst (pc := 28) X dX6_desk_28 (v := 0) (by decide) ?_
    refine xr_goto (pc := 29) X 33 (by decide) dX6_desk_29 ?_
    exact hKK10 _ _
  refine xr_iconst (pc := 12) X dX6_desk_12 (v := 1) (by decide) ?_
  refine xr_goto (pc := 13) X 33 (by decide) dX6_desk_13 ?_
  exact hKK10 _ _
def F_X6_letter (oo0 : Nat) (pp1 : Int32) (pp2 : Int32) (pp3 : Int32) (σ : xS) : Option (Int32 × xS) :=
  xbI (F_X6_isWriter 187 (oo0 + 2) pp1 σ) (fun (zz2 : Int32) (σ1 : xS) => xjn (fun (zz3 : Int32) (σ4 : xS) => xbI (F_X6_refused oo0 zz3 σ4) (fun (zz6 : Int32) (σ5 : xS) => if zz6 = 0 then (xbI (F_X6_of 187 (oo0 + 2) pp1 ((15 + (2 * pp2)) + pp3) σ5) (fun (zz8 : Int32) (σ7 : xS) => some (zz8, σ7)))
 else (some ((0 : Int32), σ5))))
 (fun (KK9 : Int32 → xS → Option (Int32 × xS)) => xjn (fun (σ11 : xS) => KK9 1 σ11)
 (fun (KK12 : xS → Option (Int32 × xS)) => if zz2 = 0 then (KK12 σ1)
 else (xbI (F_X6_of 187 (oo0 + 2) pp1 6 σ1) (fun (zz15 : Int32) (σ14 : xS) => xbI (F_X6_in pp2.toInt64 0 ((zz15 - 1).toInt64) σ14) (fun (zz17 : Int32) (σ16 : xS) => if ¬ zz17 = 0 then (xbI (F_X6_in pp3.toInt64 0 1 σ16) (fun (zz19 : Int32) (σ18 : xS) => if zz19 = 0 then (KK9 2 σ18)
 else (KK9 0 σ18)))
 else (KK12 σ16)))))))
abbrev rm_X6_letter : Room := { frames := 2, cells := 0, slots := 0, locals := 46 }
set_option maxHeartbeats 4000000 in
set_option maxRecDepth 100000 in
theorem c_X6_letter (l : Launch) {D : va_G} {ad : Nat → Nat} {N : Nat} {Sh : xSh} (hI : ∀ i j, i < N → j < N → ad i = ad j → i = j) (oo0 : Nat) (hh0 : xIs6 D ad N Sh oo0) (pp1 : Int32) (pp2 : Int32) (pp3 : Int32) (σ : xS) : xKI l yX6_letter (Cond.code yX6_letter cX6_letter 4 (some .int) :: wG) rm_X6_letter 0 0 D ad N Sh [.ref (ad oo0), .int pp1, .int pp2, .int pp3] σ (F_X6_letter oo0 pp1 pp2 pp3 σ) := by
  refine x_startI (own := RX6) (maxL := 4) (by decide) rfl rfl (Nat.le_of_ble_eq_true rfl) rfl hI (fun Γ hl hnL X => ?_)
  subst hl
  unfold F_X6_letter
  refine xr_aload_n (pc := 0) X (i := 0) 0 rfl rfl dX6_letter_0 ?_
  refine xr_aload_n (pc := 1) X (i := 0) 0 rfl rfl dX6_letter_1 ?_
  refine xgX6 (pc := 2) X (oo0) hh0.1 3 wm_5_21 rfl rfl (by decide) rfl dX6_letter_2 ?_
  refine xr_iload_n (pc := 5) X (i := 1) 1 rfl rfl dX6_letter_5 ?_
  refine xr_callSI (na := 2) (pc := 6) X [.ref (ad (oo0 + 2)), .int pp1] (c_X6_isWriter Γ.2.1 hI 187 (oo0 + 2) hh0.2.2.1 pp1 σ) (wG_S wm_11_8 wm_11_6 wm_11_7 wm_1_5) rfl rfl rfl (by decide +kernel) ⟨Nat.le_of_ble_eq_true rfl, Nat.le_of_ble_eq_true rfl⟩ rfl rfl (Nat.le_of_ble_eq_true rfl) ⟨Nat.le_of_ble_eq_true rfl, Nat.le_of_ble_eq_true rfl⟩ dX6_letter_6 (fun zz2 σ1 => ?_)
  refine x_jn (fun (KK9 : Int32 → xS → Option (Int32 × xS)) => ∀ zz3 σ4, xM Γ D ad N Sh (xQI Γ D ad N Sh 0 0) 0 0 (KK9 zz3 σ4) σ4 53 [(0, .ref (ad oo0)), (1, .int pp1), (2, .int pp2), (3, .int pp3)] [.int zz3, .ref (ad oo0)]) (fun zz3 σ4 => ?_) (fun KK9 hKK10 => ?_)
  · refine xr_callVI (na := 1) (pc := 53) X (oo0) [.int zz3] _ (c_X6_refused Γ.2.1 hI oo0 hh0 zz3 σ4) (wG_V wm_8_5 wm_8_2 wm_8_3 wm_8_4 wm_1_5) rfl rfl rfl (by decide +kernel) ⟨Nat.le_of_ble_eq_true rfl, Nat.le_of_ble_eq_true rfl⟩ hh0.1.1 hh0.1.2 rfl (T := TX6) (C := RX6) rfl rfl rfl (Nat.le_of_ble_eq_true rfl) ⟨Nat.le_of_ble_eq_true rfl, Nat.le_of_ble_eq_true rfl⟩ dX6_letter_53 (fun zz6 σ5 => ?_)
    refine xr_if_eq (pc := 56) X 61 (by decide) dX6_letter_56 (fun _ => ?_) (fun _ => ?_)
    · refine xr_aload_n (pc := 61) X (i := 0) 0 rfl rfl dX6_letter_61 ?_
      refine xgX6 (pc := 62) X (oo0) hh0.1 3 wm_5_21 rfl rfl (by decide) rfl dX6_letter_62 ?_
      refine xr_iload_n (pc := 65) X (i := 1) 1 rfl rfl dX6_letter_65 ?_
      refine xr_bipush (pc := 66) X dX6_letter_66 (v := 15) (by decide) ?_
      refine xr_iconst (pc := 68) X dX6_letter_68 (v := 2) (by decide) ?_
      refine xr_iload_n (pc := 69) X (i := 2) 2 rfl rfl dX6_letter_69 ?_
      refine xr_imul (pc := 70) X dX6_letter_70 ?_
      refine xr_iadd (pc := 71) X dX6_letter_71 ?_
      refine xr_iload_n (pc := 72) X (i := 3) 3 rfl rfl dX6_letter_72 ?_
      refine xr_iadd (pc := 73) X dX6_letter_73 ?_
      refine xr_callSI (na := 3) (pc := 74) X [.ref (ad (oo0 + 2)), .int pp1, .int ((15 + (2 * pp2)) + pp3)] (c_X6_of Γ.2.1 hI 187 (oo0 + 2) hh0.2.2.1 pp1 ((15 + (2 * pp2)) + pp3) σ5) (wG_S wm_11_14 wm_11_12 wm_11_13 wm_1_5) rfl rfl rfl (by decide +kernel) ⟨Nat.le_of_ble_eq_true rfl, Nat.le_of_ble_eq_true rfl⟩ rfl rfl (Nat.le_of_ble_eq_true rfl) ⟨Nat.le_of_ble_eq_true rfl, Nat.le_of_ble_eq_true rfl⟩ dX6_letter_74 (fun zz8 σ7 => ?_)
      exact xr_iret (pc := 77) X (Nat.le_of_ble_eq_true rfl) (Nat.le_of_ble_eq_true rfl) dX6_letter_77
    refine xr_iconst (pc := 59) X dX6_letter_59 (v := 0) (by decide) ?_
    exact xr_iret (pc := 60) X (Nat.le_of_ble_eq_true rfl) (Nat.le_of_ble_eq_true rfl) dX6_letter_60
  refine x_jn (fun (KK12 : xS → Option (Int32 × xS)) => ∀ σ11, xM Γ D ad N Sh (xQI Γ D ad N Sh 0 0) 0 0 (KK12 σ11) σ11 34 [(0, .ref (ad oo0)), (1, .int pp1), (2, .int pp2), (3, .int pp3)] [.ref (ad oo0)]) (fun σ11 => ?_) (fun KK12 hKK13 => ?_)
  · refine xr_iconst (pc := 34) X dX6_letter_34 (v := 1) (by decide) ?_
    refine xr_goto (pc := 35) X 53 (by decide) dX6_letter_35 ?_
    exact hKK10 _ _
  refine xr_if_eq (pc := 9) X 34 (by decide) dX6_letter_9 (fun _ => ?_) (fun _ => ?_)
  · exact hKK13  _
  refine xr_iload_n (pc := 12) X (i := 2) 2 rfl rfl dX6_letter_12 ?_
  refine xr_i2l (pc := 13) X dX6_letter_13 ?_
  refine xr_lconst (pc := 14) X dX6_letter_14 (v := 0) rfl ?_
  refine xr_aload_n (pc := 15) X (i := 0) 0 rfl rfl dX6_letter_15 ?_
  refine xgX6 (pc := 16) X (oo0) hh0.1 3 wm_5_21 rfl rfl (by decide) rfl dX6_letter_16 ?_
  refine xr_iload_n (pc := 19) X (i := 1) 1 rfl rfl dX6_letter_19 ?_
  refine xr_bipush (pc := 20) X dX6_letter_20 (v := 6) (by decide) ?_
  refine xr_callSI (na := 3) (pc := 22) X [.ref (ad (oo0 + 2)), .int pp1, .int 6] (c_X6_of Γ.2.1 hI 187 (oo0 + 2) hh0.2.2.1 pp1 6 σ1) (wG_S wm_11_14 wm_11_12 wm_11_13 wm_1_5) rfl rfl rfl (by decide +kernel) ⟨Nat.le_of_ble_eq_true rfl, Nat.le_of_ble_eq_true rfl⟩ rfl rfl (Nat.le_of_ble_eq_true rfl) ⟨Nat.le_of_ble_eq_true rfl, Nat.le_of_ble_eq_true rfl⟩ dX6_letter_22 (fun zz15 σ14 => ?_)
  refine xr_iconst (pc := 25) X dX6_letter_25 (v := 1) (by decide) ?_
  refine xr_isub (pc := 26) X dX6_letter_26 ?_
  refine xr_i2l (pc := 27) X dX6_letter_27 ?_
  refine xr_callSI (na := 3) (pc := 28) X [.long pp2.toInt64, .long 0, .long ((zz15 - 1).toInt64)] (c_X6_in Γ.2.1 hI pp2.toInt64 0 ((zz15 - 1).toInt64) σ14) (wG_S wm_8_1 wm_7_23 wm_8_0 wm_1_5) rfl rfl rfl (by decide +kernel) ⟨Nat.le_of_ble_eq_true rfl, Nat.le_of_ble_eq_true rfl⟩ rfl rfl (Nat.le_of_ble_eq_true rfl) ⟨Nat.le_of_ble_eq_true rfl, Nat.le_of_ble_eq_true rfl⟩ dX6_letter_28 (fun zz17 σ16 => ?_)
  refine xr_if_ne (pc := 31) X 38 (by decide) dX6_letter_31 (fun _ => ?_) (fun _ => ?_)
  · refine xr_iload_n (pc := 38) X (i := 3) 3 rfl rfl dX6_letter_38 ?_
    refine xr_i2l (pc := 39) X dX6_letter_39 ?_
    refine xr_lconst (pc := 40) X dX6_letter_40 (v := 0) rfl ?_
    refine xr_lconst (pc := 41) X dX6_letter_41 (v := 1) rfl ?_
    refine xr_callSI (na := 3) (pc := 42) X [.long pp3.toInt64, .long 0, .long 1] (c_X6_in Γ.2.1 hI pp3.toInt64 0 1 σ16) (wG_S wm_8_1 wm_7_23 wm_8_0 wm_1_5) rfl rfl rfl (by decide +kernel) ⟨Nat.le_of_ble_eq_true rfl, Nat.le_of_ble_eq_true rfl⟩ rfl rfl (Nat.le_of_ble_eq_true rfl) ⟨Nat.le_of_ble_eq_true rfl, Nat.le_of_ble_eq_true rfl⟩ dX6_letter_42 (fun zz19 σ18 => ?_)
    refine xr_if_eq (pc := 45) X 52 (by decide) dX6_letter_45 (fun _ => ?_) (fun _ => ?_)
    · refine xr_iconst (pc := 52) X dX6_letter_52 (v := 2) (by decide) ?_
      exact hKK10 _ _
    refine xr_iconst (pc := 48) X dX6_letter_48 (v := 0) (by decide) ?_
    refine xr_goto (pc := 49) X 53 (by decide) dX6_letter_49 ?_
    exact hKK10 _ _
  exact hKK13  _
def F_X6_planned (oo0 : Nat) (pp1 : Int32) (pp2 : Int32) (σ : xS) : Option (Int32 × xS) :=
  if xin (2 : Int32) 187 = true then (xlet (σ (oo0 + 2) (2 : Int32).toNatClampNeg) (fun (zz1 : Int32) => xbI (F_X6_in pp1.toInt64 0 ((zz1 - 1).toInt64) σ) (fun (zz3 : Int32) (σ2 : xS) => xjn (fun (zz4 : Int32) (σ5 : xS) => xbI (F_X6_refused oo0 zz4 σ5) (fun (zz7 : Int32) (σ6 : xS) => if zz7 = 0 then (if xin ((7 + (3 * pp1)) + pp2) 187 = true then (xlet (σ6 (oo0 + 2) ((7 + (3 * pp1)) + pp2).toNatClampNeg) (fun (zz8 : Int32) => some (zz8, σ6))) else none)
 else (some ((0 : Int32), σ6))))
 (fun (KK9 : Int32 → xS → Option (Int32 × xS)) => if ¬ zz3 = 0 then (xbI (F_X6_in pp2.toInt64 0 2 σ2) (fun (zz12 : Int32) (σ11 : xS) => if zz12 = 0 then (KK9 2 σ11)
 else (KK9 0 σ11)))
 else (KK9 1 σ2))))) else none
abbrev rm_X6_planned : Room := { frames := 1, cells := 0, slots := 0, locals := 25 }
set_option maxHeartbeats 4000000 in
set_option maxRecDepth 100000 in
theorem c_X6_planned (l : Launch) {D : va_G} {ad : Nat → Nat} {N : Nat} {Sh : xSh} (hI : ∀ i j, i < N → j < N → ad i = ad j → i = j) (oo0 : Nat) (hh0 : xIs6 D ad N Sh oo0) (pp1 : Int32) (pp2 : Int32) (σ : xS) : xKI l yX6_planned (Cond.code yX6_planned cX6_planned 3 (some .int) :: wG) rm_X6_planned 0 0 D ad N Sh [.ref (ad oo0), .int pp1, .int pp2] σ (F_X6_planned oo0 pp1 pp2 σ) := by
  refine x_startI (own := RX6) (maxL := 3) (by decide) rfl rfl (Nat.le_of_ble_eq_true rfl) rfl hI (fun Γ hl hnL X => ?_)
  subst hl
  unfold F_X6_planned
  refine xr_aload_n (pc := 0) X (i := 0) 0 rfl rfl dX6_planned_0 ?_
  refine xr_iload_n (pc := 1) X (i := 1) 1 rfl rfl dX6_planned_1 ?_
  refine xr_i2l (pc := 2) X dX6_planned_2 ?_
  refine xr_lconst (pc := 3) X dX6_planned_3 (v := 0) rfl ?_
  refine xr_aload_n (pc := 4) X (i := 0) 0 rfl rfl dX6_planned_4 ?_
  refine xgX6 (pc := 5) X (oo0) hh0.1 3 wm_5_21 rfl rfl (by decide) rfl dX6_planned_5 ?_
  refine xr_iconst (pc := 8) X dX6_planned_8 (v := 2) (by decide) ?_
  refine xr_iald (pc := 9) X (oo0 + 2) (187) hh0.2.2.1.1 hh0.2.2.1.2 dX6_planned_9 (fun zz1 => ?_)
  refine xr_iconst (pc := 10) X dX6_planned_10 (v := 1) (by decide) ?_
  refine xr_isub (pc := 11) X dX6_planned_11 ?_
  refine xr_i2l (pc := 12) X dX6_planned_12 ?_
  refine xr_callSI (na := 3) (pc := 13) X [.long pp1.toInt64, .long 0, .long ((zz1 - 1).toInt64)] (c_X6_in Γ.2.1 hI pp1.toInt64 0 ((zz1 - 1).toInt64) σ) (wG_S wm_8_1 wm_7_23 wm_8_0 wm_1_5) rfl rfl rfl (by decide +kernel) ⟨Nat.le_of_ble_eq_true rfl, Nat.le_of_ble_eq_true rfl⟩ rfl rfl (Nat.le_of_ble_eq_true rfl) ⟨Nat.le_of_ble_eq_true rfl, Nat.le_of_ble_eq_true rfl⟩ dX6_planned_13 (fun zz3 σ2 => ?_)
  refine x_jn (fun (KK9 : Int32 → xS → Option (Int32 × xS)) => ∀ zz4 σ5, xM Γ D ad N Sh (xQI Γ D ad N Sh 0 0) 0 0 (KK9 zz4 σ5) σ5 40 [(0, .ref (ad oo0)), (1, .int pp1), (2, .int pp2)] [.int zz4, .ref (ad oo0)]) (fun zz4 σ5 => ?_) (fun KK9 hKK10 => ?_)
  · refine xr_callVI (na := 1) (pc := 40) X (oo0) [.int zz4] _ (c_X6_refused Γ.2.1 hI oo0 hh0 zz4 σ5) (wG_V wm_8_5 wm_8_2 wm_8_3 wm_8_4 wm_1_5) rfl rfl rfl (by decide +kernel) ⟨Nat.le_of_ble_eq_true rfl, Nat.le_of_ble_eq_true rfl⟩ hh0.1.1 hh0.1.2 rfl (T := TX6) (C := RX6) rfl rfl rfl (Nat.le_of_ble_eq_true rfl) ⟨Nat.le_of_ble_eq_true rfl, Nat.le_of_ble_eq_true rfl⟩ dX6_planned_40 (fun zz7 σ6 => ?_)
    refine xr_if_eq (pc := 43) X 48 (by decide) dX6_planned_43 (fun _ => ?_) (fun _ => ?_)
    · refine xr_aload_n (pc := 48) X (i := 0) 0 rfl rfl dX6_planned_48 ?_
      refine xgX6 (pc := 49) X (oo0) hh0.1 3 wm_5_21 rfl rfl (by decide) rfl dX6_planned_49 ?_
      refine xr_bipush (pc := 52) X dX6_planned_52 (v := 7) (by decide) ?_
      refine xr_iconst (pc := 54) X dX6_planned_54 (v := 3) (by decide) ?_
      refine xr_iload_n (pc := 55) X (i := 1) 1 rfl rfl dX6_planned_55 ?_
      refine xr_imul (pc := 56) X dX6_planned_56 ?_
      refine xr_iadd (pc := 57) X dX6_planned_57 ?_
      refine xr_iload_n (pc := 58) X (i := 2) 2 rfl rfl dX6_planned_58 ?_
      refine xr_iadd (pc := 59) X dX6_planned_59 ?_
      refine xr_iald (pc := 60) X (oo0 + 2) (187) hh0.2.2.1.1 hh0.2.2.1.2 dX6_planned_60 (fun zz8 => ?_)
      exact xr_iret (pc := 61) X (Nat.le_of_ble_eq_true rfl) (Nat.le_of_ble_eq_true rfl) dX6_planned_61
    refine xr_iconst (pc := 46) X dX6_planned_46 (v := 0) (by decide) ?_
    exact xr_iret (pc := 47) X (Nat.le_of_ble_eq_true rfl) (Nat.le_of_ble_eq_true rfl) dX6_planned_47
  refine xr_if_ne (pc := 16) X 23 (by decide) dX6_planned_16 (fun _ => ?_) (fun _ => ?_)
  · refine xr_iload_n (pc := 23) X (i := 2) 2 rfl rfl dX6_planned_23 ?_
    refine xr_i2l (pc := 24) X dX6_planned_24 ?_
    refine xr_lconst (pc := 25) X dX6_planned_25 (v := 0) rfl ?_
    refine xr_ldc2 (pc := 26) X dX6_planned_26 (List.mem_cons_of_mem _ wm_21_19) ?_
    refine xr_callSI (na := 3) (pc := 29) X [.long pp2.toInt64, .long 0, .long 2] (c_X6_in Γ.2.1 hI pp2.toInt64 0 2 σ2) (wG_S wm_8_1 wm_7_23 wm_8_0 wm_1_5) rfl rfl rfl (by decide +kernel) ⟨Nat.le_of_ble_eq_true rfl, Nat.le_of_ble_eq_true rfl⟩ rfl rfl (Nat.le_of_ble_eq_true rfl) ⟨Nat.le_of_ble_eq_true rfl, Nat.le_of_ble_eq_true rfl⟩ dX6_planned_29 (fun zz12 σ11 => ?_)
    refine xr_if_eq (pc := 32) X 39 (by decide) dX6_planned_32 (fun _ => ?_) (fun _ => ?_)
    · refine xr_iconst (pc := 39) X dX6_planned_39 (v := 2) (by decide) ?_
      exact hKK10 _ _
    refine xr_iconst (pc := 35) X dX6_planned_35 (v := 0) (by decide) ?_
    refine xr_goto (pc := 36) X 40 (by decide) dX6_planned_36 ?_
    exact hKK10 _ _
  refine xr_iconst (pc := 19) X dX6_planned_19 (v := 1) (by decide) ?_
  refine xr_goto (pc := 20) X 40 (by decide) dX6_planned_20 ?_
  exact hKK10 _ _
def F_X6_setting (oo0 : Nat) (pp1 : Int32) (σ : xS) : Option (Int32 × xS) :=
  xbI (F_X6_in pp1.toInt64 0 3 σ) (fun (zz2 : Int32) (σ1 : xS) => xjn (fun (zz3 : Int32) (σ4 : xS) => xbI (F_X6_refused oo0 zz3 σ4) (fun (zz6 : Int32) (σ5 : xS) => if zz6 = 0 then (if xin (3 + pp1) 187 = true then (xlet (σ5 (oo0 + 2) (3 + pp1).toNatClampNeg) (fun (zz7 : Int32) => some (zz7, σ5))) else none)
 else (some ((0 : Int32), σ5))))
 (fun (KK8 : Int32 → xS → Option (Int32 × xS)) => if zz2 = 0 then (KK8 1 σ1)
 else (KK8 0 σ1)))
abbrev rm_X6_setting : Room := { frames := 1, cells := 0, slots := 0, locals := 25 }
set_option maxHeartbeats 4000000 in
set_option maxRecDepth 100000 in
theorem c_X6_setting (l : Launch) {D : va_G} {ad : Nat → Nat} {N : Nat} {Sh : xSh} (hI : ∀ i j, i < N → j < N → ad i = ad j → i = j) (oo0 : Nat) (hh0 : xIs6 D ad N Sh oo0) (pp1 : Int32) (σ : xS) : xKI l yX6_setting (Cond.code yX6_setting cX6_setting 2 (some .int) :: wG) rm_X6_setting 0 0 D ad N Sh [.ref (ad oo0), .int pp1] σ (F_X6_setting oo0 pp1 σ) := by
  refine x_startI (own := RX6) (maxL := 2) (by decide) rfl rfl (Nat.le_of_ble_eq_true rfl) rfl hI (fun Γ hl hnL X => ?_)
  subst hl
  unfold F_X6_setting
  refine xr_aload_n (pc := 0) X (i := 0) 0 rfl rfl dX6_setting_0 ?_
  refine xr_iload_n (pc := 1) X (i := 1) 1 rfl rfl dX6_setting_1 ?_
  refine xr_i2l (pc := 2) X dX6_setting_2 ?_
  refine xr_lconst (pc := 3) X dX6_setting_3 (v := 0) rfl ?_
  refine xr_ldc2 (pc := 4) X dX6_setting_4 (List.mem_cons_of_mem _ wm_22_7) ?_
  refine xr_callSI (na := 3) (pc := 7) X [.long pp1.toInt64, .long 0, .long 3] (c_X6_in Γ.2.1 hI pp1.toInt64 0 3 σ) (wG_S wm_8_1 wm_7_23 wm_8_0 wm_1_5) rfl rfl rfl (by decide +kernel) ⟨Nat.le_of_ble_eq_true rfl, Nat.le_of_ble_eq_true rfl⟩ rfl rfl (Nat.le_of_ble_eq_true rfl) ⟨Nat.le_of_ble_eq_true rfl, Nat.le_of_ble_eq_true rfl⟩ dX6_setting_7 (fun zz2 σ1 => ?_)
  refine x_jn (fun (KK8 : Int32 → xS → Option (Int32 × xS)) => ∀ zz3 σ4, xM Γ D ad N Sh (xQI Γ D ad N Sh 0 0) 0 0 (KK8 zz3 σ4) σ4 18 [(0, .ref (ad oo0)), (1, .int pp1)] [.int zz3, .ref (ad oo0)]) (fun zz3 σ4 => ?_) (fun KK8 hKK9 => ?_)
  · refine xr_callVI (na := 1) (pc := 18) X (oo0) [.int zz3] _ (c_X6_refused Γ.2.1 hI oo0 hh0 zz3 σ4) (wG_V wm_8_5 wm_8_2 wm_8_3 wm_8_4 wm_1_5) rfl rfl rfl (by decide +kernel) ⟨Nat.le_of_ble_eq_true rfl, Nat.le_of_ble_eq_true rfl⟩ hh0.1.1 hh0.1.2 rfl (T := TX6) (C := RX6) rfl rfl rfl (Nat.le_of_ble_eq_true rfl) ⟨Nat.le_of_ble_eq_true rfl, Nat.le_of_ble_eq_true rfl⟩ dX6_setting_18 (fun zz6 σ5 => ?_)
    refine xr_if_eq (pc := 21) X 26 (by decide) dX6_setting_21 (fun _ => ?_) (fun _ => ?_)
    · refine xr_aload_n (pc := 26) X (i := 0) 0 rfl rfl dX6_setting_26 ?_
      refine xgX6 (pc := 27) X (oo0) hh0.1 3 wm_5_21 rfl rfl (by decide) rfl dX6_setting_27 ?_
      refine xr_iconst (pc := 30) X dX6_setting_30 (v := 3) (by decide) ?_
      refine xr_iload_n (pc := 31) X (i := 1) 1 rfl rfl dX6_setting_31 ?_
      refine xr_iadd (pc := 32) X dX6_setting_32 ?_
      refine xr_iald (pc := 33) X (oo0 + 2) (187) hh0.2.2.1.1 hh0.2.2.1.2 dX6_setting_33 (fun zz7 => ?_)
      exact xr_iret (pc := 34) X (Nat.le_of_ble_eq_true rfl) (Nat.le_of_ble_eq_true rfl) dX6_setting_34
    refine xr_iconst (pc := 24) X dX6_setting_24 (v := 0) (by decide) ?_
    exact xr_iret (pc := 25) X (Nat.le_of_ble_eq_true rfl) (Nat.le_of_ble_eq_true rfl) dX6_setting_25
  refine xr_if_eq (pc := 10) X 17 (by decide) dX6_setting_10 (fun _ => ?_) (fun _ => ?_)
  · refine xr_iconst (pc := 17) X dX6_setting_17 (v := 1) (by decide) ?_
    exact hKK9 _ _
  refine xr_iconst (pc := 13) X dX6_setting_13 (v := 0) (by decide) ?_
  refine xr_goto (pc := 14) X 18 (by decide) dX6_setting_14 ?_
  exact hKK9 _ _
def L_X6_remember_11 (oo0 : Nat) (KK8 : xS → Option xS) : Nat → Int32 → xS → Option xS
  | 0, _, _ => none
  | nn_12 + 1, zz10, σ11 => if 2431 ≤ zz10 then (KK8 σ11)
 else (if xin (zz10 + 187) 2618 = true then (xlet (σ11 (oo0 + 5) (zz10 + 187).toNatClampNeg) (fun (zz14 : Int32) => if xin zz10 2618 = true then (xlet (xu σ11 (oo0 + 5) zz10.toNatClampNeg zz14) (fun (σ15 : xS) => xlet (zz10 + 1) (fun (zz16 : Int32) => L_X6_remember_11 oo0 KK8 nn_12 zz16 σ15))) else none)) else none)
def F_X6_remember (oo0 : Nat) (σ : xS) : Option xS :=
  xjn (fun (σ1 : xS) => xbV (F_X6_copyState 187 (oo0 + 2) 0 2618 (oo0 + 5) (187 * (σ1 oo0 7)) σ1) (fun (σ2 : xS) => xlet (xu σ2 oo0 7 ((σ2 oo0 7) + 1)) (fun (σ3 : xS) => some σ3)))
 (fun (KK4 : xS → Option xS) => if ¬ (σ oo0 7) = 14 then (KK4 σ)
 else (L_X6_remember_11 oo0 (fun (σ6 : xS) => xlet (xu σ6 oo0 7 ((σ6 oo0 7) - 1)) (fun (σ7 : xS) => KK4 σ7)) 3000 0 σ))
abbrev rm_X6_remember : Room := { frames := 1, cells := 0, slots := 0, locals := 24 }
set_option maxHeartbeats 4000000 in
set_option maxRecDepth 100000 in
theorem c_X6_remember (l : Launch) {D : va_G} {ad : Nat → Nat} {N : Nat} {Sh : xSh} (hI : ∀ i j, i < N → j < N → ad i = ad j → i = j) (oo0 : Nat) (hh0 : xIs6 D ad N Sh oo0) (σ : xS) : xKV l yX6_remember (Cond.code yX6_remember cX6_remember 2 none :: wG) rm_X6_remember 0 0 D ad N Sh [.ref (ad oo0)] σ (F_X6_remember oo0 σ) := by
  refine x_startV (own := RX6) (maxL := 2) (by decide) rfl rfl (Nat.le_of_ble_eq_true rfl) rfl hI (fun Γ hl hnL X => ?_)
  subst hl
  unfold F_X6_remember
  refine xr_aload_n (pc := 0) X (i := 0) 0 rfl rfl dX6_remember_0 ?_
  refine xgX6 (pc := 1) X (oo0) hh0.1 7 wm_18_6 rfl rfl (by decide) rfl dX6_remember_1 ?_
  refine xr_bipush (pc := 4) X dX6_remember_4 (v := 14) (by decide) ?_
  refine x_jn (fun (KK4 : xS → Option xS) => ∀ σ1, xM Γ D ad N Sh (xQV Γ D ad N Sh 0 0) 0 0 (KK4 σ1) σ1 50 [(0, .ref (ad oo0))] []) (fun σ1 => ?_) (fun KK4 hKK5 => ?_)
  · refine xr_aload_n (pc := 50) X (i := 0) 0 rfl rfl dX6_remember_50 ?_
    refine xgX6 (pc := 51) X (oo0) hh0.1 3 wm_5_21 rfl rfl (by decide) rfl dX6_remember_51 ?_
    refine xr_iconst (pc := 54) X dX6_remember_54 (v := 0) (by decide) ?_
    refine xr_aload_n (pc := 55) X (i := 0) 0 rfl rfl dX6_remember_55 ?_
    refine xgX6 (pc := 56) X (oo0) hh0.1 6 wm_6_0 rfl rfl (by decide) rfl dX6_remember_56 ?_
    refine xr_sipush (pc := 59) X dX6_remember_59 (v := 187) (by decide) ?_
    refine xr_aload_n (pc := 62) X (i := 0) 0 rfl rfl dX6_remember_62 ?_
    refine xgX6 (pc := 63) X (oo0) hh0.1 7 wm_18_6 rfl rfl (by decide) rfl dX6_remember_63 ?_
    refine xr_imul (pc := 66) X dX6_remember_66 ?_
    refine xr_callSV (na := 4) (pc := 67) X [.ref (ad (oo0 + 2)), .int 0, .ref (ad (oo0 + 5)), .int (187 * (σ1 oo0 7))] (c_X6_copyState Γ.2.1 hI 187 (oo0 + 2) hh0.2.2.1 0 2618 (oo0 + 5) hh0.2.2.2.2.2.1 (187 * (σ1 oo0 7)) σ1) (wG_S wm_18_9 wm_18_7 wm_18_8 wm_1_5) rfl rfl rfl (by decide +kernel) ⟨Nat.le_of_ble_eq_true rfl, Nat.le_of_ble_eq_true rfl⟩ rfl rfl (Nat.le_of_ble_eq_true rfl) ⟨Nat.le_of_ble_eq_true rfl, Nat.le_of_ble_eq_true rfl⟩ dX6_remember_67 (fun σ2 => ?_)
    refine xr_aload_n (pc := 70) X (i := 0) 0 rfl rfl dX6_remember_70 ?_
    refine xr_dup (pc := 71) X rfl dX6_remember_71 ?_
    refine xgX6 (pc := 72) X (oo0) hh0.1 7 wm_18_6 rfl rfl (by decide) rfl dX6_remember_72 ?_
    refine xr_iconst (pc := 75) X dX6_remember_75 (v := 1) (by decide) ?_
    refine xr_iadd (pc := 76) X dX6_remember_76 ?_
    refine xpX6 (pc := 77) X (oo0) hh0.1 7 wm_18_6 (ty := .int) rfl (fun _ => rfl) rfl (by decide +kernel) rfl rfl (Nat.le_of_ble_eq_true rfl) (by decide) rfl dX6_remember_77 (fun σ3 => ?_)
    exact xr_vret (pc := 80) X (Nat.le_refl _) (Nat.le_refl _) dX6_remember_80
  refine xr_icmp_ne (pc := 6) X 50 (by decide) dX6_remember_6 (fun _ => ?_) (fun _ => ?_)
  · exact hKK5  _
  refine xr_iconst (pc := 9) X dX6_remember_9 (v := 0) (by decide) ?_
  refine xr_istore_n (pc := 10) X (hf := rfl) (i := 1) [1, 0] (Nat.le_of_ble_eq_true rfl) hnL rfl dX6_remember_10 ?_
  have hLL17 : ∀ (KK8 : xS → Option xS) (hKK9 : ∀ σ6, xM Γ D ad N Sh (xQV Γ D ad N Sh 0 0) 0 0 (KK8 σ6) σ6 40 [(0, .ref (ad oo0))] []), ∀ (nn_12 : Nat) zz10 σ11, xM Γ D ad N Sh (xQV Γ D ad N Sh 0 0) 0 0 (L_X6_remember_11 oo0 KK8 nn_12 zz10 σ11) σ11 11 [(0, .ref (ad oo0)), (1, .int zz10)] [] := by
    intro KK8 hKK9 nn_12
    induction nn_12 with
    | zero => intro zz10 σ11; exact xM_none
    | succ nn_12 ihh13 =>
      intro zz10 σ11
      rw [L_X6_remember_11]
      refine xr_iload_n (pc := 11) X (i := 1) 1 rfl rfl dX6_remember_11 ?_
      refine xr_sipush (pc := 12) X dX6_remember_12 (v := 2431) (by decide) ?_
      refine xr_icmp_ge (pc := 15) X 40 (by decide) dX6_remember_15 (fun _ => ?_) (fun _ => ?_)
      · exact x_sub [0] rfl (hKK9  _)
      refine xr_aload_n (pc := 18) X (i := 0) 0 rfl rfl dX6_remember_18 ?_
      refine xgX6 (pc := 19) X (oo0) hh0.1 6 wm_6_0 rfl rfl (by decide) rfl dX6_remember_19 ?_
      refine xr_iload_n (pc := 22) X (i := 1) 1 rfl rfl dX6_remember_22 ?_
      refine xr_aload_n (pc := 23) X (i := 0) 0 rfl rfl dX6_remember_23 ?_
      refine xgX6 (pc := 24) X (oo0) hh0.1 6 wm_6_0 rfl rfl (by decide) rfl dX6_remember_24 ?_
      refine xr_iload_n (pc := 27) X (i := 1) 1 rfl rfl dX6_remember_27 ?_
      refine xr_sipush (pc := 28) X dX6_remember_28 (v := 187) (by decide) ?_
      refine xr_iadd (pc := 31) X dX6_remember_31 ?_
      refine xr_iald (pc := 32) X (oo0 + 5) (2618) hh0.2.2.2.2.2.1.1 hh0.2.2.2.2.2.1.2 dX6_remember_32 (fun zz14 => ?_)
      refine xr_iast (pc := 33) X (oo0 + 5) (2618) hh0.2.2.2.2.2.1.1 hh0.2.2.2.2.2.1.2 dX6_remember_33 (fun σ15 => ?_)
      refine xr_iinc (pc := 34) X (i := 1) (j := 1) [1, 0] (Nat.le_of_ble_eq_true rfl) hnL rfl rfl (fun zz16 => [(0, .ref (ad oo0)), (1, .int zz16)]) (fun _ => rfl) dX6_remember_34 (fun zz16 => ?_)
      refine xr_goto (pc := 37) X 11 (by decide) dX6_remember_37 ?_
      exact ihh13 _ _
  refine hLL17 _ (fun σ6 => ?_) _ _ _
  refine xr_aload_n (pc := 40) X (i := 0) 0 rfl rfl dX6_remember_40 ?_
  refine xr_dup (pc := 41) X rfl dX6_remember_41 ?_
  refine xgX6 (pc := 42) X (oo0) hh0.1 7 wm_18_6 rfl rfl (by decide) rfl dX6_remember_42 ?_
  refine xr_iconst (pc := 45) X dX6_remember_45 (v := 1) (by decide) ?_
  refine xr_isub (pc := 46) X dX6_remember_46 ?_
  refine xpX6 (pc := 47) X (oo0) hh0.1 7 wm_18_6 (ty := .int) rfl (fun _ => rfl) rfl (by decide +kernel) rfl rfl (Nat.le_of_ble_eq_true rfl) (by decide) rfl dX6_remember_47 (fun σ7 => ?_)
  exact hKK5  _
def F_X6_post (oo0 : Nat) (pp1 : Int32) (σ : xS) : Option (Int32 × xS) :=
  xbI (F_X6_in pp1.toInt64 1 4 σ) (fun (zz2 : Int32) (σ1 : xS) => xjn (fun (zz3 : Int32) (σ4 : xS) => xbI (F_X6_refused oo0 zz3 σ4) (fun (zz6 : Int32) (σ5 : xS) => if zz6 = 0 then (xbV (F_X6_remember oo0 σ5) (fun (σ7 : xS) => xbV (F_X6_clear 187 (oo0 + 2) pp1 σ7) (fun (σ8 : xS) => some (pp1, σ8))))
 else (some ((0 : Int32), σ5))))
 (fun (KK9 : Int32 → xS → Option (Int32 × xS)) => if zz2 = 0 then (KK9 1 σ1)
 else (KK9 0 σ1)))
abbrev rm_X6_post : Room := { frames := 2, cells := 0, slots := 0, locals := 45 }
set_option maxHeartbeats 4000000 in
set_option maxRecDepth 100000 in
theorem c_X6_post (l : Launch) {D : va_G} {ad : Nat → Nat} {N : Nat} {Sh : xSh} (hI : ∀ i j, i < N → j < N → ad i = ad j → i = j) (oo0 : Nat) (hh0 : xIs6 D ad N Sh oo0) (pp1 : Int32) (σ : xS) : xKI l yX6_post (Cond.code yX6_post cX6_post 2 (some .int) :: wG) rm_X6_post 0 0 D ad N Sh [.ref (ad oo0), .int pp1] σ (F_X6_post oo0 pp1 σ) := by
  refine x_startI (own := RX6) (maxL := 2) (by decide) rfl rfl (Nat.le_of_ble_eq_true rfl) rfl hI (fun Γ hl hnL X => ?_)
  subst hl
  unfold F_X6_post
  refine xr_aload_n (pc := 0) X (i := 0) 0 rfl rfl dX6_post_0 ?_
  refine xr_iload_n (pc := 1) X (i := 1) 1 rfl rfl dX6_post_1 ?_
  refine xr_i2l (pc := 2) X dX6_post_2 ?_
  refine xr_lconst (pc := 3) X dX6_post_3 (v := 1) rfl ?_
  refine xr_ldc2 (pc := 4) X dX6_post_4 (List.mem_cons_of_mem _ wm_23_21) ?_
  refine xr_callSI (na := 3) (pc := 7) X [.long pp1.toInt64, .long 1, .long 4] (c_X6_in Γ.2.1 hI pp1.toInt64 1 4 σ) (wG_S wm_8_1 wm_7_23 wm_8_0 wm_1_5) rfl rfl rfl (by decide +kernel) ⟨Nat.le_of_ble_eq_true rfl, Nat.le_of_ble_eq_true rfl⟩ rfl rfl (Nat.le_of_ble_eq_true rfl) ⟨Nat.le_of_ble_eq_true rfl, Nat.le_of_ble_eq_true rfl⟩ dX6_post_7 (fun zz2 σ1 => ?_)
  refine x_jn (fun (KK9 : Int32 → xS → Option (Int32 × xS)) => ∀ zz3 σ4, xM Γ D ad N Sh (xQI Γ D ad N Sh 0 0) 0 0 (KK9 zz3 σ4) σ4 18 [(0, .ref (ad oo0)), (1, .int pp1)] [.int zz3, .ref (ad oo0)]) (fun zz3 σ4 => ?_) (fun KK9 hKK10 => ?_)
  · refine xr_callVI (na := 1) (pc := 18) X (oo0) [.int zz3] _ (c_X6_refused Γ.2.1 hI oo0 hh0 zz3 σ4) (wG_V wm_8_5 wm_8_2 wm_8_3 wm_8_4 wm_1_5) rfl rfl rfl (by decide +kernel) ⟨Nat.le_of_ble_eq_true rfl, Nat.le_of_ble_eq_true rfl⟩ hh0.1.1 hh0.1.2 rfl (T := TX6) (C := RX6) rfl rfl rfl (Nat.le_of_ble_eq_true rfl) ⟨Nat.le_of_ble_eq_true rfl, Nat.le_of_ble_eq_true rfl⟩ dX6_post_18 (fun zz6 σ5 => ?_)
    refine xr_if_eq (pc := 21) X 26 (by decide) dX6_post_21 (fun _ => ?_) (fun _ => ?_)
    · refine xr_aload_n (pc := 26) X (i := 0) 0 rfl rfl dX6_post_26 ?_
      refine xr_callVV (na := 0) (pc := 27) X (oo0) [] _ (c_X6_remember Γ.2.1 hI oo0 hh0 σ5) (wG_V wm_24_1 wm_23_22 wm_23_23 wm_24_0 wm_1_5) rfl rfl rfl (by decide +kernel) ⟨Nat.le_of_ble_eq_true rfl, Nat.le_of_ble_eq_true rfl⟩ hh0.1.1 hh0.1.2 rfl (T := TX6) (C := RX6) rfl rfl rfl (Nat.le_of_ble_eq_true rfl) ⟨Nat.le_of_ble_eq_true rfl, Nat.le_of_ble_eq_true rfl⟩ dX6_post_27 (fun σ7 => ?_)
      refine xr_aload_n (pc := 30) X (i := 0) 0 rfl rfl dX6_post_30 ?_
      refine xgX6 (pc := 31) X (oo0) hh0.1 3 wm_5_21 rfl rfl (by decide) rfl dX6_post_31 ?_
      refine xr_iload_n (pc := 34) X (i := 1) 1 rfl rfl dX6_post_34 ?_
      refine xr_callSV (na := 2) (pc := 35) X [.ref (ad (oo0 + 2)), .int pp1] (c_X6_clear Γ.2.1 hI 187 (oo0 + 2) hh0.2.2.1 pp1 σ7) (wG_S wm_6_5 wm_6_3 wm_6_4 wm_1_5) rfl rfl rfl (by decide +kernel) ⟨Nat.le_of_ble_eq_true rfl, Nat.le_of_ble_eq_true rfl⟩ rfl rfl (Nat.le_of_ble_eq_true rfl) ⟨Nat.le_of_ble_eq_true rfl, Nat.le_of_ble_eq_true rfl⟩ dX6_post_35 (fun σ8 => ?_)
      refine xr_iload_n (pc := 38) X (i := 1) 1 rfl rfl dX6_post_38 ?_
      exact xr_iret (pc := 39) X (Nat.le_of_ble_eq_true rfl) (Nat.le_of_ble_eq_true rfl) dX6_post_39
    refine xr_iconst (pc := 24) X dX6_post_24 (v := 0) (by decide) ?_
    exact xr_iret (pc := 25) X (Nat.le_of_ble_eq_true rfl) (Nat.le_of_ble_eq_true rfl) dX6_post_25
  refine xr_if_eq (pc := 10) X 17 (by decide) dX6_post_10 (fun _ => ?_) (fun _ => ?_)
  · refine xr_iconst (pc := 17) X dX6_post_17 (v := 1) (by decide) ?_
    exact hKK10 _ _
  refine xr_iconst (pc := 13) X dX6_post_13 (v := 0) (by decide) ?_
  refine xr_goto (pc := 14) X 18 (by decide) dX6_post_14 ?_
  exact hKK10 _ _
def F_X6_write (oo0 : Nat) (pp1 : Int32) (pp2 : Int32) (σ : xS) : Option (Int32 × xS) :=
  xbI (F_X6_isWriter 187 (oo0 + 2) pp1 σ) (fun (zz2 : Int32) (σ1 : xS) => xjn (fun (zz3 : Int32) (σ4 : xS) => xbI (F_X6_refused oo0 zz3 σ4) (fun (zz6 : Int32) (σ5 : xS) => if zz6 = 0 then (xbV (F_X6_remember oo0 σ5) (fun (σ7 : xS) => xbI (F_X6_writeOn 187 (oo0 + 2) pp1 pp2 σ7) (fun (zz9 : Int32) (σ8 : xS) => some (zz9, σ8))))
 else (some ((0 : Int32), σ5))))
 (fun (KK10 : Int32 → xS → Option (Int32 × xS)) => if ¬ zz2 = 0 then (xbI (F_X6_isNote pp2 σ1) (fun (zz13 : Int32) (σ12 : xS) => if ¬ zz13 = 0 then (xbI (F_X6_canWrite 187 (oo0 + 2) pp1 pp2 σ12) (fun (zz15 : Int32) (σ14 : xS) => if zz15 = 0 then (KK10 3 σ14)
 else (KK10 0 σ14)))
 else (KK10 2 σ12)))
 else (KK10 1 σ1)))
abbrev rm_X6_write : Room := { frames := 5, cells := 0, slots := 0, locals := 115 }
set_option maxHeartbeats 4000000 in
set_option maxRecDepth 100000 in
theorem c_X6_write (l : Launch) {D : va_G} {ad : Nat → Nat} {N : Nat} {Sh : xSh} (hI : ∀ i j, i < N → j < N → ad i = ad j → i = j) (oo0 : Nat) (hh0 : xIs6 D ad N Sh oo0) (pp1 : Int32) (pp2 : Int32) (σ : xS) : xKI l yX6_write (Cond.code yX6_write cX6_write 3 (some .int) :: wG) rm_X6_write 0 0 D ad N Sh [.ref (ad oo0), .int pp1, .int pp2] σ (F_X6_write oo0 pp1 pp2 σ) := by
  refine x_startI (own := RX6) (maxL := 3) (by decide) rfl rfl (Nat.le_of_ble_eq_true rfl) rfl hI (fun Γ hl hnL X => ?_)
  subst hl
  unfold F_X6_write
  refine xr_aload_n (pc := 0) X (i := 0) 0 rfl rfl dX6_write_0 ?_
  refine xr_aload_n (pc := 1) X (i := 0) 0 rfl rfl dX6_write_1 ?_
  refine xgX6 (pc := 2) X (oo0) hh0.1 3 wm_5_21 rfl rfl (by decide) rfl dX6_write_2 ?_
  refine xr_iload_n (pc := 5) X (i := 1) 1 rfl rfl dX6_write_5 ?_
  refine xr_callSI (na := 2) (pc := 6) X [.ref (ad (oo0 + 2)), .int pp1] (c_X6_isWriter Γ.2.1 hI 187 (oo0 + 2) hh0.2.2.1 pp1 σ) (wG_S wm_11_8 wm_11_6 wm_11_7 wm_1_5) rfl rfl rfl (by decide +kernel) ⟨Nat.le_of_ble_eq_true rfl, Nat.le_of_ble_eq_true rfl⟩ rfl rfl (Nat.le_of_ble_eq_true rfl) ⟨Nat.le_of_ble_eq_true rfl, Nat.le_of_ble_eq_true rfl⟩ dX6_write_6 (fun zz2 σ1 => ?_)
  refine x_jn (fun (KK10 : Int32 → xS → Option (Int32 × xS)) => ∀ zz3 σ4, xM Γ D ad N Sh (xQI Γ D ad N Sh 0 0) 0 0 (KK10 zz3 σ4) σ4 44 [(0, .ref (ad oo0)), (1, .int pp1), (2, .int pp2)] [.int zz3, .ref (ad oo0)]) (fun zz3 σ4 => ?_) (fun KK10 hKK11 => ?_)
  · refine xr_callVI (na := 1) (pc := 44) X (oo0) [.int zz3] _ (c_X6_refused Γ.2.1 hI oo0 hh0 zz3 σ4) (wG_V wm_8_5 wm_8_2 wm_8_3 wm_8_4 wm_1_5) rfl rfl rfl (by decide +kernel) ⟨Nat.le_of_ble_eq_true rfl, Nat.le_of_ble_eq_true rfl⟩ hh0.1.1 hh0.1.2 rfl (T := TX6) (C := RX6) rfl rfl rfl (Nat.le_of_ble_eq_true rfl) ⟨Nat.le_of_ble_eq_true rfl, Nat.le_of_ble_eq_true rfl⟩ dX6_write_44 (fun zz6 σ5 => ?_)
    refine xr_if_eq (pc := 47) X 52 (by decide) dX6_write_47 (fun _ => ?_) (fun _ => ?_)
    · refine xr_aload_n (pc := 52) X (i := 0) 0 rfl rfl dX6_write_52 ?_
      refine xr_callVV (na := 0) (pc := 53) X (oo0) [] _ (c_X6_remember Γ.2.1 hI oo0 hh0 σ5) (wG_V wm_24_1 wm_23_22 wm_23_23 wm_24_0 wm_1_5) rfl rfl rfl (by decide +kernel) ⟨Nat.le_of_ble_eq_true rfl, Nat.le_of_ble_eq_true rfl⟩ hh0.1.1 hh0.1.2 rfl (T := TX6) (C := RX6) rfl rfl rfl (Nat.le_of_ble_eq_true rfl) ⟨Nat.le_of_ble_eq_true rfl, Nat.le_of_ble_eq_true rfl⟩ dX6_write_53 (fun σ7 => ?_)
      refine xr_aload_n (pc := 56) X (i := 0) 0 rfl rfl dX6_write_56 ?_
      refine xgX6 (pc := 57) X (oo0) hh0.1 3 wm_5_21 rfl rfl (by decide) rfl dX6_write_57 ?_
      refine xr_iload_n (pc := 60) X (i := 1) 1 rfl rfl dX6_write_60 ?_
      refine xr_iload_n (pc := 61) X (i := 2) 2 rfl rfl dX6_write_61 ?_
      refine xr_callSI (na := 3) (pc := 62) X [.ref (ad (oo0 + 2)), .int pp1, .int pp2] (c_X6_writeOn Γ.2.1 hI 187 (oo0 + 2) hh0.2.2.1 pp1 pp2 σ7) (wG_S wm_11_17 wm_11_15 wm_11_16 wm_1_5) rfl rfl rfl (by decide +kernel) ⟨Nat.le_of_ble_eq_true rfl, Nat.le_of_ble_eq_true rfl⟩ rfl rfl (Nat.le_of_ble_eq_true rfl) ⟨Nat.le_of_ble_eq_true rfl, Nat.le_of_ble_eq_true rfl⟩ dX6_write_62 (fun zz9 σ8 => ?_)
      exact xr_iret (pc := 65) X (Nat.le_of_ble_eq_true rfl) (Nat.le_of_ble_eq_true rfl) dX6_write_65
    refine xr_iconst (pc := 50) X dX6_write_50 (v := 0) (by decide) ?_
    exact xr_iret (pc := 51) X (Nat.le_of_ble_eq_true rfl) (Nat.le_of_ble_eq_true rfl) dX6_write_51
  refine xr_if_ne (pc := 9) X 16 (by decide) dX6_write_9 (fun _ => ?_) (fun _ => ?_)
  · refine xr_iload_n (pc := 16) X (i := 2) 2 rfl rfl dX6_write_16 ?_
    refine xr_callSI (na := 1) (pc := 17) X [.int pp2] (c_X6_isNote Γ.2.1 hI pp2 σ1) (wG_S wm_24_15 wm_24_13 wm_24_14 wm_1_5) rfl rfl rfl (by decide +kernel) ⟨Nat.le_of_ble_eq_true rfl, Nat.le_of_ble_eq_true rfl⟩ rfl rfl (Nat.le_of_ble_eq_true rfl) ⟨Nat.le_of_ble_eq_true rfl, Nat.le_of_ble_eq_true rfl⟩ dX6_write_17 (fun zz13 σ12 => ?_)
    refine xr_if_ne (pc := 20) X 27 (by decide) dX6_write_20 (fun _ => ?_) (fun _ => ?_)
    · refine xr_aload_n (pc := 27) X (i := 0) 0 rfl rfl dX6_write_27 ?_
      refine xgX6 (pc := 28) X (oo0) hh0.1 3 wm_5_21 rfl rfl (by decide) rfl dX6_write_28 ?_
      refine xr_iload_n (pc := 31) X (i := 1) 1 rfl rfl dX6_write_31 ?_
      refine xr_iload_n (pc := 32) X (i := 2) 2 rfl rfl dX6_write_32 ?_
      refine xr_callSI (na := 3) (pc := 33) X [.ref (ad (oo0 + 2)), .int pp1, .int pp2] (c_X6_canWrite Γ.2.1 hI 187 (oo0 + 2) hh0.2.2.1 pp1 pp2 σ12) (wG_S wm_11_11 wm_11_9 wm_11_10 wm_1_5) rfl rfl rfl (by decide +kernel) ⟨Nat.le_of_ble_eq_true rfl, Nat.le_of_ble_eq_true rfl⟩ rfl rfl (Nat.le_of_ble_eq_true rfl) ⟨Nat.le_of_ble_eq_true rfl, Nat.le_of_ble_eq_true rfl⟩ dX6_write_33 (fun zz15 σ14 => ?_)
      refine xr_if_eq (pc := 36) X 43 (by decide) dX6_write_36 (fun _ => ?_) (fun _ => ?_)
      · refine xr_iconst (pc := 43) X dX6_write_43 (v := 3) (by decide) ?_
        exact hKK11 _ _
      refine xr_iconst (pc := 39) X dX6_write_39 (v := 0) (by decide) ?_
      refine xr_goto (pc := 40) X 44 (by decide) dX6_write_40 ?_
      exact hKK11 _ _
    refine xr_iconst (pc := 23) X dX6_write_23 (v := 2) (by decide) ?_
    refine xr_goto (pc := 24) X 44 (by decide) dX6_write_24 ?_
    exact hKK11 _ _
  refine xr_iconst (pc := 12) X dX6_write_12 (v := 1) (by decide) ?_
  refine xr_goto (pc := 13) X 44 (by decide) dX6_write_13 ?_
  exact hKK11 _ _
def F_X6_plan (oo0 : Nat) (pp1 : Int32) (pp2 : Int32) (pp3 : Int32) (σ : xS) : Option (Int32 × xS) :=
  xbI (F_X6_isWriter 187 (oo0 + 2) pp2 σ) (fun (zz2 : Int32) (σ1 : xS) => xjn (fun (zz3 : Int32) (σ4 : xS) => xbI (F_X6_refused oo0 zz3 σ4) (fun (zz6 : Int32) (σ5 : xS) => if zz6 = 0 then (xbV (F_X6_remember oo0 σ5) (fun (σ7 : xS) => xbI (F_X6_planOn 187 (oo0 + 2) pp1 pp2 pp3 σ7) (fun (zz9 : Int32) (σ8 : xS) => some (zz9, σ8))))
 else (some ((0 : Int32), σ5))))
 (fun (KK10 : Int32 → xS → Option (Int32 × xS)) => if ¬ zz2 = 0 then (xbI (F_X6_in pp1.toInt64 1 99 σ1) (fun (zz13 : Int32) (σ12 : xS) => xjn (fun (σ14 : xS) => KK10 2 σ14)
 (fun (KK15 : xS → Option (Int32 × xS)) => if zz13 = 0 then (KK15 σ12)
 else (xbI (F_X6_isNote pp3 σ12) (fun (zz18 : Int32) (σ17 : xS) => if ¬ zz18 = 0 then (if xin (2 : Int32) 187 = true then (xlet (σ17 (oo0 + 2) (2 : Int32).toNatClampNeg) (fun (zz19 : Int32) => if 8 ≤ zz19 then (KK10 3 σ17)
 else (KK10 0 σ17))) else none)
 else (KK15 σ17))))))
 else (KK10 1 σ1)))
abbrev rm_X6_plan : Room := { frames := 2, cells := 0, slots := 0, locals := 46 }
set_option maxHeartbeats 4000000 in
set_option maxRecDepth 100000 in
theorem c_X6_plan (l : Launch) {D : va_G} {ad : Nat → Nat} {N : Nat} {Sh : xSh} (hI : ∀ i j, i < N → j < N → ad i = ad j → i = j) (oo0 : Nat) (hh0 : xIs6 D ad N Sh oo0) (pp1 : Int32) (pp2 : Int32) (pp3 : Int32) (σ : xS) : xKI l yX6_plan (Cond.code yX6_plan cX6_plan 4 (some .int) :: wG) rm_X6_plan 0 0 D ad N Sh [.ref (ad oo0), .int pp1, .int pp2, .int pp3] σ (F_X6_plan oo0 pp1 pp2 pp3 σ) := by
  refine x_startI (own := RX6) (maxL := 4) (by decide) rfl rfl (Nat.le_of_ble_eq_true rfl) rfl hI (fun Γ hl hnL X => ?_)
  subst hl
  unfold F_X6_plan
  refine xr_aload_n (pc := 0) X (i := 0) 0 rfl rfl dX6_plan_0 ?_
  refine xr_aload_n (pc := 1) X (i := 0) 0 rfl rfl dX6_plan_1 ?_
  refine xgX6 (pc := 2) X (oo0) hh0.1 3 wm_5_21 rfl rfl (by decide) rfl dX6_plan_2 ?_
  refine xr_iload_n (pc := 5) X (i := 2) 2 rfl rfl dX6_plan_5 ?_
  refine xr_callSI (na := 2) (pc := 6) X [.ref (ad (oo0 + 2)), .int pp2] (c_X6_isWriter Γ.2.1 hI 187 (oo0 + 2) hh0.2.2.1 pp2 σ) (wG_S wm_11_8 wm_11_6 wm_11_7 wm_1_5) rfl rfl rfl (by decide +kernel) ⟨Nat.le_of_ble_eq_true rfl, Nat.le_of_ble_eq_true rfl⟩ rfl rfl (Nat.le_of_ble_eq_true rfl) ⟨Nat.le_of_ble_eq_true rfl, Nat.le_of_ble_eq_true rfl⟩ dX6_plan_6 (fun zz2 σ1 => ?_)
  refine x_jn (fun (KK10 : Int32 → xS → Option (Int32 × xS)) => ∀ zz3 σ4, xM Γ D ad N Sh (xQI Γ D ad N Sh 0 0) 0 0 (KK10 zz3 σ4) σ4 55 [(0, .ref (ad oo0)), (1, .int pp1), (2, .int pp2), (3, .int pp3)] [.int zz3, .ref (ad oo0)]) (fun zz3 σ4 => ?_) (fun KK10 hKK11 => ?_)
  · refine xr_callVI (na := 1) (pc := 55) X (oo0) [.int zz3] _ (c_X6_refused Γ.2.1 hI oo0 hh0 zz3 σ4) (wG_V wm_8_5 wm_8_2 wm_8_3 wm_8_4 wm_1_5) rfl rfl rfl (by decide +kernel) ⟨Nat.le_of_ble_eq_true rfl, Nat.le_of_ble_eq_true rfl⟩ hh0.1.1 hh0.1.2 rfl (T := TX6) (C := RX6) rfl rfl rfl (Nat.le_of_ble_eq_true rfl) ⟨Nat.le_of_ble_eq_true rfl, Nat.le_of_ble_eq_true rfl⟩ dX6_plan_55 (fun zz6 σ5 => ?_)
    refine xr_if_eq (pc := 58) X 63 (by decide) dX6_plan_58 (fun _ => ?_) (fun _ => ?_)
    · refine xr_aload_n (pc := 63) X (i := 0) 0 rfl rfl dX6_plan_63 ?_
      refine xr_callVV (na := 0) (pc := 64) X (oo0) [] _ (c_X6_remember Γ.2.1 hI oo0 hh0 σ5) (wG_V wm_24_1 wm_23_22 wm_23_23 wm_24_0 wm_1_5) rfl rfl rfl (by decide +kernel) ⟨Nat.le_of_ble_eq_true rfl, Nat.le_of_ble_eq_true rfl⟩ hh0.1.1 hh0.1.2 rfl (T := TX6) (C := RX6) rfl rfl rfl (Nat.le_of_ble_eq_true rfl) ⟨Nat.le_of_ble_eq_true rfl, Nat.le_of_ble_eq_true rfl⟩ dX6_plan_64 (fun σ7 => ?_)
      refine xr_aload_n (pc := 67) X (i := 0) 0 rfl rfl dX6_plan_67 ?_
      refine xgX6 (pc := 68) X (oo0) hh0.1 3 wm_5_21 rfl rfl (by decide) rfl dX6_plan_68 ?_
      refine xr_iload_n (pc := 71) X (i := 1) 1 rfl rfl dX6_plan_71 ?_
      refine xr_iload_n (pc := 72) X (i := 2) 2 rfl rfl dX6_plan_72 ?_
      refine xr_iload_n (pc := 73) X (i := 3) 3 rfl rfl dX6_plan_73 ?_
      refine xr_callSI (na := 4) (pc := 74) X [.ref (ad (oo0 + 2)), .int pp1, .int pp2, .int pp3] (c_X6_planOn Γ.2.1 hI 187 (oo0 + 2) hh0.2.2.1 pp1 pp2 pp3 σ7) (wG_S wm_12_9 wm_12_7 wm_12_8 wm_1_5) rfl rfl rfl (by decide +kernel) ⟨Nat.le_of_ble_eq_true rfl, Nat.le_of_ble_eq_true rfl⟩ rfl rfl (Nat.le_of_ble_eq_true rfl) ⟨Nat.le_of_ble_eq_true rfl, Nat.le_of_ble_eq_true rfl⟩ dX6_plan_74 (fun zz9 σ8 => ?_)
      exact xr_iret (pc := 77) X (Nat.le_of_ble_eq_true rfl) (Nat.le_of_ble_eq_true rfl) dX6_plan_77
    refine xr_iconst (pc := 61) X dX6_plan_61 (v := 0) (by decide) ?_
    exact xr_iret (pc := 62) X (Nat.le_of_ble_eq_true rfl) (Nat.le_of_ble_eq_true rfl) dX6_plan_62
  refine xr_if_ne (pc := 9) X 16 (by decide) dX6_plan_9 (fun _ => ?_) (fun _ => ?_)
  · refine xr_iload_n (pc := 16) X (i := 1) 1 rfl rfl dX6_plan_16 ?_
    refine xr_i2l (pc := 17) X dX6_plan_17 ?_
    refine xr_lconst (pc := 18) X dX6_plan_18 (v := 1) rfl ?_
    refine xr_ldc2 (pc := 19) X dX6_plan_19 (List.mem_cons_of_mem _ wm_25_4) ?_
    refine xr_callSI (na := 3) (pc := 22) X [.long pp1.toInt64, .long 1, .long 99] (c_X6_in Γ.2.1 hI pp1.toInt64 1 99 σ1) (wG_S wm_8_1 wm_7_23 wm_8_0 wm_1_5) rfl rfl rfl (by decide +kernel) ⟨Nat.le_of_ble_eq_true rfl, Nat.le_of_ble_eq_true rfl⟩ rfl rfl (Nat.le_of_ble_eq_true rfl) ⟨Nat.le_of_ble_eq_true rfl, Nat.le_of_ble_eq_true rfl⟩ dX6_plan_22 (fun zz13 σ12 => ?_)
    refine x_jn (fun (KK15 : xS → Option (Int32 × xS)) => ∀ σ14, xM Γ D ad N Sh (xQI Γ D ad N Sh 0 0) 0 0 (KK15 σ14) σ14 35 [(0, .ref (ad oo0)), (1, .int pp1), (2, .int pp2), (3, .int pp3)] [.ref (ad oo0)]) (fun σ14 => ?_) (fun KK15 hKK16 => ?_)
    · refine xr_iconst (pc := 35) X dX6_plan_35 (v := 2) (by decide) ?_
      refine xr_goto (pc := 36) X 55 (by decide) dX6_plan_36 ?_
      exact hKK11 _ _
    refine xr_if_eq (pc := 25) X 35 (by decide) dX6_plan_25 (fun _ => ?_) (fun _ => ?_)
    · exact hKK16  _
    refine xr_iload_n (pc := 28) X (i := 3) 3 rfl rfl dX6_plan_28 ?_
    refine xr_callSI (na := 1) (pc := 29) X [.int pp3] (c_X6_isNote Γ.2.1 hI pp3 σ12) (wG_S wm_24_15 wm_24_13 wm_24_14 wm_1_5) rfl rfl rfl (by decide +kernel) ⟨Nat.le_of_ble_eq_true rfl, Nat.le_of_ble_eq_true rfl⟩ rfl rfl (Nat.le_of_ble_eq_true rfl) ⟨Nat.le_of_ble_eq_true rfl, Nat.le_of_ble_eq_true rfl⟩ dX6_plan_29 (fun zz18 σ17 => ?_)
    refine xr_if_ne (pc := 32) X 39 (by decide) dX6_plan_32 (fun _ => ?_) (fun _ => ?_)
    · refine xr_aload_n (pc := 39) X (i := 0) 0 rfl rfl dX6_plan_39 ?_
      refine xgX6 (pc := 40) X (oo0) hh0.1 3 wm_5_21 rfl rfl (by decide) rfl dX6_plan_40 ?_
      refine xr_iconst (pc := 43) X dX6_plan_43 (v := 2) (by decide) ?_
      refine xr_iald (pc := 44) X (oo0 + 2) (187) hh0.2.2.1.1 hh0.2.2.1.2 dX6_plan_44 (fun zz19 => ?_)
      refine xr_bipush (pc := 45) X dX6_plan_45 (v := 8) (by decide) ?_
      refine xr_icmp_ge (pc := 47) X 54 (by decide) dX6_plan_47 (fun _ => ?_) (fun _ => ?_)
      · refine xr_iconst (pc := 54) X dX6_plan_54 (v := 3) (by decide) ?_
        exact hKK11 _ _
      refine xr_iconst (pc := 50) X dX6_plan_50 (v := 0) (by decide) ?_
      refine xr_goto (pc := 51) X 55 (by decide) dX6_plan_51 ?_
      exact hKK11 _ _
    exact hKK16  _
  refine xr_iconst (pc := 12) X dX6_plan_12 (v := 1) (by decide) ?_
  refine xr_goto (pc := 13) X 55 (by decide) dX6_plan_13 ?_
  exact hKK11 _ _
def F_X6_hold (oo0 : Nat) (pp1 : Int32) (pp2 : Int32) (σ : xS) : Option (Int32 × xS) :=
  xbI (F_X6_isWriter 187 (oo0 + 2) pp1 σ) (fun (zz2 : Int32) (σ1 : xS) => xjn (fun (zz3 : Int32) (σ4 : xS) => xbI (F_X6_refused oo0 zz3 σ4) (fun (zz6 : Int32) (σ5 : xS) => if zz6 = 0 then (xbV (F_X6_remember oo0 σ5) (fun (σ7 : xS) => xbI (F_X6_holdOn 187 (oo0 + 2) pp1 pp2 σ7) (fun (zz9 : Int32) (σ8 : xS) => some (zz9, σ8))))
 else (some ((0 : Int32), σ5))))
 (fun (KK10 : Int32 → xS → Option (Int32 × xS)) => if zz2 = 0 then (KK10 1 σ1)
 else (KK10 0 σ1)))
abbrev rm_X6_hold : Room := { frames := 5, cells := 0, slots := 0, locals := 115 }
set_option maxHeartbeats 4000000 in
set_option maxRecDepth 100000 in
theorem c_X6_hold (l : Launch) {D : va_G} {ad : Nat → Nat} {N : Nat} {Sh : xSh} (hI : ∀ i j, i < N → j < N → ad i = ad j → i = j) (oo0 : Nat) (hh0 : xIs6 D ad N Sh oo0) (pp1 : Int32) (pp2 : Int32) (σ : xS) : xKI l yX6_hold (Cond.code yX6_hold cX6_hold 3 (some .int) :: wG) rm_X6_hold 0 0 D ad N Sh [.ref (ad oo0), .int pp1, .int pp2] σ (F_X6_hold oo0 pp1 pp2 σ) := by
  refine x_startI (own := RX6) (maxL := 3) (by decide) rfl rfl (Nat.le_of_ble_eq_true rfl) rfl hI (fun Γ hl hnL X => ?_)
  subst hl
  unfold F_X6_hold
  refine xr_aload_n (pc := 0) X (i := 0) 0 rfl rfl dX6_hold_0 ?_
  refine xr_aload_n (pc := 1) X (i := 0) 0 rfl rfl dX6_hold_1 ?_
  refine xgX6 (pc := 2) X (oo0) hh0.1 3 wm_5_21 rfl rfl (by decide) rfl dX6_hold_2 ?_
  refine xr_iload_n (pc := 5) X (i := 1) 1 rfl rfl dX6_hold_5 ?_
  refine xr_callSI (na := 2) (pc := 6) X [.ref (ad (oo0 + 2)), .int pp1] (c_X6_isWriter Γ.2.1 hI 187 (oo0 + 2) hh0.2.2.1 pp1 σ) (wG_S wm_11_8 wm_11_6 wm_11_7 wm_1_5) rfl rfl rfl (by decide +kernel) ⟨Nat.le_of_ble_eq_true rfl, Nat.le_of_ble_eq_true rfl⟩ rfl rfl (Nat.le_of_ble_eq_true rfl) ⟨Nat.le_of_ble_eq_true rfl, Nat.le_of_ble_eq_true rfl⟩ dX6_hold_6 (fun zz2 σ1 => ?_)
  refine x_jn (fun (KK10 : Int32 → xS → Option (Int32 × xS)) => ∀ zz3 σ4, xM Γ D ad N Sh (xQI Γ D ad N Sh 0 0) 0 0 (KK10 zz3 σ4) σ4 17 [(0, .ref (ad oo0)), (1, .int pp1), (2, .int pp2)] [.int zz3, .ref (ad oo0)]) (fun zz3 σ4 => ?_) (fun KK10 hKK11 => ?_)
  · refine xr_callVI (na := 1) (pc := 17) X (oo0) [.int zz3] _ (c_X6_refused Γ.2.1 hI oo0 hh0 zz3 σ4) (wG_V wm_8_5 wm_8_2 wm_8_3 wm_8_4 wm_1_5) rfl rfl rfl (by decide +kernel) ⟨Nat.le_of_ble_eq_true rfl, Nat.le_of_ble_eq_true rfl⟩ hh0.1.1 hh0.1.2 rfl (T := TX6) (C := RX6) rfl rfl rfl (Nat.le_of_ble_eq_true rfl) ⟨Nat.le_of_ble_eq_true rfl, Nat.le_of_ble_eq_true rfl⟩ dX6_hold_17 (fun zz6 σ5 => ?_)
    refine xr_if_eq (pc := 20) X 25 (by decide) dX6_hold_20 (fun _ => ?_) (fun _ => ?_)
    · refine xr_aload_n (pc := 25) X (i := 0) 0 rfl rfl dX6_hold_25 ?_
      refine xr_callVV (na := 0) (pc := 26) X (oo0) [] _ (c_X6_remember Γ.2.1 hI oo0 hh0 σ5) (wG_V wm_24_1 wm_23_22 wm_23_23 wm_24_0 wm_1_5) rfl rfl rfl (by decide +kernel) ⟨Nat.le_of_ble_eq_true rfl, Nat.le_of_ble_eq_true rfl⟩ hh0.1.1 hh0.1.2 rfl (T := TX6) (C := RX6) rfl rfl rfl (Nat.le_of_ble_eq_true rfl) ⟨Nat.le_of_ble_eq_true rfl, Nat.le_of_ble_eq_true rfl⟩ dX6_hold_26 (fun σ7 => ?_)
      refine xr_aload_n (pc := 29) X (i := 0) 0 rfl rfl dX6_hold_29 ?_
      refine xgX6 (pc := 30) X (oo0) hh0.1 3 wm_5_21 rfl rfl (by decide) rfl dX6_hold_30 ?_
      refine xr_iload_n (pc := 33) X (i := 1) 1 rfl rfl dX6_hold_33 ?_
      refine xr_iload_n (pc := 34) X (i := 2) 2 rfl rfl dX6_hold_34 ?_
      refine xr_callSI (na := 3) (pc := 35) X [.ref (ad (oo0 + 2)), .int pp1, .int pp2] (c_X6_holdOn Γ.2.1 hI 187 (oo0 + 2) hh0.2.2.1 pp1 pp2 σ7) (wG_S wm_12_12 wm_12_10 wm_12_11 wm_1_5) rfl rfl rfl (by decide +kernel) ⟨Nat.le_of_ble_eq_true rfl, Nat.le_of_ble_eq_true rfl⟩ rfl rfl (Nat.le_of_ble_eq_true rfl) ⟨Nat.le_of_ble_eq_true rfl, Nat.le_of_ble_eq_true rfl⟩ dX6_hold_35 (fun zz9 σ8 => ?_)
      exact xr_iret (pc := 38) X (Nat.le_of_ble_eq_true rfl) (Nat.le_of_ble_eq_true rfl) dX6_hold_38
    refine xr_iconst (pc := 23) X dX6_hold_23 (v := 0) (by decide) ?_
    exact xr_iret (pc := 24) X (Nat.le_of_ble_eq_true rfl) (Nat.le_of_ble_eq_true rfl) dX6_hold_24
  refine xr_if_eq (pc := 9) X 16 (by decide) dX6_hold_9 (fun _ => ?_) (fun _ => ?_)
  · refine xr_iconst (pc := 16) X dX6_hold_16 (v := 1) (by decide) ?_
    exact hKK11 _ _
  refine xr_iconst (pc := 12) X dX6_hold_12 (v := 0) (by decide) ?_
  refine xr_goto (pc := 13) X 17 (by decide) dX6_hold_13 ?_
  exact hKK11 _ _
def F_X6_flush (oo0 : Nat) (pp1 : Int32) (σ : xS) : Option (Int32 × xS) :=
  xbI (F_X6_isWriter 187 (oo0 + 2) pp1 σ) (fun (zz2 : Int32) (σ1 : xS) => xjn (fun (zz3 : Int32) (σ4 : xS) => xbI (F_X6_refused oo0 zz3 σ4) (fun (zz6 : Int32) (σ5 : xS) => if zz6 = 0 then (xbV (F_X6_remember oo0 σ5) (fun (σ7 : xS) => xbI (F_X6_sends 187 (oo0 + 2) pp1 0 σ7) (fun (zz9 : Int32) (σ8 : xS) => some (zz9, σ8))))
 else (some ((0 : Int32), σ5))))
 (fun (KK10 : Int32 → xS → Option (Int32 × xS)) => if zz2 = 0 then (KK10 1 σ1)
 else (KK10 0 σ1)))
abbrev rm_X6_flush : Room := { frames := 3, cells := 0, slots := 0, locals := 72 }
set_option maxHeartbeats 4000000 in
set_option maxRecDepth 100000 in
theorem c_X6_flush (l : Launch) {D : va_G} {ad : Nat → Nat} {N : Nat} {Sh : xSh} (hI : ∀ i j, i < N → j < N → ad i = ad j → i = j) (oo0 : Nat) (hh0 : xIs6 D ad N Sh oo0) (pp1 : Int32) (σ : xS) : xKI l yX6_flush (Cond.code yX6_flush cX6_flush 2 (some .int) :: wG) rm_X6_flush 0 0 D ad N Sh [.ref (ad oo0), .int pp1] σ (F_X6_flush oo0 pp1 σ) := by
  refine x_startI (own := RX6) (maxL := 2) (by decide) rfl rfl (Nat.le_of_ble_eq_true rfl) rfl hI (fun Γ hl hnL X => ?_)
  subst hl
  unfold F_X6_flush
  refine xr_aload_n (pc := 0) X (i := 0) 0 rfl rfl dX6_flush_0 ?_
  refine xr_aload_n (pc := 1) X (i := 0) 0 rfl rfl dX6_flush_1 ?_
  refine xgX6 (pc := 2) X (oo0) hh0.1 3 wm_5_21 rfl rfl (by decide) rfl dX6_flush_2 ?_
  refine xr_iload_n (pc := 5) X (i := 1) 1 rfl rfl dX6_flush_5 ?_
  refine xr_callSI (na := 2) (pc := 6) X [.ref (ad (oo0 + 2)), .int pp1] (c_X6_isWriter Γ.2.1 hI 187 (oo0 + 2) hh0.2.2.1 pp1 σ) (wG_S wm_11_8 wm_11_6 wm_11_7 wm_1_5) rfl rfl rfl (by decide +kernel) ⟨Nat.le_of_ble_eq_true rfl, Nat.le_of_ble_eq_true rfl⟩ rfl rfl (Nat.le_of_ble_eq_true rfl) ⟨Nat.le_of_ble_eq_true rfl, Nat.le_of_ble_eq_true rfl⟩ dX6_flush_6 (fun zz2 σ1 => ?_)
  refine x_jn (fun (KK10 : Int32 → xS → Option (Int32 × xS)) => ∀ zz3 σ4, xM Γ D ad N Sh (xQI Γ D ad N Sh 0 0) 0 0 (KK10 zz3 σ4) σ4 17 [(0, .ref (ad oo0)), (1, .int pp1)] [.int zz3, .ref (ad oo0)]) (fun zz3 σ4 => ?_) (fun KK10 hKK11 => ?_)
  · refine xr_callVI (na := 1) (pc := 17) X (oo0) [.int zz3] _ (c_X6_refused Γ.2.1 hI oo0 hh0 zz3 σ4) (wG_V wm_8_5 wm_8_2 wm_8_3 wm_8_4 wm_1_5) rfl rfl rfl (by decide +kernel) ⟨Nat.le_of_ble_eq_true rfl, Nat.le_of_ble_eq_true rfl⟩ hh0.1.1 hh0.1.2 rfl (T := TX6) (C := RX6) rfl rfl rfl (Nat.le_of_ble_eq_true rfl) ⟨Nat.le_of_ble_eq_true rfl, Nat.le_of_ble_eq_true rfl⟩ dX6_flush_17 (fun zz6 σ5 => ?_)
    refine xr_if_eq (pc := 20) X 25 (by decide) dX6_flush_20 (fun _ => ?_) (fun _ => ?_)
    · refine xr_aload_n (pc := 25) X (i := 0) 0 rfl rfl dX6_flush_25 ?_
      refine xr_callVV (na := 0) (pc := 26) X (oo0) [] _ (c_X6_remember Γ.2.1 hI oo0 hh0 σ5) (wG_V wm_24_1 wm_23_22 wm_23_23 wm_24_0 wm_1_5) rfl rfl rfl (by decide +kernel) ⟨Nat.le_of_ble_eq_true rfl, Nat.le_of_ble_eq_true rfl⟩ hh0.1.1 hh0.1.2 rfl (T := TX6) (C := RX6) rfl rfl rfl (Nat.le_of_ble_eq_true rfl) ⟨Nat.le_of_ble_eq_true rfl, Nat.le_of_ble_eq_true rfl⟩ dX6_flush_26 (fun σ7 => ?_)
      refine xr_aload_n (pc := 29) X (i := 0) 0 rfl rfl dX6_flush_29 ?_
      refine xgX6 (pc := 30) X (oo0) hh0.1 3 wm_5_21 rfl rfl (by decide) rfl dX6_flush_30 ?_
      refine xr_iload_n (pc := 33) X (i := 1) 1 rfl rfl dX6_flush_33 ?_
      refine xr_iconst (pc := 34) X dX6_flush_34 (v := 0) (by decide) ?_
      refine xr_callSI (na := 3) (pc := 35) X [.ref (ad (oo0 + 2)), .int pp1, .int 0] (c_X6_sends Γ.2.1 hI 187 (oo0 + 2) hh0.2.2.1 pp1 0 σ7) (wG_S wm_11_23 wm_11_21 wm_11_22 wm_1_5) rfl rfl rfl (by decide +kernel) ⟨Nat.le_of_ble_eq_true rfl, Nat.le_of_ble_eq_true rfl⟩ rfl rfl (Nat.le_of_ble_eq_true rfl) ⟨Nat.le_of_ble_eq_true rfl, Nat.le_of_ble_eq_true rfl⟩ dX6_flush_35 (fun zz9 σ8 => ?_)
      exact xr_iret (pc := 38) X (Nat.le_of_ble_eq_true rfl) (Nat.le_of_ble_eq_true rfl) dX6_flush_38
    refine xr_iconst (pc := 23) X dX6_flush_23 (v := 0) (by decide) ?_
    exact xr_iret (pc := 24) X (Nat.le_of_ble_eq_true rfl) (Nat.le_of_ble_eq_true rfl) dX6_flush_24
  refine xr_if_eq (pc := 9) X 16 (by decide) dX6_flush_9 (fun _ => ?_) (fun _ => ?_)
  · refine xr_iconst (pc := 16) X dX6_flush_16 (v := 1) (by decide) ?_
    exact hKK11 _ _
  refine xr_iconst (pc := 12) X dX6_flush_12 (v := 0) (by decide) ?_
  refine xr_goto (pc := 13) X 17 (by decide) dX6_flush_13 ?_
  exact hKK11 _ _
def F_X6_ticks (oo0 : Nat) (pp1 : Int32) (σ : xS) : Option (Int32 × xS) :=
  xbI (F_X6_in pp1.toInt64 1 99 σ) (fun (zz2 : Int32) (σ1 : xS) => xjn (fun (zz3 : Int32) (σ4 : xS) => xbI (F_X6_refused oo0 zz3 σ4) (fun (zz6 : Int32) (σ5 : xS) => if zz6 = 0 then (xbV (F_X6_remember oo0 σ5) (fun (σ7 : xS) => xbI (F_X6_ticksOn 187 (oo0 + 2) pp1 σ7) (fun (zz9 : Int32) (σ8 : xS) => some (zz9, σ8))))
 else (some ((0 : Int32), σ5))))
 (fun (KK10 : Int32 → xS → Option (Int32 × xS)) => if ¬ zz2 = 0 then (if xin (1 : Int32) 187 = true then (xlet (σ1 (oo0 + 2) (1 : Int32).toNatClampNeg) (fun (zz12 : Int32) => if (zz12 + pp1) ≤ 99999 then (KK10 0 σ1)
 else (KK10 2 σ1))) else none)
 else (KK10 1 σ1)))
abbrev rm_X6_ticks : Room := { frames := 8, cells := 0, slots := 0, locals := 184 }
set_option maxHeartbeats 4000000 in
set_option maxRecDepth 100000 in
theorem c_X6_ticks (l : Launch) {D : va_G} {ad : Nat → Nat} {N : Nat} {Sh : xSh} (hI : ∀ i j, i < N → j < N → ad i = ad j → i = j) (oo0 : Nat) (hh0 : xIs6 D ad N Sh oo0) (pp1 : Int32) (σ : xS) : xKI l yX6_ticks (Cond.code yX6_ticks cX6_ticks 2 (some .int) :: wG) rm_X6_ticks 0 0 D ad N Sh [.ref (ad oo0), .int pp1] σ (F_X6_ticks oo0 pp1 σ) := by
  refine x_startI (own := RX6) (maxL := 2) (by decide) rfl rfl (Nat.le_of_ble_eq_true rfl) rfl hI (fun Γ hl hnL X => ?_)
  subst hl
  unfold F_X6_ticks
  refine xr_aload_n (pc := 0) X (i := 0) 0 rfl rfl dX6_ticks_0 ?_
  refine xr_iload_n (pc := 1) X (i := 1) 1 rfl rfl dX6_ticks_1 ?_
  refine xr_i2l (pc := 2) X dX6_ticks_2 ?_
  refine xr_lconst (pc := 3) X dX6_ticks_3 (v := 1) rfl ?_
  refine xr_ldc2 (pc := 4) X dX6_ticks_4 (List.mem_cons_of_mem _ wm_25_4) ?_
  refine xr_callSI (na := 3) (pc := 7) X [.long pp1.toInt64, .long 1, .long 99] (c_X6_in Γ.2.1 hI pp1.toInt64 1 99 σ) (wG_S wm_8_1 wm_7_23 wm_8_0 wm_1_5) rfl rfl rfl (by decide +kernel) ⟨Nat.le_of_ble_eq_true rfl, Nat.le_of_ble_eq_true rfl⟩ rfl rfl (Nat.le_of_ble_eq_true rfl) ⟨Nat.le_of_ble_eq_true rfl, Nat.le_of_ble_eq_true rfl⟩ dX6_ticks_7 (fun zz2 σ1 => ?_)
  refine x_jn (fun (KK10 : Int32 → xS → Option (Int32 × xS)) => ∀ zz3 σ4, xM Γ D ad N Sh (xQI Γ D ad N Sh 0 0) 0 0 (KK10 zz3 σ4) σ4 35 [(0, .ref (ad oo0)), (1, .int pp1)] [.int zz3, .ref (ad oo0)]) (fun zz3 σ4 => ?_) (fun KK10 hKK11 => ?_)
  · refine xr_callVI (na := 1) (pc := 35) X (oo0) [.int zz3] _ (c_X6_refused Γ.2.1 hI oo0 hh0 zz3 σ4) (wG_V wm_8_5 wm_8_2 wm_8_3 wm_8_4 wm_1_5) rfl rfl rfl (by decide +kernel) ⟨Nat.le_of_ble_eq_true rfl, Nat.le_of_ble_eq_true rfl⟩ hh0.1.1 hh0.1.2 rfl (T := TX6) (C := RX6) rfl rfl rfl (Nat.le_of_ble_eq_true rfl) ⟨Nat.le_of_ble_eq_true rfl, Nat.le_of_ble_eq_true rfl⟩ dX6_ticks_35 (fun zz6 σ5 => ?_)
    refine xr_if_eq (pc := 38) X 43 (by decide) dX6_ticks_38 (fun _ => ?_) (fun _ => ?_)
    · refine xr_aload_n (pc := 43) X (i := 0) 0 rfl rfl dX6_ticks_43 ?_
      refine xr_callVV (na := 0) (pc := 44) X (oo0) [] _ (c_X6_remember Γ.2.1 hI oo0 hh0 σ5) (wG_V wm_24_1 wm_23_22 wm_23_23 wm_24_0 wm_1_5) rfl rfl rfl (by decide +kernel) ⟨Nat.le_of_ble_eq_true rfl, Nat.le_of_ble_eq_true rfl⟩ hh0.1.1 hh0.1.2 rfl (T := TX6) (C := RX6) rfl rfl rfl (Nat.le_of_ble_eq_true rfl) ⟨Nat.le_of_ble_eq_true rfl, Nat.le_of_ble_eq_true rfl⟩ dX6_ticks_44 (fun σ7 => ?_)
      refine xr_aload_n (pc := 47) X (i := 0) 0 rfl rfl dX6_ticks_47 ?_
      refine xgX6 (pc := 48) X (oo0) hh0.1 3 wm_5_21 rfl rfl (by decide) rfl dX6_ticks_48 ?_
      refine xr_iload_n (pc := 51) X (i := 1) 1 rfl rfl dX6_ticks_51 ?_
      refine xr_callSI (na := 2) (pc := 52) X [.ref (ad (oo0 + 2)), .int pp1] (c_X6_ticksOn Γ.2.1 hI 187 (oo0 + 2) hh0.2.2.1 pp1 σ7) (wG_S wm_12_15 wm_12_13 wm_12_14 wm_1_5) rfl rfl rfl (by decide +kernel) ⟨Nat.le_of_ble_eq_true rfl, Nat.le_of_ble_eq_true rfl⟩ rfl rfl (Nat.le_of_ble_eq_true rfl) ⟨Nat.le_of_ble_eq_true rfl, Nat.le_of_ble_eq_true rfl⟩ dX6_ticks_52 (fun zz9 σ8 => ?_)
      exact xr_iret (pc := 55) X (Nat.le_of_ble_eq_true rfl) (Nat.le_of_ble_eq_true rfl) dX6_ticks_55
    refine xr_iconst (pc := 41) X dX6_ticks_41 (v := 0) (by decide) ?_
    exact xr_iret (pc := 42) X (Nat.le_of_ble_eq_true rfl) (Nat.le_of_ble_eq_true rfl) dX6_ticks_42
  refine xr_if_ne (pc := 10) X 17 (by decide) dX6_ticks_10 (fun _ => ?_) (fun _ => ?_)
  · refine xr_aload_n (pc := 17) X (i := 0) 0 rfl rfl dX6_ticks_17 ?_
    refine xgX6 (pc := 18) X (oo0) hh0.1 3 wm_5_21 rfl rfl (by decide) rfl dX6_ticks_18 ?_
    refine xr_iconst (pc := 21) X dX6_ticks_21 (v := 1) (by decide) ?_
    refine xr_iald (pc := 22) X (oo0 + 2) (187) hh0.2.2.1.1 hh0.2.2.1.2 dX6_ticks_22 (fun zz12 => ?_)
    refine xr_iload_n (pc := 23) X (i := 1) 1 rfl rfl dX6_ticks_23 ?_
    refine xr_iadd (pc := 24) X dX6_ticks_24 ?_
    refine xr_ldc (pc := 25) X dX6_ticks_25 (List.mem_cons_of_mem _ wm_26_15) ?_
    refine xr_icmp_le (pc := 27) X 34 (by decide) dX6_ticks_27 (fun _ => ?_) (fun _ => ?_)
    · refine xr_iconst (pc := 34) X dX6_ticks_34 (v := 0) (by decide) ?_
      exact hKK11 _ _
    refine xr_iconst (pc := 30) X dX6_ticks_30 (v := 2) (by decide) ?_
    refine xr_goto (pc := 31) X 35 (by decide) dX6_ticks_31 ?_
    exact hKK11 _ _
  refine xr_iconst (pc := 13) X dX6_ticks_13 (v := 1) (by decide) ?_
  refine xr_goto (pc := 14) X 35 (by decide) dX6_ticks_14 ?_
  exact hKK11 _ _
def F_X6_set (oo0 : Nat) (pp1 : Int32) (pp2 : Int32) (σ : xS) : Option (Int32 × xS) :=
  xbI (F_X6_isSetting pp1 pp2 σ) (fun (zz2 : Int32) (σ1 : xS) => xjn (fun (zz3 : Int32) (σ4 : xS) => xbI (F_X6_refused oo0 zz3 σ4) (fun (zz6 : Int32) (σ5 : xS) => if zz6 = 0 then (xbV (F_X6_remember oo0 σ5) (fun (σ7 : xS) => if xin (3 + pp1) 187 = true then (xlet (σ7 (oo0 + 2) (3 + pp1).toNatClampNeg) (fun (zz8 : Int32) => if xin (3 + pp1) 187 = true then (xlet (xu σ7 (oo0 + 2) (3 + pp1).toNatClampNeg pp2) (fun (σ9 : xS) => some (zz8, σ9))) else none)) else none))
 else (some ((0 : Int32), σ5))))
 (fun (KK10 : Int32 → xS → Option (Int32 × xS)) => if zz2 = 0 then (KK10 1 σ1)
 else (KK10 0 σ1)))
abbrev rm_X6_set : Room := { frames := 2, cells := 0, slots := 0, locals := 46 }
set_option maxHeartbeats 4000000 in
set_option maxRecDepth 100000 in
theorem c_X6_set (l : Launch) {D : va_G} {ad : Nat → Nat} {N : Nat} {Sh : xSh} (hI : ∀ i j, i < N → j < N → ad i = ad j → i = j) (oo0 : Nat) (hh0 : xIs6 D ad N Sh oo0) (pp1 : Int32) (pp2 : Int32) (σ : xS) : xKI l yX6_set (Cond.code yX6_set cX6_set 4 (some .int) :: wG) rm_X6_set 0 0 D ad N Sh [.ref (ad oo0), .int pp1, .int pp2] σ (F_X6_set oo0 pp1 pp2 σ) := by
  refine x_startI (own := RX6) (maxL := 4) (by decide) rfl rfl (Nat.le_of_ble_eq_true rfl) rfl hI (fun Γ hl hnL X => ?_)
  subst hl
  unfold F_X6_set
  refine xr_aload_n (pc := 0) X (i := 0) 0 rfl rfl dX6_set_0 ?_
  refine xr_iload_n (pc := 1) X (i := 1) 1 rfl rfl dX6_set_1 ?_
  refine xr_iload_n (pc := 2) X (i := 2) 2 rfl rfl dX6_set_2 ?_
  refine xr_callSI (na := 2) (pc := 3) X [.int pp1, .int pp2] (c_X6_isSetting Γ.2.1 hI pp1 pp2 σ) (wG_S wm_27_5 wm_27_3 wm_27_4 wm_1_5) rfl rfl rfl (by decide +kernel) ⟨Nat.le_of_ble_eq_true rfl, Nat.le_of_ble_eq_true rfl⟩ rfl rfl (Nat.le_of_ble_eq_true rfl) ⟨Nat.le_of_ble_eq_true rfl, Nat.le_of_ble_eq_true rfl⟩ dX6_set_3 (fun zz2 σ1 => ?_)
  refine x_jn (fun (KK10 : Int32 → xS → Option (Int32 × xS)) => ∀ zz3 σ4, xM Γ D ad N Sh (xQI Γ D ad N Sh 0 0) 0 0 (KK10 zz3 σ4) σ4 14 [(0, .ref (ad oo0)), (1, .int pp1), (2, .int pp2)] [.int zz3, .ref (ad oo0)]) (fun zz3 σ4 => ?_) (fun KK10 hKK11 => ?_)
  · refine xr_callVI (na := 1) (pc := 14) X (oo0) [.int zz3] _ (c_X6_refused Γ.2.1 hI oo0 hh0 zz3 σ4) (wG_V wm_8_5 wm_8_2 wm_8_3 wm_8_4 wm_1_5) rfl rfl rfl (by decide +kernel) ⟨Nat.le_of_ble_eq_true rfl, Nat.le_of_ble_eq_true rfl⟩ hh0.1.1 hh0.1.2 rfl (T := TX6) (C := RX6) rfl rfl rfl (Nat.le_of_ble_eq_true rfl) ⟨Nat.le_of_ble_eq_true rfl, Nat.le_of_ble_eq_true rfl⟩ dX6_set_14 (fun zz6 σ5 => ?_)
    refine xr_if_eq (pc := 17) X 22 (by decide) dX6_set_17 (fun _ => ?_) (fun _ => ?_)
    · refine xr_aload_n (pc := 22) X (i := 0) 0 rfl rfl dX6_set_22 ?_
      refine xr_callVV (na := 0) (pc := 23) X (oo0) [] _ (c_X6_remember Γ.2.1 hI oo0 hh0 σ5) (wG_V wm_24_1 wm_23_22 wm_23_23 wm_24_0 wm_1_5) rfl rfl rfl (by decide +kernel) ⟨Nat.le_of_ble_eq_true rfl, Nat.le_of_ble_eq_true rfl⟩ hh0.1.1 hh0.1.2 rfl (T := TX6) (C := RX6) rfl rfl rfl (Nat.le_of_ble_eq_true rfl) ⟨Nat.le_of_ble_eq_true rfl, Nat.le_of_ble_eq_true rfl⟩ dX6_set_23 (fun σ7 => ?_)
      refine xr_aload_n (pc := 26) X (i := 0) 0 rfl rfl dX6_set_26 ?_
      refine xgX6 (pc := 27) X (oo0) hh0.1 3 wm_5_21 rfl rfl (by decide) rfl dX6_set_27 ?_
      refine xr_iconst (pc := 30) X dX6_set_30 (v := 3) (by decide) ?_
      refine xr_iload_n (pc := 31) X (i := 1) 1 rfl rfl dX6_set_31 ?_
      refine xr_iadd (pc := 32) X dX6_set_32 ?_
      refine xr_iald (pc := 33) X (oo0 + 2) (187) hh0.2.2.1.1 hh0.2.2.1.2 dX6_set_33 (fun zz8 => ?_)
      refine xr_istore_n (pc := 34) X (hf := rfl) (i := 3) [1, 2, 3, 0] (Nat.le_of_ble_eq_true rfl) hnL rfl dX6_set_34 ?_
      refine xr_aload_n (pc := 35) X (i := 0) 0 rfl rfl dX6_set_35 ?_
      refine xgX6 (pc := 36) X (oo0) hh0.1 3 wm_5_21 rfl rfl (by decide) rfl dX6_set_36 ?_
      refine xr_iconst (pc := 39) X dX6_set_39 (v := 3) (by decide) ?_
      refine xr_iload_n (pc := 40) X (i := 1) 1 rfl rfl dX6_set_40 ?_
      refine xr_iadd (pc := 41) X dX6_set_41 ?_
      refine xr_iload_n (pc := 42) X (i := 2) 2 rfl rfl dX6_set_42 ?_
      refine xr_iast (pc := 43) X (oo0 + 2) (187) hh0.2.2.1.1 hh0.2.2.1.2 dX6_set_43 (fun σ9 => ?_)
      refine xr_iload_n (pc := 44) X (i := 3) 3 rfl rfl dX6_set_44 ?_
      exact xr_iret (pc := 45) X (Nat.le_of_ble_eq_true rfl) (Nat.le_of_ble_eq_true rfl) dX6_set_45
    refine xr_iconst (pc := 20) X dX6_set_20 (v := 0) (by decide) ?_
    exact xr_iret (pc := 21) X (Nat.le_of_ble_eq_true rfl) (Nat.le_of_ble_eq_true rfl) dX6_set_21
  refine xr_if_eq (pc := 6) X 13 (by decide) dX6_set_6 (fun _ => ?_) (fun _ => ?_)
  · refine xr_iconst (pc := 13) X dX6_set_13 (v := 1) (by decide) ?_
    exact hKK11 _ _
  refine xr_iconst (pc := 9) X dX6_set_9 (v := 0) (by decide) ?_
  refine xr_goto (pc := 10) X 14 (by decide) dX6_set_10 ?_
  exact hKK11 _ _
def F_X6_undo (oo0 : Nat) (σ : xS) : Option (Int32 × xS) :=
  xjn (fun (zz1 : Int32) (σ2 : xS) => xbI (F_X6_refused oo0 zz1 σ2) (fun (zz4 : Int32) (σ3 : xS) => if zz4 = 0 then (xlet (xu σ3 oo0 7 ((σ3 oo0 7) - 1)) (fun (σ5 : xS) => xbV (F_X6_copyState 2618 (oo0 + 5) (187 * (σ5 oo0 7)) 187 (oo0 + 2) 0 σ5) (fun (σ6 : xS) => some ((σ6 oo0 7), σ6))))
 else (some ((0 : Int32), σ3))))
 (fun (KK7 : Int32 → xS → Option (Int32 × xS)) => if ¬ (σ oo0 7) = 0 then (KK7 0 σ)
 else (KK7 1 σ))
abbrev rm_X6_undo : Room := { frames := 1, cells := 0, slots := 0, locals := 24 }
set_option maxHeartbeats 4000000 in
set_option maxRecDepth 100000 in
theorem c_X6_undo (l : Launch) {D : va_G} {ad : Nat → Nat} {N : Nat} {Sh : xSh} (hI : ∀ i j, i < N → j < N → ad i = ad j → i = j) (oo0 : Nat) (hh0 : xIs6 D ad N Sh oo0) (σ : xS) : xKI l yX6_undo (Cond.code yX6_undo cX6_undo 1 (some .int) :: wG) rm_X6_undo 0 0 D ad N Sh [.ref (ad oo0)] σ (F_X6_undo oo0 σ) := by
  refine x_startI (own := RX6) (maxL := 1) (by decide) rfl rfl (Nat.le_of_ble_eq_true rfl) rfl hI (fun Γ hl hnL X => ?_)
  subst hl
  unfold F_X6_undo
  refine xr_aload_n (pc := 0) X (i := 0) 0 rfl rfl dX6_undo_0 ?_
  refine xr_aload_n (pc := 1) X (i := 0) 0 rfl rfl dX6_undo_1 ?_
  refine xgX6 (pc := 2) X (oo0) hh0.1 7 wm_18_6 rfl rfl (by decide) rfl dX6_undo_2 ?_
  refine x_jn (fun (KK7 : Int32 → xS → Option (Int32 × xS)) => ∀ zz1 σ2, xM Γ D ad N Sh (xQI Γ D ad N Sh 0 0) 0 0 (KK7 zz1 σ2) σ2 13 [(0, .ref (ad oo0))] [.int zz1, .ref (ad oo0)]) (fun zz1 σ2 => ?_) (fun KK7 hKK8 => ?_)
  · refine xr_callVI (na := 1) (pc := 13) X (oo0) [.int zz1] _ (c_X6_refused Γ.2.1 hI oo0 hh0 zz1 σ2) (wG_V wm_8_5 wm_8_2 wm_8_3 wm_8_4 wm_1_5) rfl rfl rfl (by decide +kernel) ⟨Nat.le_of_ble_eq_true rfl, Nat.le_of_ble_eq_true rfl⟩ hh0.1.1 hh0.1.2 rfl (T := TX6) (C := RX6) rfl rfl rfl (Nat.le_of_ble_eq_true rfl) ⟨Nat.le_of_ble_eq_true rfl, Nat.le_of_ble_eq_true rfl⟩ dX6_undo_13 (fun zz4 σ3 => ?_)
    refine xr_if_eq (pc := 16) X 21 (by decide) dX6_undo_16 (fun _ => ?_) (fun _ => ?_)
    · refine xr_aload_n (pc := 21) X (i := 0) 0 rfl rfl dX6_undo_21 ?_
      refine xr_dup (pc := 22) X rfl dX6_undo_22 ?_
      refine xgX6 (pc := 23) X (oo0) hh0.1 7 wm_18_6 rfl rfl (by decide) rfl dX6_undo_23 ?_
      refine xr_iconst (pc := 26) X dX6_undo_26 (v := 1) (by decide) ?_
      refine xr_isub (pc := 27) X dX6_undo_27 ?_
      refine xpX6 (pc := 28) X (oo0) hh0.1 7 wm_18_6 (ty := .int) rfl (fun _ => rfl) rfl (by decide +kernel) rfl rfl (Nat.le_of_ble_eq_true rfl) (by decide) rfl dX6_undo_28 (fun σ5 => ?_)
      refine xr_aload_n (pc := 31) X (i := 0) 0 rfl rfl dX6_undo_31 ?_
      refine xgX6 (pc := 32) X (oo0) hh0.1 6 wm_6_0 rfl rfl (by decide) rfl dX6_undo_32 ?_
      refine xr_sipush (pc := 35) X dX6_undo_35 (v := 187) (by decide) ?_
      refine xr_aload_n (pc := 38) X (i := 0) 0 rfl rfl dX6_undo_38 ?_
      refine xgX6 (pc := 39) X (oo0) hh0.1 7 wm_18_6 rfl rfl (by decide) rfl dX6_undo_39 ?_
      refine xr_imul (pc := 42) X dX6_undo_42 ?_
      refine xr_aload_n (pc := 43) X (i := 0) 0 rfl rfl dX6_undo_43 ?_
      refine xgX6 (pc := 44) X (oo0) hh0.1 3 wm_5_21 rfl rfl (by decide) rfl dX6_undo_44 ?_
      refine xr_iconst (pc := 47) X dX6_undo_47 (v := 0) (by decide) ?_
      refine xr_callSV (na := 4) (pc := 48) X [.ref (ad (oo0 + 5)), .int (187 * (σ5 oo0 7)), .ref (ad (oo0 + 2)), .int 0] (c_X6_copyState Γ.2.1 hI 2618 (oo0 + 5) hh0.2.2.2.2.2.1 (187 * (σ5 oo0 7)) 187 (oo0 + 2) hh0.2.2.1 0 σ5) (wG_S wm_18_9 wm_18_7 wm_18_8 wm_1_5) rfl rfl rfl (by decide +kernel) ⟨Nat.le_of_ble_eq_true rfl, Nat.le_of_ble_eq_true rfl⟩ rfl rfl (Nat.le_of_ble_eq_true rfl) ⟨Nat.le_of_ble_eq_true rfl, Nat.le_of_ble_eq_true rfl⟩ dX6_undo_48 (fun σ6 => ?_)
      refine xr_aload_n (pc := 51) X (i := 0) 0 rfl rfl dX6_undo_51 ?_
      refine xgX6 (pc := 52) X (oo0) hh0.1 7 wm_18_6 rfl rfl (by decide) rfl dX6_undo_52 ?_
      exact xr_iret (pc := 55) X (Nat.le_of_ble_eq_true rfl) (Nat.le_of_ble_eq_true rfl) dX6_undo_55
    refine xr_iconst (pc := 19) X dX6_undo_19 (v := 0) (by decide) ?_
    exact xr_iret (pc := 20) X (Nat.le_of_ble_eq_true rfl) (Nat.le_of_ble_eq_true rfl) dX6_undo_20
  refine xr_if_ne (pc := 5) X 12 (by decide) dX6_undo_5 (fun _ => ?_) (fun _ => ?_)
  · refine xr_iconst (pc := 12) X dX6_undo_12 (v := 0) (by decide) ?_
    exact hKK8 _ _
  refine xr_iconst (pc := 8) X dX6_undo_8 (v := 1) (by decide) ?_
  refine xr_goto (pc := 9) X 13 (by decide) dX6_undo_9 ?_
  exact hKK8 _ _
def F_X6_doneIn (oo0 : Nat) (pp1 : Int32) (σ : xS) : Option (Int32 × xS) :=
  xbI (F_X6_isWriter 187 (oo0 + 2) pp1 σ) (fun (zz2 : Int32) (σ1 : xS) => xjn (fun (zz3 : Int32) (σ4 : xS) => xbI (F_X6_refused oo0 zz3 σ4) (fun (zz6 : Int32) (σ5 : xS) => if zz6 = 0 then (xbV (F_X6_copyState 187 (oo0 + 2) 0 187 (oo0 + 3) 0 σ5) (fun (σ7 : xS) => xbI (F_X6_untilDone 187 (oo0 + 3) pp1 σ7) (fun (zz9 : Int32) (σ8 : xS) => some (zz9, σ8))))
 else (some ((0 : Int32), σ5))))
 (fun (KK10 : Int32 → xS → Option (Int32 × xS)) => if zz2 = 0 then (KK10 1 σ1)
 else (KK10 0 σ1)))
abbrev rm_X6_doneIn : Room := { frames := 8, cells := 0, slots := 0, locals := 183 }
set_option maxHeartbeats 4000000 in
set_option maxRecDepth 100000 in
theorem c_X6_doneIn (l : Launch) {D : va_G} {ad : Nat → Nat} {N : Nat} {Sh : xSh} (hI : ∀ i j, i < N → j < N → ad i = ad j → i = j) (oo0 : Nat) (hh0 : xIs6 D ad N Sh oo0) (pp1 : Int32) (σ : xS) : xKI l yX6_doneIn (Cond.code yX6_doneIn cX6_doneIn 2 (some .int) :: wG) rm_X6_doneIn 0 0 D ad N Sh [.ref (ad oo0), .int pp1] σ (F_X6_doneIn oo0 pp1 σ) := by
  refine x_startI (own := RX6) (maxL := 2) (by decide) rfl rfl (Nat.le_of_ble_eq_true rfl) rfl hI (fun Γ hl hnL X => ?_)
  subst hl
  unfold F_X6_doneIn
  refine xr_aload_n (pc := 0) X (i := 0) 0 rfl rfl dX6_doneIn_0 ?_
  refine xr_aload_n (pc := 1) X (i := 0) 0 rfl rfl dX6_doneIn_1 ?_
  refine xgX6 (pc := 2) X (oo0) hh0.1 3 wm_5_21 rfl rfl (by decide) rfl dX6_doneIn_2 ?_
  refine xr_iload_n (pc := 5) X (i := 1) 1 rfl rfl dX6_doneIn_5 ?_
  refine xr_callSI (na := 2) (pc := 6) X [.ref (ad (oo0 + 2)), .int pp1] (c_X6_isWriter Γ.2.1 hI 187 (oo0 + 2) hh0.2.2.1 pp1 σ) (wG_S wm_11_8 wm_11_6 wm_11_7 wm_1_5) rfl rfl rfl (by decide +kernel) ⟨Nat.le_of_ble_eq_true rfl, Nat.le_of_ble_eq_true rfl⟩ rfl rfl (Nat.le_of_ble_eq_true rfl) ⟨Nat.le_of_ble_eq_true rfl, Nat.le_of_ble_eq_true rfl⟩ dX6_doneIn_6 (fun zz2 σ1 => ?_)
  refine x_jn (fun (KK10 : Int32 → xS → Option (Int32 × xS)) => ∀ zz3 σ4, xM Γ D ad N Sh (xQI Γ D ad N Sh 0 0) 0 0 (KK10 zz3 σ4) σ4 17 [(0, .ref (ad oo0)), (1, .int pp1)] [.int zz3, .ref (ad oo0)]) (fun zz3 σ4 => ?_) (fun KK10 hKK11 => ?_)
  · refine xr_callVI (na := 1) (pc := 17) X (oo0) [.int zz3] _ (c_X6_refused Γ.2.1 hI oo0 hh0 zz3 σ4) (wG_V wm_8_5 wm_8_2 wm_8_3 wm_8_4 wm_1_5) rfl rfl rfl (by decide +kernel) ⟨Nat.le_of_ble_eq_true rfl, Nat.le_of_ble_eq_true rfl⟩ hh0.1.1 hh0.1.2 rfl (T := TX6) (C := RX6) rfl rfl rfl (Nat.le_of_ble_eq_true rfl) ⟨Nat.le_of_ble_eq_true rfl, Nat.le_of_ble_eq_true rfl⟩ dX6_doneIn_17 (fun zz6 σ5 => ?_)
    refine xr_if_eq (pc := 20) X 25 (by decide) dX6_doneIn_20 (fun _ => ?_) (fun _ => ?_)
    · refine xr_aload_n (pc := 25) X (i := 0) 0 rfl rfl dX6_doneIn_25 ?_
      refine xgX6 (pc := 26) X (oo0) hh0.1 3 wm_5_21 rfl rfl (by decide) rfl dX6_doneIn_26 ?_
      refine xr_iconst (pc := 29) X dX6_doneIn_29 (v := 0) (by decide) ?_
      refine xr_aload_n (pc := 30) X (i := 0) 0 rfl rfl dX6_doneIn_30 ?_
      refine xgX6 (pc := 31) X (oo0) hh0.1 4 wm_5_22 rfl rfl (by decide) rfl dX6_doneIn_31 ?_
      refine xr_iconst (pc := 34) X dX6_doneIn_34 (v := 0) (by decide) ?_
      refine xr_callSV (na := 4) (pc := 35) X [.ref (ad (oo0 + 2)), .int 0, .ref (ad (oo0 + 3)), .int 0] (c_X6_copyState Γ.2.1 hI 187 (oo0 + 2) hh0.2.2.1 0 187 (oo0 + 3) hh0.2.2.2.1 0 σ5) (wG_S wm_18_9 wm_18_7 wm_18_8 wm_1_5) rfl rfl rfl (by decide +kernel) ⟨Nat.le_of_ble_eq_true rfl, Nat.le_of_ble_eq_true rfl⟩ rfl rfl (Nat.le_of_ble_eq_true rfl) ⟨Nat.le_of_ble_eq_true rfl, Nat.le_of_ble_eq_true rfl⟩ dX6_doneIn_35 (fun σ7 => ?_)
      refine xr_aload_n (pc := 38) X (i := 0) 0 rfl rfl dX6_doneIn_38 ?_
      refine xgX6 (pc := 39) X (oo0) hh0.1 4 wm_5_22 rfl rfl (by decide) rfl dX6_doneIn_39 ?_
      refine xr_iload_n (pc := 42) X (i := 1) 1 rfl rfl dX6_doneIn_42 ?_
      refine xr_callSI (na := 2) (pc := 43) X [.ref (ad (oo0 + 3)), .int pp1] (c_X6_untilDone Γ.2.1 hI 187 (oo0 + 3) hh0.2.2.2.1 pp1 σ7) (wG_S wm_29_0 wm_28_22 wm_28_23 wm_1_5) rfl rfl rfl (by decide +kernel) ⟨Nat.le_of_ble_eq_true rfl, Nat.le_of_ble_eq_true rfl⟩ rfl rfl (Nat.le_of_ble_eq_true rfl) ⟨Nat.le_of_ble_eq_true rfl, Nat.le_of_ble_eq_true rfl⟩ dX6_doneIn_43 (fun zz9 σ8 => ?_)
      exact xr_iret (pc := 46) X (Nat.le_of_ble_eq_true rfl) (Nat.le_of_ble_eq_true rfl) dX6_doneIn_46
    refine xr_iconst (pc := 23) X dX6_doneIn_23 (v := 0) (by decide) ?_
    exact xr_iret (pc := 24) X (Nat.le_of_ble_eq_true rfl) (Nat.le_of_ble_eq_true rfl) dX6_doneIn_24
  refine xr_if_eq (pc := 9) X 16 (by decide) dX6_doneIn_9 (fun _ => ?_) (fun _ => ?_)
  · refine xr_iconst (pc := 16) X dX6_doneIn_16 (v := 1) (by decide) ?_
    exact hKK11 _ _
  refine xr_iconst (pc := 12) X dX6_doneIn_12 (v := 0) (by decide) ?_
  refine xr_goto (pc := 13) X 17 (by decide) dX6_doneIn_13 ?_
  exact hKK11 _ _
def L_X6_thereIn_86 (oo0 : Nat) (pp1 : Int32) (zz13 : Int32) (KK18 : Int32 → xS → Option (Int32 × xS)) : Nat → Int32 → xS → Option (Int32 × xS)
  | 0, _, _ => none
  | nn_22 + 1, zz20, σ21 => if 400 ≤ zz20 then (KK18 zz20 σ21)
 else (xbI (F_X6_of 187 (oo0 + 3) pp1 8 σ21) (fun (zz25 : Int32) (σ24 : xS) => if zz13 ≤ zz25 then (KK18 zz20 σ24)
 else (xbV (F_X6_tick 187 (oo0 + 3) σ24) (fun (σ26 : xS) => xlet (zz20 + 1) (fun (zz27 : Int32) => L_X6_thereIn_86 oo0 pp1 zz13 KK18 nn_22 zz27 σ26)))))
def F_X6_thereIn (oo0 : Nat) (pp1 : Int32) (pp2 : Int32) (σ : xS) : Option (Int32 × xS) :=
  xbI (F_X6_isWriter 187 (oo0 + 2) pp1 σ) (fun (zz2 : Int32) (σ1 : xS) => xjn (fun (zz3 : Int32) (σ4 : xS) => xbI (F_X6_refused oo0 zz3 σ4) (fun (zz6 : Int32) (σ5 : xS) => if zz6 = 0 then (xbI (F_X6_canWrite 187 (oo0 + 2) pp1 pp2 σ5) (fun (zz8 : Int32) (σ7 : xS) => if ¬ zz8 = 0 then (xbV (F_X6_copyState 187 (oo0 + 2) 0 187 (oo0 + 3) 0 σ7) (fun (σ9 : xS) => xbI (F_X6_writeOn 187 (oo0 + 3) pp1 pp2 σ9) (fun (zz11 : Int32) (σ10 : xS) => xbI (F_X6_of 187 (oo0 + 3) pp1 2 σ10) (fun (zz13 : Int32) (σ12 : xS) => L_X6_thereIn_86 oo0 pp1 zz13 (fun (zz14 : Int32) (σ15 : xS) => xbI (F_X6_of 187 (oo0 + 3) pp1 8 σ15) (fun (zz17 : Int32) (σ16 : xS) => if zz13 ≤ zz17 then (some (zz14, σ16))
 else (some ((-1 : Int32), σ16)))) 1000 0 σ12))))
 else (some ((-1 : Int32), σ7))))
 else (some ((0 : Int32), σ5))))
 (fun (KK29 : Int32 → xS → Option (Int32 × xS)) => if ¬ zz2 = 0 then (xbI (F_X6_isNote pp2 σ1) (fun (zz32 : Int32) (σ31 : xS) => if zz32 = 0 then (KK29 2 σ31)
 else (KK29 0 σ31)))
 else (KK29 1 σ1)))
abbrev rm_X6_thereIn : Room := { frames := 7, cells := 0, slots := 0, locals := 161 }
set_option maxHeartbeats 4000000 in
set_option maxRecDepth 100000 in
theorem c_X6_thereIn (l : Launch) {D : va_G} {ad : Nat → Nat} {N : Nat} {Sh : xSh} (hI : ∀ i j, i < N → j < N → ad i = ad j → i = j) (oo0 : Nat) (hh0 : xIs6 D ad N Sh oo0) (pp1 : Int32) (pp2 : Int32) (σ : xS) : xKI l yX6_thereIn (Cond.code yX6_thereIn cX6_thereIn 5 (some .int) :: wG) rm_X6_thereIn 0 0 D ad N Sh [.ref (ad oo0), .int pp1, .int pp2] σ (F_X6_thereIn oo0 pp1 pp2 σ) := by
  refine x_startI (own := RX6) (maxL := 5) (by decide) rfl rfl (Nat.le_of_ble_eq_true rfl) rfl hI (fun Γ hl hnL X => ?_)
  subst hl
  unfold F_X6_thereIn
  refine xr_aload_n (pc := 0) X (i := 0) 0 rfl rfl dX6_thereIn_0 ?_
  refine xr_aload_n (pc := 1) X (i := 0) 0 rfl rfl dX6_thereIn_1 ?_
  refine xgX6 (pc := 2) X (oo0) hh0.1 3 wm_5_21 rfl rfl (by decide) rfl dX6_thereIn_2 ?_
  refine xr_iload_n (pc := 5) X (i := 1) 1 rfl rfl dX6_thereIn_5 ?_
  refine xr_callSI (na := 2) (pc := 6) X [.ref (ad (oo0 + 2)), .int pp1] (c_X6_isWriter Γ.2.1 hI 187 (oo0 + 2) hh0.2.2.1 pp1 σ) (wG_S wm_11_8 wm_11_6 wm_11_7 wm_1_5) rfl rfl rfl (by decide +kernel) ⟨Nat.le_of_ble_eq_true rfl, Nat.le_of_ble_eq_true rfl⟩ rfl rfl (Nat.le_of_ble_eq_true rfl) ⟨Nat.le_of_ble_eq_true rfl, Nat.le_of_ble_eq_true rfl⟩ dX6_thereIn_6 (fun zz2 σ1 => ?_)
  refine x_jn (fun (KK29 : Int32 → xS → Option (Int32 × xS)) => ∀ zz3 σ4, xM Γ D ad N Sh (xQI Γ D ad N Sh 0 0) 0 0 (KK29 zz3 σ4) σ4 28 [(0, .ref (ad oo0)), (1, .int pp1), (2, .int pp2)] [.int zz3, .ref (ad oo0)]) (fun zz3 σ4 => ?_) (fun KK29 hKK30 => ?_)
  · refine xr_callVI (na := 1) (pc := 28) X (oo0) [.int zz3] _ (c_X6_refused Γ.2.1 hI oo0 hh0 zz3 σ4) (wG_V wm_8_5 wm_8_2 wm_8_3 wm_8_4 wm_1_5) rfl rfl rfl (by decide +kernel) ⟨Nat.le_of_ble_eq_true rfl, Nat.le_of_ble_eq_true rfl⟩ hh0.1.1 hh0.1.2 rfl (T := TX6) (C := RX6) rfl rfl rfl (Nat.le_of_ble_eq_true rfl) ⟨Nat.le_of_ble_eq_true rfl, Nat.le_of_ble_eq_true rfl⟩ dX6_thereIn_28 (fun zz6 σ5 => ?_)
    refine xr_if_eq (pc := 31) X 36 (by decide) dX6_thereIn_31 (fun _ => ?_) (fun _ => ?_)
    · refine xr_aload_n (pc := 36) X (i := 0) 0 rfl rfl dX6_thereIn_36 ?_
      refine xgX6 (pc := 37) X (oo0) hh0.1 3 wm_5_21 rfl rfl (by decide) rfl dX6_thereIn_37 ?_
      refine xr_iload_n (pc := 40) X (i := 1) 1 rfl rfl dX6_thereIn_40 ?_
      refine xr_iload_n (pc := 41) X (i := 2) 2 rfl rfl dX6_thereIn_41 ?_
      refine xr_callSI (na := 3) (pc := 42) X [.ref (ad (oo0 + 2)), .int pp1, .int pp2] (c_X6_canWrite Γ.2.1 hI 187 (oo0 + 2) hh0.2.2.1 pp1 pp2 σ5) (wG_S wm_11_11 wm_11_9 wm_11_10 wm_1_5) rfl rfl rfl (by decide +kernel) ⟨Nat.le_of_ble_eq_true rfl, Nat.le_of_ble_eq_true rfl⟩ rfl rfl (Nat.le_of_ble_eq_true rfl) ⟨Nat.le_of_ble_eq_true rfl, Nat.le_of_ble_eq_true rfl⟩ dX6_thereIn_42 (fun zz8 σ7 => ?_)
      refine xr_if_ne (pc := 45) X 50 (by decide) dX6_thereIn_45 (fun _ => ?_) (fun _ => ?_)
      · refine xr_aload_n (pc := 50) X (i := 0) 0 rfl rfl dX6_thereIn_50 ?_
        refine xgX6 (pc := 51) X (oo0) hh0.1 3 wm_5_21 rfl rfl (by decide) rfl dX6_thereIn_51 ?_
        refine xr_iconst (pc := 54) X dX6_thereIn_54 (v := 0) (by decide) ?_
        refine xr_aload_n (pc := 55) X (i := 0) 0 rfl rfl dX6_thereIn_55 ?_
        refine xgX6 (pc := 56) X (oo0) hh0.1 4 wm_5_22 rfl rfl (by decide) rfl dX6_thereIn_56 ?_
        refine xr_iconst (pc := 59) X dX6_thereIn_59 (v := 0) (by decide) ?_
        refine xr_callSV (na := 4) (pc := 60) X [.ref (ad (oo0 + 2)), .int 0, .ref (ad (oo0 + 3)), .int 0] (c_X6_copyState Γ.2.1 hI 187 (oo0 + 2) hh0.2.2.1 0 187 (oo0 + 3) hh0.2.2.2.1 0 σ7) (wG_S wm_18_9 wm_18_7 wm_18_8 wm_1_5) rfl rfl rfl (by decide +kernel) ⟨Nat.le_of_ble_eq_true rfl, Nat.le_of_ble_eq_true rfl⟩ rfl rfl (Nat.le_of_ble_eq_true rfl) ⟨Nat.le_of_ble_eq_true rfl, Nat.le_of_ble_eq_true rfl⟩ dX6_thereIn_60 (fun σ9 => ?_)
        refine xr_aload_n (pc := 63) X (i := 0) 0 rfl rfl dX6_thereIn_63 ?_
        refine xgX6 (pc := 64) X (oo0) hh0.1 4 wm_5_22 rfl rfl (by decide) rfl dX6_thereIn_64 ?_
        refine xr_iload_n (pc := 67) X (i := 1) 1 rfl rfl dX6_thereIn_67 ?_
        refine xr_iload_n (pc := 68) X (i := 2) 2 rfl rfl dX6_thereIn_68 ?_
        refine xr_callSI (na := 3) (pc := 69) X [.ref (ad (oo0 + 3)), .int pp1, .int pp2] (c_X6_writeOn Γ.2.1 hI 187 (oo0 + 3) hh0.2.2.2.1 pp1 pp2 σ9) (wG_S wm_11_17 wm_11_15 wm_11_16 wm_1_5) rfl rfl rfl (by decide +kernel) ⟨Nat.le_of_ble_eq_true rfl, Nat.le_of_ble_eq_true rfl⟩ rfl rfl (Nat.le_of_ble_eq_true rfl) ⟨Nat.le_of_ble_eq_true rfl, Nat.le_of_ble_eq_true rfl⟩ dX6_thereIn_69 (fun zz11 σ10 => ?_)
        refine xr_pop (pc := 72) X rfl dX6_thereIn_72 ?_
        refine xr_aload_n (pc := 73) X (i := 0) 0 rfl rfl dX6_thereIn_73 ?_
        refine xgX6 (pc := 74) X (oo0) hh0.1 4 wm_5_22 rfl rfl (by decide) rfl dX6_thereIn_74 ?_
        refine xr_iload_n (pc := 77) X (i := 1) 1 rfl rfl dX6_thereIn_77 ?_
        refine xr_iconst (pc := 78) X dX6_thereIn_78 (v := 2) (by decide) ?_
        refine xr_callSI (na := 3) (pc := 79) X [.ref (ad (oo0 + 3)), .int pp1, .int 2] (c_X6_of Γ.2.1 hI 187 (oo0 + 3) hh0.2.2.2.1 pp1 2 σ10) (wG_S wm_11_14 wm_11_12 wm_11_13 wm_1_5) rfl rfl rfl (by decide +kernel) ⟨Nat.le_of_ble_eq_true rfl, Nat.le_of_ble_eq_true rfl⟩ rfl rfl (Nat.le_of_ble_eq_true rfl) ⟨Nat.le_of_ble_eq_true rfl, Nat.le_of_ble_eq_true rfl⟩ dX6_thereIn_79 (fun zz13 σ12 => ?_)
        refine xr_istore_n (pc := 82) X (hf := rfl) (i := 3) [1, 2, 0] (Nat.le_of_ble_eq_true rfl) hnL rfl dX6_thereIn_82 ?_
        refine xr_iconst (pc := 83) X dX6_thereIn_83 (v := 0) (by decide) ?_
        refine xr_istore (pc := 84) X (i := 4) [1, 2, 3, 0] (Nat.le_of_ble_eq_true rfl) hnL rfl dX6_thereIn_84 ?_
        have hLL28 : ∀ (KK18 : Int32 → xS → Option (Int32 × xS)) (hKK19 : ∀ zz14 σ15, xM Γ D ad N Sh (xQI Γ D ad N Sh 0 0) 0 0 (KK18 zz14 σ15) σ15 121 [(0, .ref (ad oo0)), (1, .int pp1), (3, .int zz13), (4, .int zz14)] []), ∀ (nn_22 : Nat) zz20 σ21, xM Γ D ad N Sh (xQI Γ D ad N Sh 0 0) 0 0 (L_X6_thereIn_86 oo0 pp1 zz13 KK18 nn_22 zz20 σ21) σ21 86 [(0, .ref (ad oo0)), (1, .int pp1), (3, .int zz13), (4, .int zz20)] [] := by
          intro KK18 hKK19 nn_22
          induction nn_22 with
          | zero => intro zz20 σ21; exact xM_none
          | succ nn_22 ihh23 =>
            intro zz20 σ21
            rw [L_X6_thereIn_86]
            refine xr_iload (pc := 86) X (i := 4) 3 rfl dX6_thereIn_86 ?_
            refine xr_sipush (pc := 88) X dX6_thereIn_88 (v := 400) (by decide) ?_
            refine xr_icmp_ge (pc := 91) X 121 (by decide) dX6_thereIn_91 (fun _ => ?_) (fun _ => ?_)
            · exact hKK19 _ _
            refine xr_aload_n (pc := 94) X (i := 0) 0 rfl rfl dX6_thereIn_94 ?_
            refine xgX6 (pc := 95) X (oo0) hh0.1 4 wm_5_22 rfl rfl (by decide) rfl dX6_thereIn_95 ?_
            refine xr_iload_n (pc := 98) X (i := 1) 1 rfl rfl dX6_thereIn_98 ?_
            refine xr_bipush (pc := 99) X dX6_thereIn_99 (v := 8) (by decide) ?_
            refine xr_callSI (na := 3) (pc := 101) X [.ref (ad (oo0 + 3)), .int pp1, .int 8] (c_X6_of Γ.2.1 hI 187 (oo0 + 3) hh0.2.2.2.1 pp1 8 σ21) (wG_S wm_11_14 wm_11_12 wm_11_13 wm_1_5) rfl rfl rfl (by decide +kernel) ⟨Nat.le_of_ble_eq_true rfl, Nat.le_of_ble_eq_true rfl⟩ rfl rfl (Nat.le_of_ble_eq_true rfl) ⟨Nat.le_of_ble_eq_true rfl, Nat.le_of_ble_eq_true rfl⟩ dX6_thereIn_101 (fun zz25 σ24 => ?_)
            refine xr_iload_n (pc := 104) X (i := 3) 2 rfl rfl dX6_thereIn_104 ?_
            refine xr_icmp_ge (pc := 105) X 121 (by decide) dX6_thereIn_105 (fun _ => ?_) (fun _ => ?_)
            · exact hKK19 _ _
            refine xr_aload_n (pc := 108) X (i := 0) 0 rfl rfl dX6_thereIn_108 ?_
            refine xgX6 (pc := 109) X (oo0) hh0.1 4 wm_5_22 rfl rfl (by decide) rfl dX6_thereIn_109 ?_
            refine xr_callSV (na := 1) (pc := 112) X [.ref (ad (oo0 + 3))] (c_X6_tick Γ.2.1 hI 187 (oo0 + 3) hh0.2.2.2.1 σ24) (wG_S wm_12_21 wm_12_19 wm_12_20 wm_1_5) rfl rfl rfl (by decide +kernel) ⟨Nat.le_of_ble_eq_true rfl, Nat.le_of_ble_eq_true rfl⟩ rfl rfl (Nat.le_of_ble_eq_true rfl) ⟨Nat.le_of_ble_eq_true rfl, Nat.le_of_ble_eq_true rfl⟩ dX6_thereIn_112 (fun σ26 => ?_)
            refine xr_iinc (pc := 115) X (i := 4) (j := 3) [1, 2, 3, 0] (Nat.le_of_ble_eq_true rfl) hnL rfl rfl (fun zz27 => [(0, .ref (ad oo0)), (1, .int pp1), (3, .int zz13), (4, .int zz27)]) (fun _ => rfl) dX6_thereIn_115 (fun zz27 => ?_)
            refine xr_goto (pc := 118) X 86 (by decide) dX6_thereIn_118 ?_
            exact ihh23 _ _
        refine hLL28 _ (fun zz14 σ15 => ?_) _ _ _
        refine xr_aload_n (pc := 121) X (i := 0) 0 rfl rfl dX6_thereIn_121 ?_
        refine xgX6 (pc := 122) X (oo0) hh0.1 4 wm_5_22 rfl rfl (by decide) rfl dX6_thereIn_122 ?_
        refine xr_iload_n (pc := 125) X (i := 1) 1 rfl rfl dX6_thereIn_125 ?_
        refine xr_bipush (pc := 126) X dX6_thereIn_126 (v := 8) (by decide) ?_
        refine xr_callSI (na := 3) (pc := 128) X [.ref (ad (oo0 + 3)), .int pp1, .int 8] (c_X6_of Γ.2.1 hI 187 (oo0 + 3) hh0.2.2.2.1 pp1 8 σ15) (wG_S wm_11_14 wm_11_12 wm_11_13 wm_1_5) rfl rfl rfl (by decide +kernel) ⟨Nat.le_of_ble_eq_true rfl, Nat.le_of_ble_eq_true rfl⟩ rfl rfl (Nat.le_of_ble_eq_true rfl) ⟨Nat.le_of_ble_eq_true rfl, Nat.le_of_ble_eq_true rfl⟩ dX6_thereIn_128 (fun zz17 σ16 => ?_)
        refine xr_iload_n (pc := 131) X (i := 3) 2 rfl rfl dX6_thereIn_131 ?_
        refine xr_icmp_ge (pc := 132) X 139 (by decide) dX6_thereIn_132 (fun _ => ?_) (fun _ => ?_)
        · refine xr_iload (pc := 139) X (i := 4) 3 rfl dX6_thereIn_139 ?_
          exact xr_iret (pc := 141) X (Nat.le_of_ble_eq_true rfl) (Nat.le_of_ble_eq_true rfl) dX6_thereIn_141
        refine xr_iconst (pc := 135) X dX6_thereIn_135 (v := (-1)) (by decide) ?_
        refine xr_goto (pc := 136) X 141 (by decide) dX6_thereIn_136 ?_
        exact xr_iret (pc := 141) X (Nat.le_of_ble_eq_true rfl) (Nat.le_of_ble_eq_true rfl) dX6_thereIn_141
      refine xr_iconst (pc := 48) X dX6_thereIn_48 (v := (-1)) (by decide) ?_
      exact xr_iret (pc := 49) X (Nat.le_of_ble_eq_true rfl) (Nat.le_of_ble_eq_true rfl) dX6_thereIn_49
    refine xr_iconst (pc := 34) X dX6_thereIn_34 (v := 0) (by decide) ?_
    exact xr_iret (pc := 35) X (Nat.le_of_ble_eq_true rfl) (Nat.le_of_ble_eq_true rfl) dX6_thereIn_35
  refine xr_if_ne (pc := 9) X 16 (by decide) dX6_thereIn_9 (fun _ => ?_) (fun _ => ?_)
  · refine xr_iload_n (pc := 16) X (i := 2) 2 rfl rfl dX6_thereIn_16 ?_
    refine xr_callSI (na := 1) (pc := 17) X [.int pp2] (c_X6_isNote Γ.2.1 hI pp2 σ1) (wG_S wm_24_15 wm_24_13 wm_24_14 wm_1_5) rfl rfl rfl (by decide +kernel) ⟨Nat.le_of_ble_eq_true rfl, Nat.le_of_ble_eq_true rfl⟩ rfl rfl (Nat.le_of_ble_eq_true rfl) ⟨Nat.le_of_ble_eq_true rfl, Nat.le_of_ble_eq_true rfl⟩ dX6_thereIn_17 (fun zz32 σ31 => ?_)
    refine xr_if_eq (pc := 20) X 27 (by decide) dX6_thereIn_20 (fun _ => ?_) (fun _ => ?_)
    · refine xr_iconst (pc := 27) X dX6_thereIn_27 (v := 2) (by decide) ?_
      exact hKK30 _ _
    refine xr_iconst (pc := 23) X dX6_thereIn_23 (v := 0) (by decide) ?_
    refine xr_goto (pc := 24) X 28 (by decide) dX6_thereIn_24 ?_
    exact hKK30 _ _
  refine xr_iconst (pc := 12) X dX6_thereIn_12 (v := 1) (by decide) ?_
  refine xr_goto (pc := 13) X 28 (by decide) dX6_thereIn_13 ?_
  exact hKK30 _ _
def F_X6_ifHeld (oo0 : Nat) (pp1 : Int32) (pp2 : Int32) (σ : xS) : Option (Int32 × xS) :=
  xbI (F_X6_isWriter 187 (oo0 + 2) pp1 σ) (fun (zz2 : Int32) (σ1 : xS) => xjn (fun (zz3 : Int32) (σ4 : xS) => xbI (F_X6_refused oo0 zz3 σ4) (fun (zz6 : Int32) (σ5 : xS) => if zz6 = 0 then (xbV (F_X6_copyState 187 (oo0 + 2) 0 187 (oo0 + 3) 0 σ5) (fun (σ7 : xS) => xjn (fun (zz8 : Int32) (σ9 : xS) => xbI (F_X6_holdOn 187 (oo0 + 3) pp1 zz8 σ9) (fun (zz11 : Int32) (σ10 : xS) => if 2 ≤ pp2 then (xbI (F_X6_ticksOn 187 (oo0 + 3) 400 σ10) (fun (zz13 : Int32) (σ12 : xS) => xbI (F_X6_of 187 (oo0 + 3) pp1 3 σ12) (fun (zz15 : Int32) (σ14 : xS) => xbI (F_X6_of 187 (oo0 + 2) pp1 3 σ14) (fun (zz17 : Int32) (σ16 : xS) => some ((zz15 - zz17), σ16)))))
 else (xbI (F_X6_untilDone 187 (oo0 + 3) pp1 σ10) (fun (zz19 : Int32) (σ18 : xS) => some (zz19, σ18)))))
 (fun (KK20 : Int32 → xS → Option (Int32 × xS)) => if ¬ (pp2 - pp2 / 2 * 2) = 0 then (KK20 0 σ7)
 else (KK20 1 σ7))))
 else (some ((0 : Int32), σ5))))
 (fun (KK22 : Int32 → xS → Option (Int32 × xS)) => if ¬ zz2 = 0 then (xbI (F_X6_in pp2.toInt64 0 3 σ1) (fun (zz25 : Int32) (σ24 : xS) => if zz25 = 0 then (KK22 2 σ24)
 else (KK22 0 σ24)))
 else (KK22 1 σ1)))
abbrev rm_X6_ifHeld : Room := { frames := 8, cells := 0, slots := 0, locals := 184 }
set_option maxHeartbeats 4000000 in
set_option maxRecDepth 100000 in
theorem c_X6_ifHeld (l : Launch) {D : va_G} {ad : Nat → Nat} {N : Nat} {Sh : xSh} (hI : ∀ i j, i < N → j < N → ad i = ad j → i = j) (oo0 : Nat) (hh0 : xIs6 D ad N Sh oo0) (pp1 : Int32) (pp2 : Int32) (σ : xS) : xKI l yX6_ifHeld (Cond.code yX6_ifHeld cX6_ifHeld 3 (some .int) :: wG) rm_X6_ifHeld 0 0 D ad N Sh [.ref (ad oo0), .int pp1, .int pp2] σ (F_X6_ifHeld oo0 pp1 pp2 σ) := by
  refine x_startI (own := RX6) (maxL := 3) (by decide) rfl rfl (Nat.le_of_ble_eq_true rfl) rfl hI (fun Γ hl hnL X => ?_)
  subst hl
  unfold F_X6_ifHeld
  refine xr_aload_n (pc := 0) X (i := 0) 0 rfl rfl dX6_ifHeld_0 ?_
  refine xr_aload_n (pc := 1) X (i := 0) 0 rfl rfl dX6_ifHeld_1 ?_
  refine xgX6 (pc := 2) X (oo0) hh0.1 3 wm_5_21 rfl rfl (by decide) rfl dX6_ifHeld_2 ?_
  refine xr_iload_n (pc := 5) X (i := 1) 1 rfl rfl dX6_ifHeld_5 ?_
  refine xr_callSI (na := 2) (pc := 6) X [.ref (ad (oo0 + 2)), .int pp1] (c_X6_isWriter Γ.2.1 hI 187 (oo0 + 2) hh0.2.2.1 pp1 σ) (wG_S wm_11_8 wm_11_6 wm_11_7 wm_1_5) rfl rfl rfl (by decide +kernel) ⟨Nat.le_of_ble_eq_true rfl, Nat.le_of_ble_eq_true rfl⟩ rfl rfl (Nat.le_of_ble_eq_true rfl) ⟨Nat.le_of_ble_eq_true rfl, Nat.le_of_ble_eq_true rfl⟩ dX6_ifHeld_6 (fun zz2 σ1 => ?_)
  refine x_jn (fun (KK22 : Int32 → xS → Option (Int32 × xS)) => ∀ zz3 σ4, xM Γ D ad N Sh (xQI Γ D ad N Sh 0 0) 0 0 (KK22 zz3 σ4) σ4 33 [(0, .ref (ad oo0)), (1, .int pp1), (2, .int pp2)] [.int zz3, .ref (ad oo0)]) (fun zz3 σ4 => ?_) (fun KK22 hKK23 => ?_)
  · refine xr_callVI (na := 1) (pc := 33) X (oo0) [.int zz3] _ (c_X6_refused Γ.2.1 hI oo0 hh0 zz3 σ4) (wG_V wm_8_5 wm_8_2 wm_8_3 wm_8_4 wm_1_5) rfl rfl rfl (by decide +kernel) ⟨Nat.le_of_ble_eq_true rfl, Nat.le_of_ble_eq_true rfl⟩ hh0.1.1 hh0.1.2 rfl (T := TX6) (C := RX6) rfl rfl rfl (Nat.le_of_ble_eq_true rfl) ⟨Nat.le_of_ble_eq_true rfl, Nat.le_of_ble_eq_true rfl⟩ dX6_ifHeld_33 (fun zz6 σ5 => ?_)
    refine xr_if_eq (pc := 36) X 41 (by decide) dX6_ifHeld_36 (fun _ => ?_) (fun _ => ?_)
    · refine xr_aload_n (pc := 41) X (i := 0) 0 rfl rfl dX6_ifHeld_41 ?_
      refine xgX6 (pc := 42) X (oo0) hh0.1 3 wm_5_21 rfl rfl (by decide) rfl dX6_ifHeld_42 ?_
      refine xr_iconst (pc := 45) X dX6_ifHeld_45 (v := 0) (by decide) ?_
      refine xr_aload_n (pc := 46) X (i := 0) 0 rfl rfl dX6_ifHeld_46 ?_
      refine xgX6 (pc := 47) X (oo0) hh0.1 4 wm_5_22 rfl rfl (by decide) rfl dX6_ifHeld_47 ?_
      refine xr_iconst (pc := 50) X dX6_ifHeld_50 (v := 0) (by decide) ?_
      refine xr_callSV (na := 4) (pc := 51) X [.ref (ad (oo0 + 2)), .int 0, .ref (ad (oo0 + 3)), .int 0] (c_X6_copyState Γ.2.1 hI 187 (oo0 + 2) hh0.2.2.1 0 187 (oo0 + 3) hh0.2.2.2.1 0 σ5) (wG_S wm_18_9 wm_18_7 wm_18_8 wm_1_5) rfl rfl rfl (by decide +kernel) ⟨Nat.le_of_ble_eq_true rfl, Nat.le_of_ble_eq_true rfl⟩ rfl rfl (Nat.le_of_ble_eq_true rfl) ⟨Nat.le_of_ble_eq_true rfl, Nat.le_of_ble_eq_true rfl⟩ dX6_ifHeld_51 (fun σ7 => ?_)
      refine xr_aload_n (pc := 54) X (i := 0) 0 rfl rfl dX6_ifHeld_54 ?_
      refine xgX6 (pc := 55) X (oo0) hh0.1 4 wm_5_22 rfl rfl (by decide) rfl dX6_ifHeld_55 ?_
      refine xr_iload_n (pc := 58) X (i := 1) 1 rfl rfl dX6_ifHeld_58 ?_
      refine xr_iload_n (pc := 59) X (i := 2) 2 rfl rfl dX6_ifHeld_59 ?_
      refine xr_iconst (pc := 60) X dX6_ifHeld_60 (v := 2) (by decide) ?_
      refine xr_irem (pc := 61) X (by decide) dX6_ifHeld_61 ?_
      refine x_jn (fun (KK20 : Int32 → xS → Option (Int32 × xS)) => ∀ zz8 σ9, xM Γ D ad N Sh (xQI Γ D ad N Sh 0 0) 0 0 (KK20 zz8 σ9) σ9 70 [(0, .ref (ad oo0)), (1, .int pp1), (2, .int pp2)] [.int zz8, .int pp1, .ref (ad (oo0 + 3))]) (fun zz8 σ9 => ?_) (fun KK20 hKK21 => ?_)
      · refine xr_callSI (na := 3) (pc := 70) X [.ref (ad (oo0 + 3)), .int pp1, .int zz8] (c_X6_holdOn Γ.2.1 hI 187 (oo0 + 3) hh0.2.2.2.1 pp1 zz8 σ9) (wG_S wm_12_12 wm_12_10 wm_12_11 wm_1_5) rfl rfl rfl (by decide +kernel) ⟨Nat.le_of_ble_eq_true rfl, Nat.le_of_ble_eq_true rfl⟩ rfl rfl (Nat.le_of_ble_eq_true rfl) ⟨Nat.le_of_ble_eq_true rfl, Nat.le_of_ble_eq_true rfl⟩ dX6_ifHeld_70 (fun zz11 σ10 => ?_)
        refine xr_pop (pc := 73) X rfl dX6_ifHeld_73 ?_
        refine xr_iload_n (pc := 74) X (i := 2) 2 rfl rfl dX6_ifHeld_74 ?_
        refine xr_iconst (pc := 75) X dX6_ifHeld_75 (v := 2) (by decide) ?_
        refine xr_icmp_ge (pc := 76) X 88 (by decide) dX6_ifHeld_76 (fun _ => ?_) (fun _ => ?_)
        · refine xr_aload_n (pc := 88) X (i := 0) 0 rfl rfl dX6_ifHeld_88 ?_
          refine xgX6 (pc := 89) X (oo0) hh0.1 4 wm_5_22 rfl rfl (by decide) rfl dX6_ifHeld_89 ?_
          refine xr_sipush (pc := 92) X dX6_ifHeld_92 (v := 400) (by decide) ?_
          refine xr_callSI (na := 2) (pc := 95) X [.ref (ad (oo0 + 3)), .int 400] (c_X6_ticksOn Γ.2.1 hI 187 (oo0 + 3) hh0.2.2.2.1 400 σ10) (wG_S wm_12_15 wm_12_13 wm_12_14 wm_1_5) rfl rfl rfl (by decide +kernel) ⟨Nat.le_of_ble_eq_true rfl, Nat.le_of_ble_eq_true rfl⟩ rfl rfl (Nat.le_of_ble_eq_true rfl) ⟨Nat.le_of_ble_eq_true rfl, Nat.le_of_ble_eq_true rfl⟩ dX6_ifHeld_95 (fun zz13 σ12 => ?_)
          refine xr_pop (pc := 98) X rfl dX6_ifHeld_98 ?_
          refine xr_aload_n (pc := 99) X (i := 0) 0 rfl rfl dX6_ifHeld_99 ?_
          refine xgX6 (pc := 100) X (oo0) hh0.1 4 wm_5_22 rfl rfl (by decide) rfl dX6_ifHeld_100 ?_
          refine xr_iload_n (pc := 103) X (i := 1) 1 rfl rfl dX6_ifHeld_103 ?_
          refine xr_iconst (pc := 104) X dX6_ifHeld_104 (v := 3) (by decide) ?_
          refine xr_callSI (na := 3) (pc := 105) X [.ref (ad (oo0 + 3)), .int pp1, .int 3] (c_X6_of Γ.2.1 hI 187 (oo0 + 3) hh0.2.2.2.1 pp1 3 σ12) (wG_S wm_11_14 wm_11_12 wm_11_13 wm_1_5) rfl rfl rfl (by decide +kernel) ⟨Nat.le_of_ble_eq_true rfl, Nat.le_of_ble_eq_true rfl⟩ rfl rfl (Nat.le_of_ble_eq_true rfl) ⟨Nat.le_of_ble_eq_true rfl, Nat.le_of_ble_eq_true rfl⟩ dX6_ifHeld_105 (fun zz15 σ14 => ?_)
          refine xr_aload_n (pc := 108) X (i := 0) 0 rfl rfl dX6_ifHeld_108 ?_
          refine xgX6 (pc := 109) X (oo0) hh0.1 3 wm_5_21 rfl rfl (by decide) rfl dX6_ifHeld_109 ?_
          refine xr_iload_n (pc := 112) X (i := 1) 1 rfl rfl dX6_ifHeld_112 ?_
          refine xr_iconst (pc := 113) X dX6_ifHeld_113 (v := 3) (by decide) ?_
          refine xr_callSI (na := 3) (pc := 114) X [.ref (ad (oo0 + 2)), .int pp1, .int 3] (c_X6_of Γ.2.1 hI 187 (oo0 + 2) hh0.2.2.1 pp1 3 σ14) (wG_S wm_11_14 wm_11_12 wm_11_13 wm_1_5) rfl rfl rfl (by decide +kernel) ⟨Nat.le_of_ble_eq_true rfl, Nat.le_of_ble_eq_true rfl⟩ rfl rfl (Nat.le_of_ble_eq_true rfl) ⟨Nat.le_of_ble_eq_true rfl, Nat.le_of_ble_eq_true rfl⟩ dX6_ifHeld_114 (fun zz17 σ16 => ?_)
          refine xr_isub (pc := 117) X dX6_ifHeld_117 ?_
          exact xr_iret (pc := 118) X (Nat.le_of_ble_eq_true rfl) (Nat.le_of_ble_eq_true rfl) dX6_ifHeld_118
        refine xr_aload_n (pc := 79) X (i := 0) 0 rfl rfl dX6_ifHeld_79 ?_
        refine xgX6 (pc := 80) X (oo0) hh0.1 4 wm_5_22 rfl rfl (by decide) rfl dX6_ifHeld_80 ?_
        refine xr_iload_n (pc := 83) X (i := 1) 1 rfl rfl dX6_ifHeld_83 ?_
        refine xr_callSI (na := 2) (pc := 84) X [.ref (ad (oo0 + 3)), .int pp1] (c_X6_untilDone Γ.2.1 hI 187 (oo0 + 3) hh0.2.2.2.1 pp1 σ10) (wG_S wm_29_0 wm_28_22 wm_28_23 wm_1_5) rfl rfl rfl (by decide +kernel) ⟨Nat.le_of_ble_eq_true rfl, Nat.le_of_ble_eq_true rfl⟩ rfl rfl (Nat.le_of_ble_eq_true rfl) ⟨Nat.le_of_ble_eq_true rfl, Nat.le_of_ble_eq_true rfl⟩ dX6_ifHeld_84 (fun zz19 σ18 => ?_)
        exact xr_iret (pc := 87) X (Nat.le_of_ble_eq_true rfl) (Nat.le_of_ble_eq_true rfl) dX6_ifHeld_87
      refine xr_if_ne (pc := 62) X 69 (by decide) dX6_ifHeld_62 (fun _ => ?_) (fun _ => ?_)
      · refine xr_iconst (pc := 69) X dX6_ifHeld_69 (v := 0) (by decide) ?_
        exact hKK21 _ _
      refine xr_iconst (pc := 65) X dX6_ifHeld_65 (v := 1) (by decide) ?_
      refine xr_goto (pc := 66) X 70 (by decide) dX6_ifHeld_66 ?_
      exact hKK21 _ _
    refine xr_iconst (pc := 39) X dX6_ifHeld_39 (v := 0) (by decide) ?_
    exact xr_iret (pc := 40) X (Nat.le_of_ble_eq_true rfl) (Nat.le_of_ble_eq_true rfl) dX6_ifHeld_40
  refine xr_if_ne (pc := 9) X 16 (by decide) dX6_ifHeld_9 (fun _ => ?_) (fun _ => ?_)
  · refine xr_iload_n (pc := 16) X (i := 2) 2 rfl rfl dX6_ifHeld_16 ?_
    refine xr_i2l (pc := 17) X dX6_ifHeld_17 ?_
    refine xr_lconst (pc := 18) X dX6_ifHeld_18 (v := 0) rfl ?_
    refine xr_ldc2 (pc := 19) X dX6_ifHeld_19 (List.mem_cons_of_mem _ wm_22_7) ?_
    refine xr_callSI (na := 3) (pc := 22) X [.long pp2.toInt64, .long 0, .long 3] (c_X6_in Γ.2.1 hI pp2.toInt64 0 3 σ1) (wG_S wm_8_1 wm_7_23 wm_8_0 wm_1_5) rfl rfl rfl (by decide +kernel) ⟨Nat.le_of_ble_eq_true rfl, Nat.le_of_ble_eq_true rfl⟩ rfl rfl (Nat.le_of_ble_eq_true rfl) ⟨Nat.le_of_ble_eq_true rfl, Nat.le_of_ble_eq_true rfl⟩ dX6_ifHeld_22 (fun zz25 σ24 => ?_)
    refine xr_if_eq (pc := 25) X 32 (by decide) dX6_ifHeld_25 (fun _ => ?_) (fun _ => ?_)
    · refine xr_iconst (pc := 32) X dX6_ifHeld_32 (v := 2) (by decide) ?_
      exact hKK23 _ _
    refine xr_iconst (pc := 28) X dX6_ifHeld_28 (v := 0) (by decide) ?_
    refine xr_goto (pc := 29) X 33 (by decide) dX6_ifHeld_29 ?_
    exact hKK23 _ _
  refine xr_iconst (pc := 12) X dX6_ifHeld_12 (v := 1) (by decide) ?_
  refine xr_goto (pc := 13) X 33 (by decide) dX6_ifHeld_13 ?_
  exact hKK23 _ _
def L_X6_best_49 (oo0 : Nat) (pp1 : Int32) (pp2 : Int32) (KK9 : Int32 → xS → Option (Int32 × xS)) : Nat → Int32 → Int32 → Int32 → xS → Option (Int32 × xS)
  | 0, _, _, _, _ => none
  | nn_15 + 1, zz11, zz12, zz13, σ14 => if 99 < zz13 then (KK9 zz11 σ14)
 else (xbI (F_X6_isSetting pp1 zz13 σ14) (fun (zz18 : Int32) (σ17 : xS) => if zz18 = 0 then (xlet (zz13 + 1) (fun (zz19 : Int32) => L_X6_best_49 oo0 pp1 pp2 KK9 nn_15 zz11 zz12 zz19 σ17))
 else (xbV (F_X6_copyState 187 (oo0 + 2) 0 187 (oo0 + 3) 0 σ17) (fun (σ20 : xS) => if xin (3 + pp1) 187 = true then (xlet (xu σ20 (oo0 + 3) (3 + pp1).toNatClampNeg zz13) (fun (σ21 : xS) => xbI (F_X6_untilDone 187 (oo0 + 3) pp2 σ21) (fun (zz23 : Int32) (σ22 : xS) => xjn (fun (zz24 : Int32) (σ25 : xS) => xjn (fun (zz26 : Int32) (σ27 : xS) => if zz24 = 0 then (xlet (zz13 + 1) (fun (zz28 : Int32) => L_X6_best_49 oo0 pp1 pp2 KK9 nn_15 zz26 zz12 zz28 σ27))
 else (xlet (zz13 + 1) (fun (zz29 : Int32) => L_X6_best_49 oo0 pp1 pp2 KK9 nn_15 zz26 zz23 zz29 σ27)))
 (fun (KK30 : Int32 → xS → Option (Int32 × xS)) => if zz24 = 0 then (KK30 zz11 σ25)
 else (KK30 zz13 σ25)))
 (fun (KK32 : Int32 → xS → Option (Int32 × xS)) => xjn (fun (σ34 : xS) => KK32 0 σ34)
 (fun (KK35 : xS → Option (Int32 × xS)) => if zz23 = ((-1)) then (KK35 σ22)
 else (xjn (fun (σ37 : xS) => KK32 1 σ37)
 (fun (KK38 : xS → Option (Int32 × xS)) => if zz11 = ((-1)) then (KK38 σ22)
 else (if zz12 ≤ zz23 then (KK35 σ22)
 else (KK38 σ22))))))))) else none))))
def F_X6_best (oo0 : Nat) (pp1 : Int32) (pp2 : Int32) (σ : xS) : Option (Int32 × xS) :=
  xbI (F_X6_isWriter 187 (oo0 + 2) pp2 σ) (fun (zz2 : Int32) (σ1 : xS) => xjn (fun (zz3 : Int32) (σ4 : xS) => xbI (F_X6_refused oo0 zz3 σ4) (fun (zz6 : Int32) (σ5 : xS) => if zz6 = 0 then (L_X6_best_49 oo0 pp1 pp2 (fun (zz7 : Int32) (σ8 : xS) => some (zz7, σ8)) 1000 ((-1)) 0 0 σ5)
 else (some ((0 : Int32), σ5))))
 (fun (KK41 : Int32 → xS → Option (Int32 × xS)) => if ¬ zz2 = 0 then (xbI (F_X6_in pp1.toInt64 1 2 σ1) (fun (zz44 : Int32) (σ43 : xS) => if zz44 = 0 then (KK41 2 σ43)
 else (KK41 0 σ43)))
 else (KK41 1 σ1)))
abbrev rm_X6_best : Room := { frames := 8, cells := 0, slots := 0, locals := 183 }
set_option maxHeartbeats 4000000 in
set_option maxRecDepth 100000 in
theorem c_X6_best (l : Launch) {D : va_G} {ad : Nat → Nat} {N : Nat} {Sh : xSh} (hI : ∀ i j, i < N → j < N → ad i = ad j → i = j) (oo0 : Nat) (hh0 : xIs6 D ad N Sh oo0) (pp1 : Int32) (pp2 : Int32) (σ : xS) : xKI l yX6_best (Cond.code yX6_best cX6_best 8 (some .int) :: wG) rm_X6_best 0 0 D ad N Sh [.ref (ad oo0), .int pp1, .int pp2] σ (F_X6_best oo0 pp1 pp2 σ) := by
  refine x_startI (own := RX6) (maxL := 8) (by decide) rfl rfl (Nat.le_of_ble_eq_true rfl) rfl hI (fun Γ hl hnL X => ?_)
  subst hl
  unfold F_X6_best
  refine xr_aload_n (pc := 0) X (i := 0) 0 rfl rfl dX6_best_0 ?_
  refine xr_aload_n (pc := 1) X (i := 0) 0 rfl rfl dX6_best_1 ?_
  refine xgX6 (pc := 2) X (oo0) hh0.1 3 wm_5_21 rfl rfl (by decide) rfl dX6_best_2 ?_
  refine xr_iload_n (pc := 5) X (i := 2) 2 rfl rfl dX6_best_5 ?_
  refine xr_callSI (na := 2) (pc := 6) X [.ref (ad (oo0 + 2)), .int pp2] (c_X6_isWriter Γ.2.1 hI 187 (oo0 + 2) hh0.2.2.1 pp2 σ) (wG_S wm_11_8 wm_11_6 wm_11_7 wm_1_5) rfl rfl rfl (by decide +kernel) ⟨Nat.le_of_ble_eq_true rfl, Nat.le_of_ble_eq_true rfl⟩ rfl rfl (Nat.le_of_ble_eq_true rfl) ⟨Nat.le_of_ble_eq_true rfl, Nat.le_of_ble_eq_true rfl⟩ dX6_best_6 (fun zz2 σ1 => ?_)
  refine x_jn (fun (KK41 : Int32 → xS → Option (Int32 × xS)) => ∀ zz3 σ4, xM Γ D ad N Sh (xQI Γ D ad N Sh 0 0) 0 0 (KK41 zz3 σ4) σ4 33 [(0, .ref (ad oo0)), (1, .int pp1), (2, .int pp2)] [.int zz3, .ref (ad oo0)]) (fun zz3 σ4 => ?_) (fun KK41 hKK42 => ?_)
  · refine xr_callVI (na := 1) (pc := 33) X (oo0) [.int zz3] _ (c_X6_refused Γ.2.1 hI oo0 hh0 zz3 σ4) (wG_V wm_8_5 wm_8_2 wm_8_3 wm_8_4 wm_1_5) rfl rfl rfl (by decide +kernel) ⟨Nat.le_of_ble_eq_true rfl, Nat.le_of_ble_eq_true rfl⟩ hh0.1.1 hh0.1.2 rfl (T := TX6) (C := RX6) rfl rfl rfl (Nat.le_of_ble_eq_true rfl) ⟨Nat.le_of_ble_eq_true rfl, Nat.le_of_ble_eq_true rfl⟩ dX6_best_33 (fun zz6 σ5 => ?_)
    refine xr_if_eq (pc := 36) X 41 (by decide) dX6_best_36 (fun _ => ?_) (fun _ => ?_)
    · refine xr_iconst (pc := 41) X dX6_best_41 (v := (-1)) (by decide) ?_
      refine xr_istore_n (pc := 42) X (hf := rfl) (i := 3) [1, 2, 3, 0] (Nat.le_of_ble_eq_true rfl) hnL rfl dX6_best_42 ?_
      refine xr_iconst (pc := 43) X dX6_best_43 (v := 0) (by decide) ?_
      refine xr_istore (pc := 44) X (i := 4) [1, 2, 3, 4, 0] (Nat.le_of_ble_eq_true rfl) hnL rfl dX6_best_44 ?_
      refine xr_iconst (pc := 46) X dX6_best_46 (v := 0) (by decide) ?_
      refine xr_istore (pc := 47) X (i := 5) [1, 2, 3, 4, 5, 0] (Nat.le_of_ble_eq_true rfl) hnL rfl dX6_best_47 ?_
      have hLL40 : ∀ (KK9 : Int32 → xS → Option (Int32 × xS)) (hKK10 : ∀ zz7 σ8, xM Γ D ad N Sh (xQI Γ D ad N Sh 0 0) 0 0 (KK9 zz7 σ8) σ8 155 [(3, .int zz7)] []), ∀ (nn_15 : Nat) zz11 zz12 zz13 σ14, xM Γ D ad N Sh (xQI Γ D ad N Sh 0 0) 0 0 (L_X6_best_49 oo0 pp1 pp2 KK9 nn_15 zz11 zz12 zz13 σ14) σ14 49 [(0, .ref (ad oo0)), (1, .int pp1), (2, .int pp2), (3, .int zz11), (4, .int zz12), (5, .int zz13)] [] := by
        intro KK9 hKK10 nn_15
        induction nn_15 with
        | zero => intro zz11 zz12 zz13 σ14; exact xM_none
        | succ nn_15 ihh16 =>
          intro zz11 zz12 zz13 σ14
          rw [L_X6_best_49]
          refine xr_iload (pc := 49) X (i := 5) 5 rfl dX6_best_49 ?_
          refine xr_bipush (pc := 51) X dX6_best_51 (v := 99) (by decide) ?_
          refine xr_icmp_gt (pc := 53) X 155 (by decide) dX6_best_53 (fun _ => ?_) (fun _ => ?_)
          · exact x_sub [3] rfl (hKK10 _ _)
          refine xr_iload_n (pc := 56) X (i := 1) 1 rfl rfl dX6_best_56 ?_
          refine xr_iload (pc := 57) X (i := 5) 5 rfl dX6_best_57 ?_
          refine xr_callSI (na := 2) (pc := 59) X [.int pp1, .int zz13] (c_X6_isSetting Γ.2.1 hI pp1 zz13 σ14) (wG_S wm_27_5 wm_27_3 wm_27_4 wm_1_5) rfl rfl rfl (by decide +kernel) ⟨Nat.le_of_ble_eq_true rfl, Nat.le_of_ble_eq_true rfl⟩ rfl rfl (Nat.le_of_ble_eq_true rfl) ⟨Nat.le_of_ble_eq_true rfl, Nat.le_of_ble_eq_true rfl⟩ dX6_best_59 (fun zz18 σ17 => ?_)
          refine xr_if_eq (pc := 62) X 149 (by decide) dX6_best_62 (fun _ => ?_) (fun _ => ?_)
          · refine xr_iinc (pc := 149) X (i := 5) (j := 5) [1, 2, 3, 4, 5, 0] (Nat.le_of_ble_eq_true rfl) hnL rfl rfl (fun zz19 => [(0, .ref (ad oo0)), (1, .int pp1), (2, .int pp2), (3, .int zz11), (4, .int zz12), (5, .int zz19)]) (fun _ => rfl) dX6_best_149 (fun zz19 => ?_)
            refine xr_goto (pc := 152) X 49 (by decide) dX6_best_152 ?_
            exact ihh16 _ _ _ _
          refine xr_aload_n (pc := 65) X (i := 0) 0 rfl rfl dX6_best_65 ?_
          refine xgX6 (pc := 66) X (oo0) hh0.1 3 wm_5_21 rfl rfl (by decide) rfl dX6_best_66 ?_
          refine xr_iconst (pc := 69) X dX6_best_69 (v := 0) (by decide) ?_
          refine xr_aload_n (pc := 70) X (i := 0) 0 rfl rfl dX6_best_70 ?_
          refine xgX6 (pc := 71) X (oo0) hh0.1 4 wm_5_22 rfl rfl (by decide) rfl dX6_best_71 ?_
          refine xr_iconst (pc := 74) X dX6_best_74 (v := 0) (by decide) ?_
          refine xr_callSV (na := 4) (pc := 75) X [.ref (ad (oo0 + 2)), .int 0, .ref (ad (oo0 + 3)), .int 0] (c_X6_copyState Γ.2.1 hI 187 (oo0 + 2) hh0.2.2.1 0 187 (oo0 + 3) hh0.2.2.2.1 0 σ17) (wG_S wm_18_9 wm_18_7 wm_18_8 wm_1_5) rfl rfl rfl (by decide +kernel) ⟨Nat.le_of_ble_eq_true rfl, Nat.le_of_ble_eq_true rfl⟩ rfl rfl (Nat.le_of_ble_eq_true rfl) ⟨Nat.le_of_ble_eq_true rfl, Nat.le_of_ble_eq_true rfl⟩ dX6_best_75 (fun σ20 => ?_)
          refine xr_aload_n (pc := 78) X (i := 0) 0 rfl rfl dX6_best_78 ?_
          refine xgX6 (pc := 79) X (oo0) hh0.1 4 wm_5_22 rfl rfl (by decide) rfl dX6_best_79 ?_
          refine xr_iconst (pc := 82) X dX6_best_82 (v := 3) (by decide) ?_
          refine xr_iload_n (pc := 83) X (i := 1) 1 rfl rfl dX6_best_83 ?_
          refine xr_iadd (pc := 84) X dX6_best_84 ?_
          refine xr_iload (pc := 85) X (i := 5) 5 rfl dX6_best_85 ?_
          refine xr_iast (pc := 87) X (oo0 + 3) (187) hh0.2.2.2.1.1 hh0.2.2.2.1.2 dX6_best_87 (fun σ21 => ?_)
          refine xr_aload_n (pc := 88) X (i := 0) 0 rfl rfl dX6_best_88 ?_
          refine xgX6 (pc := 89) X (oo0) hh0.1 4 wm_5_22 rfl rfl (by decide) rfl dX6_best_89 ?_
          refine xr_iload_n (pc := 92) X (i := 2) 2 rfl rfl dX6_best_92 ?_
          refine xr_callSI (na := 2) (pc := 93) X [.ref (ad (oo0 + 3)), .int pp2] (c_X6_untilDone Γ.2.1 hI 187 (oo0 + 3) hh0.2.2.2.1 pp2 σ21) (wG_S wm_29_0 wm_28_22 wm_28_23 wm_1_5) rfl rfl rfl (by decide +kernel) ⟨Nat.le_of_ble_eq_true rfl, Nat.le_of_ble_eq_true rfl⟩ rfl rfl (Nat.le_of_ble_eq_true rfl) ⟨Nat.le_of_ble_eq_true rfl, Nat.le_of_ble_eq_true rfl⟩ dX6_best_93 (fun zz23 σ22 => ?_)
          refine xr_istore (pc := 96) X (i := 6) [1, 2, 3, 4, 5, 6, 0] (Nat.le_of_ble_eq_true rfl) hnL rfl dX6_best_96 ?_
          refine xr_iload (pc := 98) X (i := 6) 6 rfl dX6_best_98 ?_
          refine xr_iconst (pc := 100) X dX6_best_100 (v := (-1)) (by decide) ?_
          refine x_jn (fun (KK32 : Int32 → xS → Option (Int32 × xS)) => ∀ zz24 σ25, xM Γ D ad N Sh (xQI Γ D ad N Sh 0 0) 0 0 (KK32 zz24 σ25) σ25 121 [(0, .ref (ad oo0)), (1, .int pp1), (2, .int pp2), (3, .int zz11), (4, .int zz12), (5, .int zz13), (6, .int zz23)] [.int zz24]) (fun zz24 σ25 => ?_) (fun KK32 hKK33 => ?_)
          · refine xr_istore (pc := 121) X (i := 7) [1, 2, 3, 4, 5, 6, 7, 0] (Nat.le_of_ble_eq_true rfl) hnL rfl dX6_best_121 ?_
            refine xr_iload (pc := 123) X (i := 7) 7 rfl dX6_best_123 ?_
            refine x_jn (fun (KK30 : Int32 → xS → Option (Int32 × xS)) => ∀ zz26 σ27, xM Γ D ad N Sh (xQI Γ D ad N Sh 0 0) 0 0 (KK30 zz26 σ27) σ27 134 [(0, .ref (ad oo0)), (1, .int pp1), (2, .int pp2), (4, .int zz12), (5, .int zz13), (6, .int zz23), (7, .int zz24)] [.int zz26]) (fun zz26 σ27 => ?_) (fun KK30 hKK31 => ?_)
            · refine xr_istore_n (pc := 134) X (hf := rfl) (i := 3) [1, 2, 3, 0, 4, 5, 6, 7] (Nat.le_of_ble_eq_true rfl) hnL rfl dX6_best_134 ?_
              refine xr_iload (pc := 135) X (i := 7) 7 rfl dX6_best_135 ?_
              refine xr_if_eq (pc := 137) X 145 (by decide) dX6_best_137 (fun _ => ?_) (fun _ => ?_)
              · refine xr_iload (pc := 145) X (i := 4) 4 rfl dX6_best_145 ?_
                refine xr_istore (pc := 147) X (i := 4) [1, 2, 3, 4, 0, 5] (Nat.le_of_ble_eq_true rfl) hnL rfl dX6_best_147 ?_
                refine xr_iinc (pc := 149) X (i := 5) (j := 5) [1, 2, 3, 4, 5, 0] (Nat.le_of_ble_eq_true rfl) hnL rfl rfl (fun zz28 => [(0, .ref (ad oo0)), (1, .int pp1), (2, .int pp2), (3, .int zz26), (4, .int zz12), (5, .int zz28)]) (fun _ => rfl) dX6_best_149 (fun zz28 => ?_)
                refine xr_goto (pc := 152) X 49 (by decide) dX6_best_152 ?_
                exact ihh16 _ _ _ _
              refine xr_iload (pc := 140) X (i := 6) 6 rfl dX6_best_140 ?_
              refine xr_goto (pc := 142) X 147 (by decide) dX6_best_142 ?_
              refine xr_istore (pc := 147) X (i := 4) [1, 2, 3, 4, 0, 5] (Nat.le_of_ble_eq_true rfl) hnL rfl dX6_best_147 ?_
              refine xr_iinc (pc := 149) X (i := 5) (j := 5) [1, 2, 3, 4, 5, 0] (Nat.le_of_ble_eq_true rfl) hnL rfl rfl (fun zz29 => [(0, .ref (ad oo0)), (1, .int pp1), (2, .int pp2), (3, .int zz26), (4, .int zz23), (5, .int zz29)]) (fun _ => rfl) dX6_best_149 (fun zz29 => ?_)
              refine xr_goto (pc := 152) X 49 (by decide) dX6_best_152 ?_
              exact ihh16 _ _ _ _
            refine xr_if_eq (pc := 125) X 133 (by decide) dX6_best_125 (fun _ => ?_) (fun _ => ?_)
            · refine xr_iload_n (pc := 133) X (i := 3) 3 rfl rfl dX6_best_133 ?_
              exact x_sub [0, 1, 2, 4, 5, 6, 7] rfl (hKK31 _ _)
            refine xr_iload (pc := 128) X (i := 5) 5 rfl dX6_best_128 ?_
            refine xr_goto (pc := 130) X 134 (by decide) dX6_best_130 ?_
            exact x_sub [0, 1, 2, 4, 5, 6, 7] rfl (hKK31 _ _)
          refine x_jn (fun (KK35 : xS → Option (Int32 × xS)) => ∀ σ34, xM Γ D ad N Sh (xQI Γ D ad N Sh 0 0) 0 0 (KK35 σ34) σ34 120 [(0, .ref (ad oo0)), (1, .int pp1), (2, .int pp2), (3, .int zz11), (4, .int zz12), (5, .int zz13), (6, .int zz23)] []) (fun σ34 => ?_) (fun KK35 hKK36 => ?_)
          · refine xr_iconst (pc := 120) X dX6_best_120 (v := 0) (by decide) ?_
            exact hKK33 _ _
          refine xr_icmp_eq (pc := 101) X 120 (by decide) dX6_best_101 (fun _ => ?_) (fun _ => ?_)
          · exact hKK36  _
          refine xr_iload_n (pc := 104) X (i := 3) 3 rfl rfl dX6_best_104 ?_
          refine xr_iconst (pc := 105) X dX6_best_105 (v := (-1)) (by decide) ?_
          refine x_jn (fun (KK38 : xS → Option (Int32 × xS)) => ∀ σ37, xM Γ D ad N Sh (xQI Γ D ad N Sh 0 0) 0 0 (KK38 σ37) σ37 116 [(0, .ref (ad oo0)), (1, .int pp1), (2, .int pp2), (3, .int zz11), (4, .int zz12), (5, .int zz13), (6, .int zz23)] []) (fun σ37 => ?_) (fun KK38 hKK39 => ?_)
          · refine xr_iconst (pc := 116) X dX6_best_116 (v := 1) (by decide) ?_
            refine xr_goto (pc := 117) X 121 (by decide) dX6_best_117 ?_
            exact hKK33 _ _
          refine xr_icmp_eq (pc := 106) X 116 (by decide) dX6_best_106 (fun _ => ?_) (fun _ => ?_)
          · exact hKK39  _
          refine xr_iload (pc := 109) X (i := 6) 6 rfl dX6_best_109 ?_
          refine xr_iload (pc := 111) X (i := 4) 4 rfl dX6_best_111 ?_
          refine xr_icmp_ge (pc := 113) X 120 (by decide) dX6_best_113 (fun _ => ?_) (fun _ => ?_)
          · exact hKK36  _
          exact hKK39  _
      refine hLL40 _ (fun zz7 σ8 => ?_) _ _ _ _ _
      refine xr_iload_n (pc := 155) X (i := 3) 0 rfl rfl dX6_best_155 ?_
      exact xr_iret (pc := 156) X (Nat.le_of_ble_eq_true rfl) (Nat.le_of_ble_eq_true rfl) dX6_best_156
    refine xr_iconst (pc := 39) X dX6_best_39 (v := 0) (by decide) ?_
    exact xr_iret (pc := 40) X (Nat.le_of_ble_eq_true rfl) (Nat.le_of_ble_eq_true rfl) dX6_best_40
  refine xr_if_ne (pc := 9) X 16 (by decide) dX6_best_9 (fun _ => ?_) (fun _ => ?_)
  · refine xr_iload_n (pc := 16) X (i := 1) 1 rfl rfl dX6_best_16 ?_
    refine xr_i2l (pc := 17) X dX6_best_17 ?_
    refine xr_lconst (pc := 18) X dX6_best_18 (v := 1) rfl ?_
    refine xr_ldc2 (pc := 19) X dX6_best_19 (List.mem_cons_of_mem _ wm_21_19) ?_
    refine xr_callSI (na := 3) (pc := 22) X [.long pp1.toInt64, .long 1, .long 2] (c_X6_in Γ.2.1 hI pp1.toInt64 1 2 σ1) (wG_S wm_8_1 wm_7_23 wm_8_0 wm_1_5) rfl rfl rfl (by decide +kernel) ⟨Nat.le_of_ble_eq_true rfl, Nat.le_of_ble_eq_true rfl⟩ rfl rfl (Nat.le_of_ble_eq_true rfl) ⟨Nat.le_of_ble_eq_true rfl, Nat.le_of_ble_eq_true rfl⟩ dX6_best_22 (fun zz44 σ43 => ?_)
    refine xr_if_eq (pc := 25) X 32 (by decide) dX6_best_25 (fun _ => ?_) (fun _ => ?_)
    · refine xr_iconst (pc := 32) X dX6_best_32 (v := 2) (by decide) ?_
      exact hKK42 _ _
    refine xr_iconst (pc := 28) X dX6_best_28 (v := 0) (by decide) ?_
    refine xr_goto (pc := 29) X 33 (by decide) dX6_best_29 ?_
    exact hKK42 _ _
  refine xr_iconst (pc := 12) X dX6_best_12 (v := 1) (by decide) ?_
  refine xr_goto (pc := 13) X 33 (by decide) dX6_best_13 ?_
  exact hKK42 _ _
def F_X6_isDoneIn (oo0 : Nat) (pp1 : Int32) (pp2 : Int32) (σ : xS) : Option (Int32 × xS) :=
  xbV (F_X6_copyState 187 (oo0 + 3) 0 187 (oo0 + 4) 0 σ) (fun (σ1 : xS) => xbI (F_X6_untilDone 187 (oo0 + 4) pp1 σ1) (fun (zz3 : Int32) (σ2 : xS) => if zz3 = ((-1)) then (some ((0 : Int32), σ2))
 else (if pp2 < zz3 then (some ((0 : Int32), σ2))
 else (some ((1 : Int32), σ2)))))
abbrev rm_X6_isDoneIn : Room := { frames := 8, cells := 0, slots := 0, locals := 183 }
set_option maxHeartbeats 4000000 in
set_option maxRecDepth 100000 in
theorem c_X6_isDoneIn (l : Launch) {D : va_G} {ad : Nat → Nat} {N : Nat} {Sh : xSh} (hI : ∀ i j, i < N → j < N → ad i = ad j → i = j) (oo0 : Nat) (hh0 : xIs6 D ad N Sh oo0) (pp1 : Int32) (pp2 : Int32) (σ : xS) : xKI l yX6_isDoneIn (Cond.code yX6_isDoneIn cX6_isDoneIn 4 (some .boolean) :: wG) rm_X6_isDoneIn 0 0 D ad N Sh [.ref (ad oo0), .int pp1, .int pp2] σ (F_X6_isDoneIn oo0 pp1 pp2 σ) := by
  refine x_startI (own := RX6) (maxL := 4) (by decide) rfl rfl (Nat.le_of_ble_eq_true rfl) rfl hI (fun Γ hl hnL X => ?_)
  subst hl
  unfold F_X6_isDoneIn
  refine xr_aload_n (pc := 0) X (i := 0) 0 rfl rfl dX6_isDoneIn_0 ?_
  refine xgX6 (pc := 1) X (oo0) hh0.1 4 wm_5_22 rfl rfl (by decide) rfl dX6_isDoneIn_1 ?_
  refine xr_iconst (pc := 4) X dX6_isDoneIn_4 (v := 0) (by decide) ?_
  refine xr_aload_n (pc := 5) X (i := 0) 0 rfl rfl dX6_isDoneIn_5 ?_
  refine xgX6 (pc := 6) X (oo0) hh0.1 5 wm_5_23 rfl rfl (by decide) rfl dX6_isDoneIn_6 ?_
  refine xr_iconst (pc := 9) X dX6_isDoneIn_9 (v := 0) (by decide) ?_
  refine xr_callSV (na := 4) (pc := 10) X [.ref (ad (oo0 + 3)), .int 0, .ref (ad (oo0 + 4)), .int 0] (c_X6_copyState Γ.2.1 hI 187 (oo0 + 3) hh0.2.2.2.1 0 187 (oo0 + 4) hh0.2.2.2.2.1 0 σ) (wG_S wm_18_9 wm_18_7 wm_18_8 wm_1_5) rfl rfl rfl (by decide +kernel) ⟨Nat.le_of_ble_eq_true rfl, Nat.le_of_ble_eq_true rfl⟩ rfl rfl (Nat.le_of_ble_eq_true rfl) ⟨Nat.le_of_ble_eq_true rfl, Nat.le_of_ble_eq_true rfl⟩ dX6_isDoneIn_10 (fun σ1 => ?_)
  refine xr_aload_n (pc := 13) X (i := 0) 0 rfl rfl dX6_isDoneIn_13 ?_
  refine xgX6 (pc := 14) X (oo0) hh0.1 5 wm_5_23 rfl rfl (by decide) rfl dX6_isDoneIn_14 ?_
  refine xr_iload_n (pc := 17) X (i := 1) 1 rfl rfl dX6_isDoneIn_17 ?_
  refine xr_callSI (na := 2) (pc := 18) X [.ref (ad (oo0 + 4)), .int pp1] (c_X6_untilDone Γ.2.1 hI 187 (oo0 + 4) hh0.2.2.2.2.1 pp1 σ1) (wG_S wm_29_0 wm_28_22 wm_28_23 wm_1_5) rfl rfl rfl (by decide +kernel) ⟨Nat.le_of_ble_eq_true rfl, Nat.le_of_ble_eq_true rfl⟩ rfl rfl (Nat.le_of_ble_eq_true rfl) ⟨Nat.le_of_ble_eq_true rfl, Nat.le_of_ble_eq_true rfl⟩ dX6_isDoneIn_18 (fun zz3 σ2 => ?_)
  refine xr_istore_n (pc := 21) X (hf := rfl) (i := 3) [3, 0] (Nat.le_of_ble_eq_true rfl) hnL rfl dX6_isDoneIn_21 ?_
  refine xr_iload_n (pc := 22) X (i := 3) 1 rfl rfl dX6_isDoneIn_22 ?_
  refine xr_iconst (pc := 23) X dX6_isDoneIn_23 (v := (-1)) (by decide) ?_
  refine xr_icmp_eq (pc := 24) X 36 (by decide) dX6_isDoneIn_24 (fun _ => ?_) (fun _ => ?_)
  · refine xr_iconst (pc := 36) X dX6_isDoneIn_36 (v := 0) (by decide) ?_
    exact xr_zret (pc := 37) X rfl (Nat.le_refl _) (Nat.le_refl _) dX6_isDoneIn_37
  refine xr_iload_n (pc := 27) X (i := 3) 1 rfl rfl dX6_isDoneIn_27 ?_
  refine xr_iload_n (pc := 28) X (i := 2) 0 rfl rfl dX6_isDoneIn_28 ?_
  refine xr_icmp_gt (pc := 29) X 36 (by decide) dX6_isDoneIn_29 (fun _ => ?_) (fun _ => ?_)
  · refine xr_iconst (pc := 36) X dX6_isDoneIn_36 (v := 0) (by decide) ?_
    exact xr_zret (pc := 37) X rfl (Nat.le_refl _) (Nat.le_refl _) dX6_isDoneIn_37
  refine xr_iconst (pc := 32) X dX6_isDoneIn_32 (v := 1) (by decide) ?_
  refine xr_goto (pc := 33) X 37 (by decide) dX6_isDoneIn_33 ?_
  exact xr_zret (pc := 37) X rfl (Nat.le_refl _) (Nat.le_refl _) dX6_isDoneIn_37
def F_X6_mayTick (oo0 : Nat) (pp1 : Int32) (σ : xS) : Option (Int32 × xS) :=
  xbI (F_X6_in pp1.toInt64 1 99 σ) (fun (zz2 : Int32) (σ1 : xS) => if zz2 = 0 then (some ((0 : Int32), σ1))
 else (if xin (1 : Int32) 187 = true then (xlet (σ1 (oo0 + 3) (1 : Int32).toNatClampNeg) (fun (zz3 : Int32) => if 99999 < (zz3 + pp1) then (some ((0 : Int32), σ1))
 else (some ((1 : Int32), σ1)))) else none))
abbrev rm_X6_mayTick : Room := { frames := 1, cells := 0, slots := 0, locals := 25 }
set_option maxHeartbeats 4000000 in
set_option maxRecDepth 100000 in
theorem c_X6_mayTick (l : Launch) {D : va_G} {ad : Nat → Nat} {N : Nat} {Sh : xSh} (hI : ∀ i j, i < N → j < N → ad i = ad j → i = j) (oo0 : Nat) (hh0 : xIs6 D ad N Sh oo0) (pp1 : Int32) (σ : xS) : xKI l yX6_mayTick (Cond.code yX6_mayTick cX6_mayTick 2 (some .boolean) :: wG) rm_X6_mayTick 0 0 D ad N Sh [.ref (ad oo0), .int pp1] σ (F_X6_mayTick oo0 pp1 σ) := by
  refine x_startI (own := RX6) (maxL := 2) (by decide) rfl rfl (Nat.le_of_ble_eq_true rfl) rfl hI (fun Γ hl hnL X => ?_)
  subst hl
  unfold F_X6_mayTick
  refine xr_iload_n (pc := 0) X (i := 1) 1 rfl rfl dX6_mayTick_0 ?_
  refine xr_i2l (pc := 1) X dX6_mayTick_1 ?_
  refine xr_lconst (pc := 2) X dX6_mayTick_2 (v := 1) rfl ?_
  refine xr_ldc2 (pc := 3) X dX6_mayTick_3 (List.mem_cons_of_mem _ wm_25_4) ?_
  refine xr_callSI (na := 3) (pc := 6) X [.long pp1.toInt64, .long 1, .long 99] (c_X6_in Γ.2.1 hI pp1.toInt64 1 99 σ) (wG_S wm_8_1 wm_7_23 wm_8_0 wm_1_5) rfl rfl rfl (by decide +kernel) ⟨Nat.le_of_ble_eq_true rfl, Nat.le_of_ble_eq_true rfl⟩ rfl rfl (Nat.le_of_ble_eq_true rfl) ⟨Nat.le_of_ble_eq_true rfl, Nat.le_of_ble_eq_true rfl⟩ dX6_mayTick_6 (fun zz2 σ1 => ?_)
  refine xr_if_eq (pc := 9) X 29 (by decide) dX6_mayTick_9 (fun _ => ?_) (fun _ => ?_)
  · refine xr_iconst (pc := 29) X dX6_mayTick_29 (v := 0) (by decide) ?_
    exact xr_zret (pc := 30) X rfl (Nat.le_refl _) (Nat.le_refl _) dX6_mayTick_30
  refine xr_aload_n (pc := 12) X (i := 0) 0 rfl rfl dX6_mayTick_12 ?_
  refine xgX6 (pc := 13) X (oo0) hh0.1 4 wm_5_22 rfl rfl (by decide) rfl dX6_mayTick_13 ?_
  refine xr_iconst (pc := 16) X dX6_mayTick_16 (v := 1) (by decide) ?_
  refine xr_iald (pc := 17) X (oo0 + 3) (187) hh0.2.2.2.1.1 hh0.2.2.2.1.2 dX6_mayTick_17 (fun zz3 => ?_)
  refine xr_iload_n (pc := 18) X (i := 1) 1 rfl rfl dX6_mayTick_18 ?_
  refine xr_iadd (pc := 19) X dX6_mayTick_19 ?_
  refine xr_ldc (pc := 20) X dX6_mayTick_20 (List.mem_cons_of_mem _ wm_26_15) ?_
  refine xr_icmp_gt (pc := 22) X 29 (by decide) dX6_mayTick_22 (fun _ => ?_) (fun _ => ?_)
  · refine xr_iconst (pc := 29) X dX6_mayTick_29 (v := 0) (by decide) ?_
    exact xr_zret (pc := 30) X rfl (Nat.le_refl _) (Nat.le_refl _) dX6_mayTick_30
  refine xr_iconst (pc := 25) X dX6_mayTick_25 (v := 1) (by decide) ?_
  refine xr_goto (pc := 26) X 30 (by decide) dX6_mayTick_26 ?_
  exact xr_zret (pc := 30) X rfl (Nat.le_refl _) (Nat.le_refl _) dX6_mayTick_30
def F_X6_command (oo0 : Nat) (pp1 : Int32) (pp2 : Int32) (σ : xS) : Option (Int32 × xS) :=
  xlet (pp2 / 1000) (fun (zz1 : Int32) => xlet (pp2 - pp2 / 1000 * 1000) (fun (zz2 : Int32) => xbI (F_X6_isWriter 187 (oo0 + 3) zz1 σ) (fun (zz4 : Int32) (σ3 : xS) => if pp1 = 1 then (if zz4 = 0 then (some ((0 : Int32), σ3))
 else (xbI (F_X6_isNote zz2 σ3) (fun (zz6 : Int32) (σ5 : xS) => if zz6 = 0 then (some ((0 : Int32), σ5))
 else (xbI (F_X6_canWrite 187 (oo0 + 3) zz1 zz2 σ5) (fun (zz8 : Int32) (σ7 : xS) => if zz8 = 0 then (some ((0 : Int32), σ7))
 else (xbI (F_X6_writeOn 187 (oo0 + 3) zz1 zz2 σ7) (fun (zz10 : Int32) (σ9 : xS) => if zz10 < 0 then (some ((0 : Int32), σ9))
 else (some ((1 : Int32), σ9)))))))))
 else (if pp1 = 2 then (xbI (F_X6_mayTick oo0 pp2 σ3) (fun (zz13 : Int32) (σ12 : xS) => if zz13 = 0 then (some ((0 : Int32), σ12))
 else (xbI (F_X6_ticksOn 187 (oo0 + 3) pp2 σ12) (fun (zz15 : Int32) (σ14 : xS) => if zz15 < 0 then (some ((0 : Int32), σ14))
 else (some ((1 : Int32), σ14))))))
 else (if pp1 = 3 then (if zz4 = 0 then (some ((0 : Int32), σ3))
 else (if 2 ≤ zz2 then (some ((0 : Int32), σ3))
 else (xjn (fun (zz17 : Int32) (σ18 : xS) => xbI (F_X6_holdOn 187 (oo0 + 3) zz1 zz17 σ18) (fun (zz20 : Int32) (σ19 : xS) => if zz20 < 0 then (some ((0 : Int32), σ19))
 else (some ((1 : Int32), σ19))))
 (fun (KK21 : Int32 → xS → Option (Int32 × xS)) => if ¬ zz2 = 1 then (KK21 0 σ3)
 else (KK21 1 σ3)))))
 else (if pp1 = 4 then (if zz4 = 0 then (some ((0 : Int32), σ3))
 else (if ¬ zz2 = 0 then (some ((0 : Int32), σ3))
 else (xbI (F_X6_sends 187 (oo0 + 3) zz1 0 σ3) (fun (zz25 : Int32) (σ24 : xS) => if zz25 < 0 then (some ((0 : Int32), σ24))
 else (some ((1 : Int32), σ24))))))
 else (if pp1 = 5 then (if 99 < zz2 then (some ((0 : Int32), σ3))
 else (xbI (F_X6_isSetting zz1 zz2 σ3) (fun (zz28 : Int32) (σ27 : xS) => if ¬ zz28 = 0 then (if xin (3 + zz1) 187 = true then (xlet (xu σ27 (oo0 + 3) (3 + zz1).toNatClampNeg zz2) (fun (σ29 : xS) => some ((1 : Int32), σ29))) else none)
 else (some ((0 : Int32), σ27)))))
 else (if pp1 = 6 then (if zz4 = 0 then (some ((0 : Int32), σ3))
 else (if 100 ≤ zz2 then (some ((0 : Int32), σ3))
 else (xbI (F_X6_of 187 (oo0 + 3) zz1 6 σ3) (fun (zz32 : Int32) (σ31 : xS) => if zz2 < zz32 then (some ((0 : Int32), σ31))
 else (some ((1 : Int32), σ31))))))
 else (if pp1 = 7 then (if zz4 = 0 then (some ((0 : Int32), σ3))
 else (xbI (F_X6_of 187 (oo0 + 3) zz1 0 σ3) (fun (zz35 : Int32) (σ34 : xS) => if zz2 < zz35 then (some ((0 : Int32), σ34))
 else (some ((1 : Int32), σ34)))))
 else (if pp1 = 8 then (if zz4 = 0 then (some ((0 : Int32), σ3))
 else (xbI (F_X6_isDoneIn oo0 zz1 zz2 σ3) (fun (zz38 : Int32) (σ37 : xS) => if zz38 = 0 then (some ((0 : Int32), σ37))
 else (some ((1 : Int32), σ37)))))
 else (if pp1 = 9 then (if 100 ≤ pp2 then (some ((0 : Int32), σ3))
 else (xbI (F_X6_sum 187 (oo0 + 3) 12 σ3) (fun (zz41 : Int32) (σ40 : xS) => if pp2 < zz41 then (some ((0 : Int32), σ40))
 else (some ((1 : Int32), σ40)))))
 else (some ((0 : Int32), σ3)))))))))))))
abbrev rm_X6_command : Room := { frames := 9, cells := 0, slots := 0, locals := 206 }
set_option maxHeartbeats 4000000 in
set_option maxRecDepth 100000 in
theorem c_X6_command (l : Launch) {D : va_G} {ad : Nat → Nat} {N : Nat} {Sh : xSh} (hI : ∀ i j, i < N → j < N → ad i = ad j → i = j) (oo0 : Nat) (hh0 : xIs6 D ad N Sh oo0) (pp1 : Int32) (pp2 : Int32) (σ : xS) : xKI l yX6_command (Cond.code yX6_command cX6_command 6 (some .boolean) :: wG) rm_X6_command 0 0 D ad N Sh [.ref (ad oo0), .int pp1, .int pp2] σ (F_X6_command oo0 pp1 pp2 σ) := by
  refine x_startI (own := RX6) (maxL := 6) (by decide) rfl rfl (Nat.le_of_ble_eq_true rfl) rfl hI (fun Γ hl hnL X => ?_)
  subst hl
  unfold F_X6_command
  refine xr_iload_n (pc := 0) X (i := 2) 2 rfl rfl dX6_command_0 ?_
  refine xr_sipush (pc := 1) X dX6_command_1 (v := 1000) (by decide) ?_
  refine xr_idiv (pc := 4) X (by decide) dX6_command_4 ?_
  refine x_leti (fun zz1 => ?_)
  refine xr_istore_n (pc := 5) X (hf := rfl) (i := 3) [1, 2, 3, 0] (Nat.le_of_ble_eq_true rfl) hnL rfl dX6_command_5 ?_
  refine xr_iload_n (pc := 6) X (i := 2) 2 rfl rfl dX6_command_6 ?_
  refine xr_sipush (pc := 7) X dX6_command_7 (v := 1000) (by decide) ?_
  refine xr_irem (pc := 10) X (by decide) dX6_command_10 ?_
  refine x_leti (fun zz2 => ?_)
  refine xr_istore (pc := 11) X (i := 4) [1, 2, 3, 4, 0] (Nat.le_of_ble_eq_true rfl) hnL rfl dX6_command_11 ?_
  refine xr_aload_n (pc := 13) X (i := 0) 0 rfl rfl dX6_command_13 ?_
  refine xgX6 (pc := 14) X (oo0) hh0.1 4 wm_5_22 rfl rfl (by decide) rfl dX6_command_14 ?_
  refine xr_iload_n (pc := 17) X (i := 3) 3 rfl rfl dX6_command_17 ?_
  refine xr_callSI (na := 2) (pc := 18) X [.ref (ad (oo0 + 3)), .int zz1] (c_X6_isWriter Γ.2.1 hI 187 (oo0 + 3) hh0.2.2.2.1 zz1 σ) (wG_S wm_11_8 wm_11_6 wm_11_7 wm_1_5) rfl rfl rfl (by decide +kernel) ⟨Nat.le_of_ble_eq_true rfl, Nat.le_of_ble_eq_true rfl⟩ rfl rfl (Nat.le_of_ble_eq_true rfl) ⟨Nat.le_of_ble_eq_true rfl, Nat.le_of_ble_eq_true rfl⟩ dX6_command_18 (fun zz4 σ3 => ?_)
  refine xr_istore (pc := 21) X (i := 5) [1, 2, 3, 4, 5, 0] (Nat.le_of_ble_eq_true rfl) hnL rfl dX6_command_21 ?_
  refine xr_iload_n (pc := 23) X (i := 1) 1 rfl rfl dX6_command_23 ?_
  refine x_if (fun hcc11 => ?_) (fun hcc11 => ?_)
  · refine xr_tin (off := 52) (pc := 24) X 76 dX6_command_24 (by rw [hcc11]; decide) (by rw [hcc11]; decide) (by rw [hcc11]; rfl) (by decide) ?_
    refine xr_iload (pc := 76) X (i := 5) 5 rfl dX6_command_76 ?_
    refine xr_if_eq (pc := 78) X 119 (by decide) dX6_command_78 (fun _ => ?_) (fun _ => ?_)
    · refine xr_iconst (pc := 119) X dX6_command_119 (v := 0) (by decide) ?_
      exact xr_zret (pc := 120) X rfl (Nat.le_refl _) (Nat.le_refl _) dX6_command_120
    refine xr_iload (pc := 81) X (i := 4) 4 rfl dX6_command_81 ?_
    refine xr_callSI (na := 1) (pc := 83) X [.int zz2] (c_X6_isNote Γ.2.1 hI zz2 σ3) (wG_S wm_24_15 wm_24_13 wm_24_14 wm_1_5) rfl rfl rfl (by decide +kernel) ⟨Nat.le_of_ble_eq_true rfl, Nat.le_of_ble_eq_true rfl⟩ rfl rfl (Nat.le_of_ble_eq_true rfl) ⟨Nat.le_of_ble_eq_true rfl, Nat.le_of_ble_eq_true rfl⟩ dX6_command_83 (fun zz6 σ5 => ?_)
    refine xr_if_eq (pc := 86) X 119 (by decide) dX6_command_86 (fun _ => ?_) (fun _ => ?_)
    · refine xr_iconst (pc := 119) X dX6_command_119 (v := 0) (by decide) ?_
      exact xr_zret (pc := 120) X rfl (Nat.le_refl _) (Nat.le_refl _) dX6_command_120
    refine xr_aload_n (pc := 89) X (i := 0) 0 rfl rfl dX6_command_89 ?_
    refine xgX6 (pc := 90) X (oo0) hh0.1 4 wm_5_22 rfl rfl (by decide) rfl dX6_command_90 ?_
    refine xr_iload_n (pc := 93) X (i := 3) 3 rfl rfl dX6_command_93 ?_
    refine xr_iload (pc := 94) X (i := 4) 4 rfl dX6_command_94 ?_
    refine xr_callSI (na := 3) (pc := 96) X [.ref (ad (oo0 + 3)), .int zz1, .int zz2] (c_X6_canWrite Γ.2.1 hI 187 (oo0 + 3) hh0.2.2.2.1 zz1 zz2 σ5) (wG_S wm_11_11 wm_11_9 wm_11_10 wm_1_5) rfl rfl rfl (by decide +kernel) ⟨Nat.le_of_ble_eq_true rfl, Nat.le_of_ble_eq_true rfl⟩ rfl rfl (Nat.le_of_ble_eq_true rfl) ⟨Nat.le_of_ble_eq_true rfl, Nat.le_of_ble_eq_true rfl⟩ dX6_command_96 (fun zz8 σ7 => ?_)
    refine xr_if_eq (pc := 99) X 119 (by decide) dX6_command_99 (fun _ => ?_) (fun _ => ?_)
    · refine xr_iconst (pc := 119) X dX6_command_119 (v := 0) (by decide) ?_
      exact xr_zret (pc := 120) X rfl (Nat.le_refl _) (Nat.le_refl _) dX6_command_120
    refine xr_aload_n (pc := 102) X (i := 0) 0 rfl rfl dX6_command_102 ?_
    refine xgX6 (pc := 103) X (oo0) hh0.1 4 wm_5_22 rfl rfl (by decide) rfl dX6_command_103 ?_
    refine xr_iload_n (pc := 106) X (i := 3) 3 rfl rfl dX6_command_106 ?_
    refine xr_iload (pc := 107) X (i := 4) 4 rfl dX6_command_107 ?_
    refine xr_callSI (na := 3) (pc := 109) X [.ref (ad (oo0 + 3)), .int zz1, .int zz2] (c_X6_writeOn Γ.2.1 hI 187 (oo0 + 3) hh0.2.2.2.1 zz1 zz2 σ7) (wG_S wm_11_17 wm_11_15 wm_11_16 wm_1_5) rfl rfl rfl (by decide +kernel) ⟨Nat.le_of_ble_eq_true rfl, Nat.le_of_ble_eq_true rfl⟩ rfl rfl (Nat.le_of_ble_eq_true rfl) ⟨Nat.le_of_ble_eq_true rfl, Nat.le_of_ble_eq_true rfl⟩ dX6_command_109 (fun zz10 σ9 => ?_)
    refine xr_if_lt (pc := 112) X 119 (by decide) dX6_command_112 (fun _ => ?_) (fun _ => ?_)
    · refine xr_iconst (pc := 119) X dX6_command_119 (v := 0) (by decide) ?_
      exact xr_zret (pc := 120) X rfl (Nat.le_refl _) (Nat.le_refl _) dX6_command_120
    refine xr_iconst (pc := 115) X dX6_command_115 (v := 1) (by decide) ?_
    refine xr_goto (pc := 116) X 120 (by decide) dX6_command_116 ?_
    exact xr_zret (pc := 120) X rfl (Nat.le_refl _) (Nat.le_refl _) dX6_command_120
  refine x_if (fun hcc16 => ?_) (fun hcc16 => ?_)
  · refine xr_tin (off := 97) (pc := 24) X 121 dX6_command_24 (by rw [hcc16]; decide) (by rw [hcc16]; decide) (by rw [hcc16]; rfl) (by decide) ?_
    refine xr_aload_n (pc := 121) X (i := 0) 0 rfl rfl dX6_command_121 ?_
    refine xr_iload_n (pc := 122) X (i := 2) 2 rfl rfl dX6_command_122 ?_
    refine xr_callVI (na := 1) (pc := 123) X (oo0) [.int pp2] _ (c_X6_mayTick Γ.2.1 hI oo0 hh0 pp2 σ3) (wG_V wm_31_21 wm_31_18 wm_31_19 wm_31_20 wm_1_5) rfl rfl rfl (by decide +kernel) ⟨Nat.le_of_ble_eq_true rfl, Nat.le_of_ble_eq_true rfl⟩ hh0.1.1 hh0.1.2 rfl (T := TX6) (C := RX6) rfl rfl rfl (Nat.le_of_ble_eq_true rfl) ⟨Nat.le_of_ble_eq_true rfl, Nat.le_of_ble_eq_true rfl⟩ dX6_command_123 (fun zz13 σ12 => ?_)
    refine xr_if_eq (pc := 126) X 144 (by decide) dX6_command_126 (fun _ => ?_) (fun _ => ?_)
    · refine xr_iconst (pc := 144) X dX6_command_144 (v := 0) (by decide) ?_
      exact xr_zret (pc := 145) X rfl (Nat.le_refl _) (Nat.le_refl _) dX6_command_145
    refine xr_aload_n (pc := 129) X (i := 0) 0 rfl rfl dX6_command_129 ?_
    refine xgX6 (pc := 130) X (oo0) hh0.1 4 wm_5_22 rfl rfl (by decide) rfl dX6_command_130 ?_
    refine xr_iload_n (pc := 133) X (i := 2) 2 rfl rfl dX6_command_133 ?_
    refine xr_callSI (na := 2) (pc := 134) X [.ref (ad (oo0 + 3)), .int pp2] (c_X6_ticksOn Γ.2.1 hI 187 (oo0 + 3) hh0.2.2.2.1 pp2 σ12) (wG_S wm_12_15 wm_12_13 wm_12_14 wm_1_5) rfl rfl rfl (by decide +kernel) ⟨Nat.le_of_ble_eq_true rfl, Nat.le_of_ble_eq_true rfl⟩ rfl rfl (Nat.le_of_ble_eq_true rfl) ⟨Nat.le_of_ble_eq_true rfl, Nat.le_of_ble_eq_true rfl⟩ dX6_command_134 (fun zz15 σ14 => ?_)
    refine xr_if_lt (pc := 137) X 144 (by decide) dX6_command_137 (fun _ => ?_) (fun _ => ?_)
    · refine xr_iconst (pc := 144) X dX6_command_144 (v := 0) (by decide) ?_
      exact xr_zret (pc := 145) X rfl (Nat.le_refl _) (Nat.le_refl _) dX6_command_145
    refine xr_iconst (pc := 140) X dX6_command_140 (v := 1) (by decide) ?_
    refine xr_goto (pc := 141) X 145 (by decide) dX6_command_141 ?_
    exact xr_zret (pc := 145) X rfl (Nat.le_refl _) (Nat.le_refl _) dX6_command_145
  refine x_if (fun hcc23 => ?_) (fun hcc23 => ?_)
  · refine xr_tin (off := 122) (pc := 24) X 146 dX6_command_24 (by rw [hcc23]; decide) (by rw [hcc23]; decide) (by rw [hcc23]; rfl) (by decide) ?_
    refine xr_iload (pc := 146) X (i := 5) 5 rfl dX6_command_146 ?_
    refine xr_if_eq (pc := 148) X 183 (by decide) dX6_command_148 (fun _ => ?_) (fun _ => ?_)
    · refine xr_iconst (pc := 183) X dX6_command_183 (v := 0) (by decide) ?_
      exact xr_zret (pc := 184) X rfl (Nat.le_refl _) (Nat.le_refl _) dX6_command_184
    refine xr_iload (pc := 151) X (i := 4) 4 rfl dX6_command_151 ?_
    refine xr_iconst (pc := 153) X dX6_command_153 (v := 2) (by decide) ?_
    refine xr_icmp_ge (pc := 154) X 183 (by decide) dX6_command_154 (fun _ => ?_) (fun _ => ?_)
    · refine xr_iconst (pc := 183) X dX6_command_183 (v := 0) (by decide) ?_
      exact xr_zret (pc := 184) X rfl (Nat.le_refl _) (Nat.le_refl _) dX6_command_184
    refine xr_aload_n (pc := 157) X (i := 0) 0 rfl rfl dX6_command_157 ?_
    refine xgX6 (pc := 158) X (oo0) hh0.1 4 wm_5_22 rfl rfl (by decide) rfl dX6_command_158 ?_
    refine xr_iload_n (pc := 161) X (i := 3) 3 rfl rfl dX6_command_161 ?_
    refine xr_iload (pc := 162) X (i := 4) 4 rfl dX6_command_162 ?_
    refine xr_iconst (pc := 164) X dX6_command_164 (v := 1) (by decide) ?_
    refine x_jn (fun (KK21 : Int32 → xS → Option (Int32 × xS)) => ∀ zz17 σ18, xM Γ D ad N Sh (xQI Γ D ad N Sh 0 0) 0 0 (KK21 zz17 σ18) σ18 173 [] [.int zz17, .int zz1, .ref (ad (oo0 + 3))]) (fun zz17 σ18 => ?_) (fun KK21 hKK22 => ?_)
    · refine xr_callSI (na := 3) (pc := 173) X [.ref (ad (oo0 + 3)), .int zz1, .int zz17] (c_X6_holdOn Γ.2.1 hI 187 (oo0 + 3) hh0.2.2.2.1 zz1 zz17 σ18) (wG_S wm_12_12 wm_12_10 wm_12_11 wm_1_5) rfl rfl rfl (by decide +kernel) ⟨Nat.le_of_ble_eq_true rfl, Nat.le_of_ble_eq_true rfl⟩ rfl rfl (Nat.le_of_ble_eq_true rfl) ⟨Nat.le_of_ble_eq_true rfl, Nat.le_of_ble_eq_true rfl⟩ dX6_command_173 (fun zz20 σ19 => ?_)
      refine xr_if_lt (pc := 176) X 183 (by decide) dX6_command_176 (fun _ => ?_) (fun _ => ?_)
      · refine xr_iconst (pc := 183) X dX6_command_183 (v := 0) (by decide) ?_
        exact xr_zret (pc := 184) X rfl (Nat.le_refl _) (Nat.le_refl _) dX6_command_184
      refine xr_iconst (pc := 179) X dX6_command_179 (v := 1) (by decide) ?_
      refine xr_goto (pc := 180) X 184 (by decide) dX6_command_180 ?_
      exact xr_zret (pc := 184) X rfl (Nat.le_refl _) (Nat.le_refl _) dX6_command_184
    refine xr_icmp_ne (pc := 165) X 172 (by decide) dX6_command_165 (fun _ => ?_) (fun _ => ?_)
    · refine xr_iconst (pc := 172) X dX6_command_172 (v := 0) (by decide) ?_
      exact x_sub [] rfl (hKK22 _ _)
    refine xr_iconst (pc := 168) X dX6_command_168 (v := 1) (by decide) ?_
    refine xr_goto (pc := 169) X 173 (by decide) dX6_command_169 ?_
    exact x_sub [] rfl (hKK22 _ _)
  refine x_if (fun hcc26 => ?_) (fun hcc26 => ?_)
  · refine xr_tin (off := 161) (pc := 24) X 185 dX6_command_24 (by rw [hcc26]; decide) (by rw [hcc26]; decide) (by rw [hcc26]; rfl) (by decide) ?_
    refine xr_iload (pc := 185) X (i := 5) 5 rfl dX6_command_185 ?_
    refine xr_if_eq (pc := 187) X 211 (by decide) dX6_command_187 (fun _ => ?_) (fun _ => ?_)
    · refine xr_iconst (pc := 211) X dX6_command_211 (v := 0) (by decide) ?_
      exact xr_zret (pc := 212) X rfl (Nat.le_refl _) (Nat.le_refl _) dX6_command_212
    refine xr_iload (pc := 190) X (i := 4) 4 rfl dX6_command_190 ?_
    refine xr_if_ne (pc := 192) X 211 (by decide) dX6_command_192 (fun _ => ?_) (fun _ => ?_)
    · refine xr_iconst (pc := 211) X dX6_command_211 (v := 0) (by decide) ?_
      exact xr_zret (pc := 212) X rfl (Nat.le_refl _) (Nat.le_refl _) dX6_command_212
    refine xr_aload_n (pc := 195) X (i := 0) 0 rfl rfl dX6_command_195 ?_
    refine xgX6 (pc := 196) X (oo0) hh0.1 4 wm_5_22 rfl rfl (by decide) rfl dX6_command_196 ?_
    refine xr_iload_n (pc := 199) X (i := 3) 3 rfl rfl dX6_command_199 ?_
    refine xr_iconst (pc := 200) X dX6_command_200 (v := 0) (by decide) ?_
    refine xr_callSI (na := 3) (pc := 201) X [.ref (ad (oo0 + 3)), .int zz1, .int 0] (c_X6_sends Γ.2.1 hI 187 (oo0 + 3) hh0.2.2.2.1 zz1 0 σ3) (wG_S wm_11_23 wm_11_21 wm_11_22 wm_1_5) rfl rfl rfl (by decide +kernel) ⟨Nat.le_of_ble_eq_true rfl, Nat.le_of_ble_eq_true rfl⟩ rfl rfl (Nat.le_of_ble_eq_true rfl) ⟨Nat.le_of_ble_eq_true rfl, Nat.le_of_ble_eq_true rfl⟩ dX6_command_201 (fun zz25 σ24 => ?_)
    refine xr_if_lt (pc := 204) X 211 (by decide) dX6_command_204 (fun _ => ?_) (fun _ => ?_)
    · refine xr_iconst (pc := 211) X dX6_command_211 (v := 0) (by decide) ?_
      exact xr_zret (pc := 212) X rfl (Nat.le_refl _) (Nat.le_refl _) dX6_command_212
    refine xr_iconst (pc := 207) X dX6_command_207 (v := 1) (by decide) ?_
    refine xr_goto (pc := 208) X 212 (by decide) dX6_command_208 ?_
    exact xr_zret (pc := 212) X rfl (Nat.le_refl _) (Nat.le_refl _) dX6_command_212
  refine x_if (fun hcc30 => ?_) (fun hcc30 => ?_)
  · refine xr_tin (off := 189) (pc := 24) X 213 dX6_command_24 (by rw [hcc30]; decide) (by rw [hcc30]; decide) (by rw [hcc30]; rfl) (by decide) ?_
    refine xr_iload (pc := 213) X (i := 4) 4 rfl dX6_command_213 ?_
    refine xr_bipush (pc := 215) X dX6_command_215 (v := 99) (by decide) ?_
    refine xr_icmp_gt (pc := 217) X 229 (by decide) dX6_command_217 (fun _ => ?_) (fun _ => ?_)
    · refine xr_iconst (pc := 229) X dX6_command_229 (v := 0) (by decide) ?_
      exact xr_zret (pc := 230) X rfl (Nat.le_refl _) (Nat.le_refl _) dX6_command_230
    refine xr_iload_n (pc := 220) X (i := 3) 3 rfl rfl dX6_command_220 ?_
    refine xr_iload (pc := 221) X (i := 4) 4 rfl dX6_command_221 ?_
    refine xr_callSI (na := 2) (pc := 223) X [.int zz1, .int zz2] (c_X6_isSetting Γ.2.1 hI zz1 zz2 σ3) (wG_S wm_27_5 wm_27_3 wm_27_4 wm_1_5) rfl rfl rfl (by decide +kernel) ⟨Nat.le_of_ble_eq_true rfl, Nat.le_of_ble_eq_true rfl⟩ rfl rfl (Nat.le_of_ble_eq_true rfl) ⟨Nat.le_of_ble_eq_true rfl, Nat.le_of_ble_eq_true rfl⟩ dX6_command_223 (fun zz28 σ27 => ?_)
    refine xr_if_ne (pc := 226) X 231 (by decide) dX6_command_226 (fun _ => ?_) (fun _ => ?_)
    · refine xr_aload_n (pc := 231) X (i := 0) 0 rfl rfl dX6_command_231 ?_
      refine xgX6 (pc := 232) X (oo0) hh0.1 4 wm_5_22 rfl rfl (by decide) rfl dX6_command_232 ?_
      refine xr_iconst (pc := 235) X dX6_command_235 (v := 3) (by decide) ?_
      refine xr_iload_n (pc := 236) X (i := 3) 3 rfl rfl dX6_command_236 ?_
      refine xr_iadd (pc := 237) X dX6_command_237 ?_
      refine xr_iload (pc := 238) X (i := 4) 4 rfl dX6_command_238 ?_
      refine xr_iast (pc := 240) X (oo0 + 3) (187) hh0.2.2.2.1.1 hh0.2.2.2.1.2 dX6_command_240 (fun σ29 => ?_)
      refine xr_iconst (pc := 241) X dX6_command_241 (v := 1) (by decide) ?_
      exact xr_zret (pc := 242) X rfl (Nat.le_refl _) (Nat.le_refl _) dX6_command_242
    refine xr_iconst (pc := 229) X dX6_command_229 (v := 0) (by decide) ?_
    exact xr_zret (pc := 230) X rfl (Nat.le_refl _) (Nat.le_refl _) dX6_command_230
  refine x_if (fun hcc33 => ?_) (fun hcc33 => ?_)
  · refine xr_tin (off := 219) (pc := 24) X 243 dX6_command_24 (by rw [hcc33]; decide) (by rw [hcc33]; decide) (by rw [hcc33]; rfl) (by decide) ?_
    refine xr_iload (pc := 243) X (i := 5) 5 rfl dX6_command_243 ?_
    refine xr_if_eq (pc := 245) X 274 (by decide) dX6_command_245 (fun _ => ?_) (fun _ => ?_)
    · refine xr_iconst (pc := 274) X dX6_command_274 (v := 0) (by decide) ?_
      exact xr_zret (pc := 275) X rfl (Nat.le_refl _) (Nat.le_refl _) dX6_command_275
    refine xr_iload (pc := 248) X (i := 4) 4 rfl dX6_command_248 ?_
    refine xr_bipush (pc := 250) X dX6_command_250 (v := 100) (by decide) ?_
    refine xr_icmp_ge (pc := 252) X 274 (by decide) dX6_command_252 (fun _ => ?_) (fun _ => ?_)
    · refine xr_iconst (pc := 274) X dX6_command_274 (v := 0) (by decide) ?_
      exact xr_zret (pc := 275) X rfl (Nat.le_refl _) (Nat.le_refl _) dX6_command_275
    refine xr_aload_n (pc := 255) X (i := 0) 0 rfl rfl dX6_command_255 ?_
    refine xgX6 (pc := 256) X (oo0) hh0.1 4 wm_5_22 rfl rfl (by decide) rfl dX6_command_256 ?_
    refine xr_iload_n (pc := 259) X (i := 3) 3 rfl rfl dX6_command_259 ?_
    refine xr_bipush (pc := 260) X dX6_command_260 (v := 6) (by decide) ?_
    refine xr_callSI (na := 3) (pc := 262) X [.ref (ad (oo0 + 3)), .int zz1, .int 6] (c_X6_of Γ.2.1 hI 187 (oo0 + 3) hh0.2.2.2.1 zz1 6 σ3) (wG_S wm_11_14 wm_11_12 wm_11_13 wm_1_5) rfl rfl rfl (by decide +kernel) ⟨Nat.le_of_ble_eq_true rfl, Nat.le_of_ble_eq_true rfl⟩ rfl rfl (Nat.le_of_ble_eq_true rfl) ⟨Nat.le_of_ble_eq_true rfl, Nat.le_of_ble_eq_true rfl⟩ dX6_command_262 (fun zz32 σ31 => ?_)
    refine xr_iload (pc := 265) X (i := 4) 4 rfl dX6_command_265 ?_
    refine xr_icmp_gt (pc := 267) X 274 (by decide) dX6_command_267 (fun _ => ?_) (fun _ => ?_)
    · refine xr_iconst (pc := 274) X dX6_command_274 (v := 0) (by decide) ?_
      exact xr_zret (pc := 275) X rfl (Nat.le_refl _) (Nat.le_refl _) dX6_command_275
    refine xr_iconst (pc := 270) X dX6_command_270 (v := 1) (by decide) ?_
    refine xr_goto (pc := 271) X 275 (by decide) dX6_command_271 ?_
    exact xr_zret (pc := 275) X rfl (Nat.le_refl _) (Nat.le_refl _) dX6_command_275
  refine x_if (fun hcc36 => ?_) (fun hcc36 => ?_)
  · refine xr_tin (off := 252) (pc := 24) X 276 dX6_command_24 (by rw [hcc36]; decide) (by rw [hcc36]; decide) (by rw [hcc36]; rfl) (by decide) ?_
    refine xr_iload (pc := 276) X (i := 5) 5 rfl dX6_command_276 ?_
    refine xr_if_eq (pc := 278) X 299 (by decide) dX6_command_278 (fun _ => ?_) (fun _ => ?_)
    · refine xr_iconst (pc := 299) X dX6_command_299 (v := 0) (by decide) ?_
      exact xr_zret (pc := 300) X rfl (Nat.le_refl _) (Nat.le_refl _) dX6_command_300
    refine xr_aload_n (pc := 281) X (i := 0) 0 rfl rfl dX6_command_281 ?_
    refine xgX6 (pc := 282) X (oo0) hh0.1 4 wm_5_22 rfl rfl (by decide) rfl dX6_command_282 ?_
    refine xr_iload_n (pc := 285) X (i := 3) 3 rfl rfl dX6_command_285 ?_
    refine xr_iconst (pc := 286) X dX6_command_286 (v := 0) (by decide) ?_
    refine xr_callSI (na := 3) (pc := 287) X [.ref (ad (oo0 + 3)), .int zz1, .int 0] (c_X6_of Γ.2.1 hI 187 (oo0 + 3) hh0.2.2.2.1 zz1 0 σ3) (wG_S wm_11_14 wm_11_12 wm_11_13 wm_1_5) rfl rfl rfl (by decide +kernel) ⟨Nat.le_of_ble_eq_true rfl, Nat.le_of_ble_eq_true rfl⟩ rfl rfl (Nat.le_of_ble_eq_true rfl) ⟨Nat.le_of_ble_eq_true rfl, Nat.le_of_ble_eq_true rfl⟩ dX6_command_287 (fun zz35 σ34 => ?_)
    refine xr_iload (pc := 290) X (i := 4) 4 rfl dX6_command_290 ?_
    refine xr_icmp_gt (pc := 292) X 299 (by decide) dX6_command_292 (fun _ => ?_) (fun _ => ?_)
    · refine xr_iconst (pc := 299) X dX6_command_299 (v := 0) (by decide) ?_
      exact xr_zret (pc := 300) X rfl (Nat.le_refl _) (Nat.le_refl _) dX6_command_300
    refine xr_iconst (pc := 295) X dX6_command_295 (v := 1) (by decide) ?_
    refine xr_goto (pc := 296) X 300 (by decide) dX6_command_296 ?_
    exact xr_zret (pc := 300) X rfl (Nat.le_refl _) (Nat.le_refl _) dX6_command_300
  refine x_if (fun hcc39 => ?_) (fun hcc39 => ?_)
  · refine xr_tin (off := 277) (pc := 24) X 301 dX6_command_24 (by rw [hcc39]; decide) (by rw [hcc39]; decide) (by rw [hcc39]; rfl) (by decide) ?_
    refine xr_iload (pc := 301) X (i := 5) 5 rfl dX6_command_301 ?_
    refine xr_if_eq (pc := 303) X 320 (by decide) dX6_command_303 (fun _ => ?_) (fun _ => ?_)
    · refine xr_iconst (pc := 320) X dX6_command_320 (v := 0) (by decide) ?_
      exact xr_zret (pc := 321) X rfl (Nat.le_refl _) (Nat.le_refl _) dX6_command_321
    refine xr_aload_n (pc := 306) X (i := 0) 0 rfl rfl dX6_command_306 ?_
    refine xr_iload_n (pc := 307) X (i := 3) 3 rfl rfl dX6_command_307 ?_
    refine xr_iload (pc := 308) X (i := 4) 4 rfl dX6_command_308 ?_
    refine xr_callVI (na := 2) (pc := 310) X (oo0) [.int zz1, .int zz2] _ (c_X6_isDoneIn Γ.2.1 hI oo0 hh0 zz1 zz2 σ3) (wG_V wm_32_1 wm_31_22 wm_31_23 wm_32_0 wm_1_5) rfl rfl rfl (by decide +kernel) ⟨Nat.le_of_ble_eq_true rfl, Nat.le_of_ble_eq_true rfl⟩ hh0.1.1 hh0.1.2 rfl (T := TX6) (C := RX6) rfl rfl rfl (Nat.le_of_ble_eq_true rfl) ⟨Nat.le_of_ble_eq_true rfl, Nat.le_of_ble_eq_true rfl⟩ dX6_command_310 (fun zz38 σ37 => ?_)
    refine xr_if_eq (pc := 313) X 320 (by decide) dX6_command_313 (fun _ => ?_) (fun _ => ?_)
    · refine xr_iconst (pc := 320) X dX6_command_320 (v := 0) (by decide) ?_
      exact xr_zret (pc := 321) X rfl (Nat.le_refl _) (Nat.le_refl _) dX6_command_321
    refine xr_iconst (pc := 316) X dX6_command_316 (v := 1) (by decide) ?_
    refine xr_goto (pc := 317) X 321 (by decide) dX6_command_317 ?_
    exact xr_zret (pc := 321) X rfl (Nat.le_refl _) (Nat.le_refl _) dX6_command_321
  refine x_if (fun hcc42 => ?_) (fun hcc42 => ?_)
  · refine xr_tin (off := 298) (pc := 24) X 322 dX6_command_24 (by rw [hcc42]; decide) (by rw [hcc42]; decide) (by rw [hcc42]; rfl) (by decide) ?_
    refine xr_iload_n (pc := 322) X (i := 2) 2 rfl rfl dX6_command_322 ?_
    refine xr_bipush (pc := 323) X dX6_command_323 (v := 100) (by decide) ?_
    refine xr_icmp_ge (pc := 325) X 345 (by decide) dX6_command_325 (fun _ => ?_) (fun _ => ?_)
    · refine xr_iconst (pc := 345) X dX6_command_345 (v := 0) (by decide) ?_
      exact xr_zret (pc := 346) X rfl (Nat.le_refl _) (Nat.le_refl _) dX6_command_346
    refine xr_aload_n (pc := 328) X (i := 0) 0 rfl rfl dX6_command_328 ?_
    refine xgX6 (pc := 329) X (oo0) hh0.1 4 wm_5_22 rfl rfl (by decide) rfl dX6_command_329 ?_
    refine xr_bipush (pc := 332) X dX6_command_332 (v := 12) (by decide) ?_
    refine xr_callSI (na := 2) (pc := 334) X [.ref (ad (oo0 + 3)), .int 12] (c_X6_sum Γ.2.1 hI 187 (oo0 + 3) hh0.2.2.2.1 12 σ3) (wG_S wm_12_18 wm_12_16 wm_12_17 wm_1_5) rfl rfl rfl (by decide +kernel) ⟨Nat.le_of_ble_eq_true rfl, Nat.le_of_ble_eq_true rfl⟩ rfl rfl (Nat.le_of_ble_eq_true rfl) ⟨Nat.le_of_ble_eq_true rfl, Nat.le_of_ble_eq_true rfl⟩ dX6_command_334 (fun zz41 σ40 => ?_)
    refine xr_iload_n (pc := 337) X (i := 2) 2 rfl rfl dX6_command_337 ?_
    refine xr_icmp_gt (pc := 338) X 345 (by decide) dX6_command_338 (fun _ => ?_) (fun _ => ?_)
    · refine xr_iconst (pc := 345) X dX6_command_345 (v := 0) (by decide) ?_
      exact xr_zret (pc := 346) X rfl (Nat.le_refl _) (Nat.le_refl _) dX6_command_346
    refine xr_iconst (pc := 341) X dX6_command_341 (v := 1) (by decide) ?_
    refine xr_goto (pc := 342) X 346 (by decide) dX6_command_342 ?_
    exact xr_zret (pc := 346) X rfl (Nat.le_refl _) (Nat.le_refl _) dX6_command_346
  refine xr_tout (pc := 24) X 347 dX6_command_24 (by have g0 := xne hcc11 (j := 1) (by decide); have g1 := xne hcc16 (j := 2) (by decide); have g2 := xne hcc23 (j := 3) (by decide); have g3 := xne hcc26 (j := 4) (by decide); have g4 := xne hcc30 (j := 5) (by decide); have g5 := xne hcc33 (j := 6) (by decide); have g6 := xne hcc36 (j := 7) (by decide); have g7 := xne hcc39 (j := 8) (by decide); have g8 := xne hcc42 (j := 9) (by decide); omega) (by decide) ?_
  refine xr_iconst (pc := 347) X dX6_command_347 (v := 0) (by decide) ?_
  exact xr_zret (pc := 348) X rfl (Nat.le_refl _) (Nat.le_refl _) dX6_command_348
def L_X6_runScript_86 (oo0 : Nat) (pp1 : Int32) (pp2 : Int64) (KK12 : Int32 → xS → Option (Int32 × xS)) (KK15 : xS → Option (Int32 × xS)) : Nat → Int64 → Int32 → xS → Option (Int32 × xS)
  | 0, _, _, _ => none
  | nn_20 + 1, zz17, zz18, σ19 => if pp1 ≤ zz18 then (KK15 σ19)
 else (xlet (zz17 / 100000) (fun (zz22 : Int64) => if ¬ zz22 = 0 then (xlet (((pp2 / zz22) - (pp2 / zz22) / 100000 * 100000).toInt32) (fun (zz24 : Int32) => xbI (F_X6_command oo0 (zz24 / 10000) (zz24 - zz24 / 10000 * 10000) σ19) (fun (zz26 : Int32) (σ25 : xS) => if ¬ zz26 = 0 then (xlet (zz18 + 1) (fun (zz27 : Int32) => L_X6_runScript_86 oo0 pp1 pp2 KK12 KK15 nn_20 zz22 zz27 σ25))
 else (KK12 zz18 σ25)))) else none))
def L_X6_runScript_6 (pp1 : Int32) (KK36 : Int64 → xS → Option (Int32 × xS)) : Nat → Int64 → Int32 → xS → Option (Int32 × xS)
  | 0, _, _, _ => none
  | nn_41 + 1, zz38, zz39, σ40 => if pp1 ≤ zz39 then (KK36 zz38 σ40)
 else (if 3 ≤ zz39 then (KK36 zz38 σ40)
 else (xlet (zz38 * 100000) (fun (zz43 : Int64) => xlet (zz39 + 1) (fun (zz44 : Int32) => L_X6_runScript_6 pp1 KK36 nn_41 zz43 zz44 σ40))))
def F_X6_runScript (oo0 : Nat) (pp1 : Int32) (pp2 : Int64) (σ : xS) : Option (Int32 × xS) :=
  L_X6_runScript_6 pp1 (fun (zz1 : Int64) (σ2 : xS) => xbI (F_X6_in pp1.toInt64 1 3 σ2) (fun (zz4 : Int32) (σ3 : xS) => xjn (fun (zz5 : Int32) (σ6 : xS) => xbI (F_X6_refused oo0 zz5 σ6) (fun (zz8 : Int32) (σ7 : xS) => if zz8 = 0 then (xbV (F_X6_copyState 187 (oo0 + 2) 0 187 (oo0 + 3) 0 σ7) (fun (σ9 : xS) => L_X6_runScript_86 oo0 pp1 pp2 (fun (zz10 : Int32) (σ11 : xS) => some (zz10, σ11)) (fun (σ14 : xS) => some ((-1 : Int32), σ14)) 1000 zz1 0 σ9))
 else (some ((0 : Int32), σ7))))
 (fun (KK29 : Int32 → xS → Option (Int32 × xS)) => xjn (fun (σ31 : xS) => KK29 1 σ31)
 (fun (KK32 : xS → Option (Int32 × xS)) => if zz4 = 0 then (KK32 σ3)
 else (xbI (F_X6_in pp2 0 (zz1 - 1) σ3) (fun (zz35 : Int32) (σ34 : xS) => if zz35 = 0 then (KK32 σ34)
 else (KK29 0 σ34))))))) 1000 1 0 σ
abbrev rm_X6_runScript : Room := { frames := 10, cells := 0, slots := 0, locals := 231 }
set_option maxHeartbeats 4000000 in
set_option maxRecDepth 100000 in
theorem c_X6_runScript (l : Launch) {D : va_G} {ad : Nat → Nat} {N : Nat} {Sh : xSh} (hI : ∀ i j, i < N → j < N → ad i = ad j → i = j) (oo0 : Nat) (hh0 : xIs6 D ad N Sh oo0) (pp1 : Int32) (pp2 : Int64) (σ : xS) : xKI l yX6_runScript (Cond.code yX6_runScript cX6_runScript 8 (some .int) :: wG) rm_X6_runScript 0 0 D ad N Sh [.ref (ad oo0), .int pp1, .long pp2] σ (F_X6_runScript oo0 pp1 pp2 σ) := by
  refine x_startI (own := RX6) (maxL := 8) (by decide) rfl rfl (Nat.le_of_ble_eq_true rfl) rfl hI (fun Γ hl hnL X => ?_)
  subst hl
  unfold F_X6_runScript
  refine xr_lconst (pc := 0) X dX6_runScript_0 (v := 1) rfl ?_
  refine xr_lstore (pc := 1) X (i := 4) [1, 2, 3, 0] (Nat.le_of_ble_eq_true rfl) hnL rfl dX6_runScript_1 ?_
  refine xr_iconst (pc := 3) X dX6_runScript_3 (v := 0) (by decide) ?_
  refine xr_istore (pc := 4) X (i := 6) [1, 2, 3, 4, 0] (Nat.le_of_ble_eq_true rfl) hnL rfl dX6_runScript_4 ?_
  have hLL45 : ∀ (KK36 : Int64 → xS → Option (Int32 × xS)) (hKK37 : ∀ zz1 σ2, xM Γ D ad N Sh (xQI Γ D ad N Sh 0 0) 0 0 (KK36 zz1 σ2) σ2 32 [(0, .ref (ad oo0)), (1, .int pp1), (2, .long pp2), (4, .long zz1)] []), ∀ (nn_41 : Nat) zz38 zz39 σ40, xM Γ D ad N Sh (xQI Γ D ad N Sh 0 0) 0 0 (L_X6_runScript_6 pp1 KK36 nn_41 zz38 zz39 σ40) σ40 6 [(0, .ref (ad oo0)), (1, .int pp1), (2, .long pp2), (4, .long zz38), (6, .int zz39)] [] := by
    intro KK36 hKK37 nn_41
    induction nn_41 with
    | zero => intro zz38 zz39 σ40; exact xM_none
    | succ nn_41 ihh42 =>
      intro zz38 zz39 σ40
      rw [L_X6_runScript_6]
      refine xr_iload (pc := 6) X (i := 6) 4 rfl dX6_runScript_6 ?_
      refine xr_iload_n (pc := 8) X (i := 1) 1 rfl rfl dX6_runScript_8 ?_
      refine xr_icmp_ge (pc := 9) X 32 (by decide) dX6_runScript_9 (fun _ => ?_) (fun _ => ?_)
      · exact x_sub [0, 1, 2, 3] rfl (hKK37 _ _)
      refine xr_iload (pc := 12) X (i := 6) 4 rfl dX6_runScript_12 ?_
      refine xr_iconst (pc := 14) X dX6_runScript_14 (v := 3) (by decide) ?_
      refine xr_icmp_ge (pc := 15) X 32 (by decide) dX6_runScript_15 (fun _ => ?_) (fun _ => ?_)
      · exact x_sub [0, 1, 2, 3] rfl (hKK37 _ _)
      refine xr_lload (pc := 18) X (i := 4) 3 rfl dX6_runScript_18 ?_
      refine xr_ldc2 (pc := 20) X dX6_runScript_20 (List.mem_cons_of_mem _ wm_31_13) ?_
      refine xr_lmul (pc := 23) X dX6_runScript_23 ?_
      refine x_letl (fun zz43 => ?_)
      refine xr_lstore (pc := 24) X (i := 4) [1, 2, 3, 0, 4] (Nat.le_of_ble_eq_true rfl) hnL rfl dX6_runScript_24 ?_
      refine xr_iinc (pc := 26) X (i := 6) (j := 4) [1, 2, 3, 4, 0] (Nat.le_of_ble_eq_true rfl) hnL rfl rfl (fun zz44 => [(0, .ref (ad oo0)), (1, .int pp1), (2, .long pp2), (4, .long zz43), (6, .int zz44)]) (fun _ => rfl) dX6_runScript_26 (fun zz44 => ?_)
      refine xr_goto (pc := 29) X 6 (by decide) dX6_runScript_29 ?_
      exact ihh42 _ _ _
  refine hLL45 _ (fun zz1 σ2 => ?_) _ _ _ _
  refine xr_aload_n (pc := 32) X (i := 0) 0 rfl rfl dX6_runScript_32 ?_
  refine xr_iload_n (pc := 33) X (i := 1) 1 rfl rfl dX6_runScript_33 ?_
  refine xr_i2l (pc := 34) X dX6_runScript_34 ?_
  refine xr_lconst (pc := 35) X dX6_runScript_35 (v := 1) rfl ?_
  refine xr_ldc2 (pc := 36) X dX6_runScript_36 (List.mem_cons_of_mem _ wm_22_7) ?_
  refine xr_callSI (na := 3) (pc := 39) X [.long pp1.toInt64, .long 1, .long 3] (c_X6_in Γ.2.1 hI pp1.toInt64 1 3 σ2) (wG_S wm_8_1 wm_7_23 wm_8_0 wm_1_5) rfl rfl rfl (by decide +kernel) ⟨Nat.le_of_ble_eq_true rfl, Nat.le_of_ble_eq_true rfl⟩ rfl rfl (Nat.le_of_ble_eq_true rfl) ⟨Nat.le_of_ble_eq_true rfl, Nat.le_of_ble_eq_true rfl⟩ dX6_runScript_39 (fun zz4 σ3 => ?_)
  refine x_jn (fun (KK29 : Int32 → xS → Option (Int32 × xS)) => ∀ zz5 σ6, xM Γ D ad N Sh (xQI Γ D ad N Sh 0 0) 0 0 (KK29 zz5 σ6) σ6 62 [(0, .ref (ad oo0)), (1, .int pp1), (2, .long pp2), (4, .long zz1)] [.int zz5, .ref (ad oo0)]) (fun zz5 σ6 => ?_) (fun KK29 hKK30 => ?_)
  · refine xr_callVI (na := 1) (pc := 62) X (oo0) [.int zz5] _ (c_X6_refused Γ.2.1 hI oo0 hh0 zz5 σ6) (wG_V wm_8_5 wm_8_2 wm_8_3 wm_8_4 wm_1_5) rfl rfl rfl (by decide +kernel) ⟨Nat.le_of_ble_eq_true rfl, Nat.le_of_ble_eq_true rfl⟩ hh0.1.1 hh0.1.2 rfl (T := TX6) (C := RX6) rfl rfl rfl (Nat.le_of_ble_eq_true rfl) ⟨Nat.le_of_ble_eq_true rfl, Nat.le_of_ble_eq_true rfl⟩ dX6_runScript_62 (fun zz8 σ7 => ?_)
    refine xr_if_eq (pc := 65) X 70 (by decide) dX6_runScript_65 (fun _ => ?_) (fun _ => ?_)
    · refine xr_aload_n (pc := 70) X (i := 0) 0 rfl rfl dX6_runScript_70 ?_
      refine xgX6 (pc := 71) X (oo0) hh0.1 3 wm_5_21 rfl rfl (by decide) rfl dX6_runScript_71 ?_
      refine xr_iconst (pc := 74) X dX6_runScript_74 (v := 0) (by decide) ?_
      refine xr_aload_n (pc := 75) X (i := 0) 0 rfl rfl dX6_runScript_75 ?_
      refine xgX6 (pc := 76) X (oo0) hh0.1 4 wm_5_22 rfl rfl (by decide) rfl dX6_runScript_76 ?_
      refine xr_iconst (pc := 79) X dX6_runScript_79 (v := 0) (by decide) ?_
      refine xr_callSV (na := 4) (pc := 80) X [.ref (ad (oo0 + 2)), .int 0, .ref (ad (oo0 + 3)), .int 0] (c_X6_copyState Γ.2.1 hI 187 (oo0 + 2) hh0.2.2.1 0 187 (oo0 + 3) hh0.2.2.2.1 0 σ7) (wG_S wm_18_9 wm_18_7 wm_18_8 wm_1_5) rfl rfl rfl (by decide +kernel) ⟨Nat.le_of_ble_eq_true rfl, Nat.le_of_ble_eq_true rfl⟩ rfl rfl (Nat.le_of_ble_eq_true rfl) ⟨Nat.le_of_ble_eq_true rfl, Nat.le_of_ble_eq_true rfl⟩ dX6_runScript_80 (fun σ9 => ?_)
      refine xr_iconst (pc := 83) X dX6_runScript_83 (v := 0) (by decide) ?_
      refine xr_istore (pc := 84) X (i := 6) [1, 2, 3, 4, 0] (Nat.le_of_ble_eq_true rfl) hnL rfl dX6_runScript_84 ?_
      have hLL28 : ∀ (KK12 : Int32 → xS → Option (Int32 × xS)) (KK15 : xS → Option (Int32 × xS)) (hKK13 : ∀ zz10 σ11, xM Γ D ad N Sh (xQI Γ D ad N Sh 0 0) 0 0 (KK12 zz10 σ11) σ11 130 [(6, .int zz10)] []) (hKK16 : ∀ σ14, xM Γ D ad N Sh (xQI Γ D ad N Sh 0 0) 0 0 (KK15 σ14) σ14 139 [] []), ∀ (nn_20 : Nat) zz17 zz18 σ19, xM Γ D ad N Sh (xQI Γ D ad N Sh 0 0) 0 0 (L_X6_runScript_86 oo0 pp1 pp2 KK12 KK15 nn_20 zz17 zz18 σ19) σ19 86 [(0, .ref (ad oo0)), (1, .int pp1), (2, .long pp2), (4, .long zz17), (6, .int zz18)] [] := by
        intro KK12 KK15 hKK13 hKK16 nn_20
        induction nn_20 with
        | zero => intro zz17 zz18 σ19; exact xM_none
        | succ nn_20 ihh21 =>
          intro zz17 zz18 σ19
          rw [L_X6_runScript_86]
          refine xr_iload (pc := 86) X (i := 6) 4 rfl dX6_runScript_86 ?_
          refine xr_iload_n (pc := 88) X (i := 1) 1 rfl rfl dX6_runScript_88 ?_
          refine xr_icmp_ge (pc := 89) X 139 (by decide) dX6_runScript_89 (fun _ => ?_) (fun _ => ?_)
          · exact x_sub [] rfl (hKK16  _)
          refine xr_lload (pc := 92) X (i := 4) 3 rfl dX6_runScript_92 ?_
          refine xr_ldc2 (pc := 94) X dX6_runScript_94 (List.mem_cons_of_mem _ wm_31_13) ?_
          refine xr_ldiv (pc := 97) X (by decide) dX6_runScript_97 ?_
          refine x_letl (fun zz22 => ?_)
          refine xr_lstore (pc := 98) X (i := 4) [1, 2, 3, 0, 4] (Nat.le_of_ble_eq_true rfl) hnL rfl dX6_runScript_98 ?_
          refine xr_lload_n (pc := 100) X (i := 2) 2 rfl rfl dX6_runScript_100 ?_
          refine xr_lload (pc := 101) X (i := 4) 3 rfl dX6_runScript_101 ?_
          refine x_gd (fun hzz23 => ?_)
          refine xr_ldiv (pc := 103) X hzz23 dX6_runScript_103 ?_
          refine xr_ldc2 (pc := 104) X dX6_runScript_104 (List.mem_cons_of_mem _ wm_31_13) ?_
          refine xr_lrem (pc := 107) X (by decide) dX6_runScript_107 ?_
          refine xr_l2i (pc := 108) X dX6_runScript_108 ?_
          refine x_leti (fun zz24 => ?_)
          refine xr_istore (pc := 109) X (i := 7) [1, 2, 3, 4, 5, 0] (Nat.le_of_ble_eq_true rfl) hnL rfl dX6_runScript_109 ?_
          refine xr_aload_n (pc := 111) X (i := 0) 0 rfl rfl dX6_runScript_111 ?_
          refine xr_iload (pc := 112) X (i := 7) 5 rfl dX6_runScript_112 ?_
          refine xr_sipush (pc := 114) X dX6_runScript_114 (v := 10000) (by decide) ?_
          refine xr_idiv (pc := 117) X (by decide) dX6_runScript_117 ?_
          refine xr_iload (pc := 118) X (i := 7) 5 rfl dX6_runScript_118 ?_
          refine xr_sipush (pc := 120) X dX6_runScript_120 (v := 10000) (by decide) ?_
          refine xr_irem (pc := 123) X (by decide) dX6_runScript_123 ?_
          refine xr_callVI (na := 2) (pc := 124) X (oo0) [.int (zz24 / 10000), .int (zz24 - zz24 / 10000 * 10000)] _ (c_X6_command Γ.2.1 hI oo0 hh0 (zz24 / 10000) (zz24 - zz24 / 10000 * 10000) σ19) (wG_V wm_31_17 wm_31_14 wm_31_15 wm_31_16 wm_1_5) rfl rfl rfl (by decide +kernel) ⟨Nat.le_of_ble_eq_true rfl, Nat.le_of_ble_eq_true rfl⟩ hh0.1.1 hh0.1.2 rfl (T := TX6) (C := RX6) rfl rfl rfl (Nat.le_of_ble_eq_true rfl) ⟨Nat.le_of_ble_eq_true rfl, Nat.le_of_ble_eq_true rfl⟩ dX6_runScript_124 (fun zz26 σ25 => ?_)
          refine xr_if_ne (pc := 127) X 133 (by decide) dX6_runScript_127 (fun _ => ?_) (fun _ => ?_)
          · refine xr_iinc (pc := 133) X (i := 6) (j := 4) [1, 2, 3, 4, 0, 5] (Nat.le_of_ble_eq_true rfl) hnL rfl rfl (fun zz27 => [(0, .ref (ad oo0)), (1, .int pp1), (2, .long pp2), (4, .long zz22), (6, .int zz27), (7, .int zz24)]) (fun _ => rfl) dX6_runScript_133 (fun zz27 => ?_)
            refine xr_goto (pc := 136) X 86 (by decide) dX6_runScript_136 ?_
            exact x_sub [0, 1, 2, 3, 4] rfl (ihh21 _ _ _)
          exact x_sub [4] rfl (hKK13 _ _)
      refine hLL28 _ _ (fun zz10 σ11 => ?_) (fun σ14 => ?_) _ _ _ _
      · refine xr_iload (pc := 130) X (i := 6) 0 rfl dX6_runScript_130 ?_
        exact xr_iret (pc := 132) X (Nat.le_of_ble_eq_true rfl) (Nat.le_of_ble_eq_true rfl) dX6_runScript_132
      refine xr_iconst (pc := 139) X dX6_runScript_139 (v := (-1)) (by decide) ?_
      exact xr_iret (pc := 140) X (Nat.le_of_ble_eq_true rfl) (Nat.le_of_ble_eq_true rfl) dX6_runScript_140
    refine xr_iconst (pc := 68) X dX6_runScript_68 (v := 0) (by decide) ?_
    exact xr_iret (pc := 69) X (Nat.le_of_ble_eq_true rfl) (Nat.le_of_ble_eq_true rfl) dX6_runScript_69
  refine x_jn (fun (KK32 : xS → Option (Int32 × xS)) => ∀ σ31, xM Γ D ad N Sh (xQI Γ D ad N Sh 0 0) 0 0 (KK32 σ31) σ31 61 [(0, .ref (ad oo0)), (1, .int pp1), (2, .long pp2), (4, .long zz1)] [.ref (ad oo0)]) (fun σ31 => ?_) (fun KK32 hKK33 => ?_)
  · refine xr_iconst (pc := 61) X dX6_runScript_61 (v := 1) (by decide) ?_
    exact hKK30 _ _
  refine xr_if_eq (pc := 42) X 61 (by decide) dX6_runScript_42 (fun _ => ?_) (fun _ => ?_)
  · exact hKK33  _
  refine xr_lload_n (pc := 45) X (i := 2) 2 rfl rfl dX6_runScript_45 ?_
  refine xr_lconst (pc := 46) X dX6_runScript_46 (v := 0) rfl ?_
  refine xr_lload (pc := 47) X (i := 4) 3 rfl dX6_runScript_47 ?_
  refine xr_lconst (pc := 49) X dX6_runScript_49 (v := 1) rfl ?_
  refine xr_lsub (pc := 50) X dX6_runScript_50 ?_
  refine xr_callSI (na := 3) (pc := 51) X [.long pp2, .long 0, .long (zz1 - 1)] (c_X6_in Γ.2.1 hI pp2 0 (zz1 - 1) σ3) (wG_S wm_8_1 wm_7_23 wm_8_0 wm_1_5) rfl rfl rfl (by decide +kernel) ⟨Nat.le_of_ble_eq_true rfl, Nat.le_of_ble_eq_true rfl⟩ rfl rfl (Nat.le_of_ble_eq_true rfl) ⟨Nat.le_of_ble_eq_true rfl, Nat.le_of_ble_eq_true rfl⟩ dX6_runScript_51 (fun zz35 σ34 => ?_)
  refine xr_if_eq (pc := 54) X 61 (by decide) dX6_runScript_54 (fun _ => ?_) (fun _ => ?_)
  · exact hKK33  _
  refine xr_iconst (pc := 57) X dX6_runScript_57 (v := 0) (by decide) ?_
  refine xr_goto (pc := 58) X 62 (by decide) dX6_runScript_58 ?_
  exact hKK30 _ _
def F_X6_turn (oo0 : Nat) (nn1 aa1 : Nat) (pp2 : Int32) (σ : xS) : Option xS :=
  xlet (pp2 / 8) (fun (zz1 : Int32) => xlet (zz1 - zz1 / 4 * 4) (fun (zz2 : Int32) => xlet (pp2 - pp2 / 8 * 8) (fun (zz3 : Int32) => if 3 ≤ zz3 then (if ¬ zz3 = 3 then (if ¬ zz3 = 4 then (xbI (F_X6_mayTick oo0 (1 + (zz1 - zz1 / 9 * 9)) σ) (fun (zz5 : Int32) (σ4 : xS) => if zz5 = 0 then (some σ4)
 else (xbI (F_X6_ticksOn nn1 aa1 (1 + (zz1 - zz1 / 9 * 9)) σ4) (fun (zz7 : Int32) (σ6 : xS) => some σ6))))
 else (xbI (F_X6_isWriter nn1 aa1 zz2 σ) (fun (zz9 : Int32) (σ8 : xS) => xjn (fun (σ10 : xS) => xbI (F_X6_isWriter nn1 aa1 zz2 σ10) (fun (zz12 : Int32) (σ11 : xS) => if zz12 = 0 then (some σ11)
 else (xbI (F_X6_sends nn1 aa1 zz2 0 σ11) (fun (zz14 : Int32) (σ13 : xS) => some σ13))))
 (fun (KK15 : xS → Option xS) => if zz9 = 0 then (KK15 σ8)
 else (if ¬ ((zz1 / 8) - (zz1 / 8) / 3 * 3) = 0 then (KK15 σ8)
 else (if ¬ ((zz1 / 4) - (zz1 / 4) / 2 * 2) = 1 then (xbI (F_X6_holdOn nn1 aa1 zz2 0 σ8) (fun (zz18 : Int32) (σ17 : xS) => some σ17))
 else (xbI (F_X6_holdOn nn1 aa1 zz2 1 σ8) (fun (zz20 : Int32) (σ19 : xS) => some σ19))))))))
 else (xbI (F_X6_isWriter nn1 aa1 zz2 σ) (fun (zz22 : Int32) (σ21 : xS) => if zz22 = 0 then (some σ21)
 else (if xin (2 : Int32) nn1 = true then (xlet (σ21 aa1 (2 : Int32).toNatClampNeg) (fun (zz23 : Int32) => if 8 ≤ zz23 then (some σ21)
 else (xbI (F_X6_planOn nn1 aa1 (1 + ((zz1 / 4) - (zz1 / 4) / 30 * 30)) zz2 (1 + ((zz1 / 256) - (zz1 / 256) / 60 * 60)) σ21) (fun (zz25 : Int32) (σ24 : xS) => some σ24)))) else none))))
 else (xbI (F_X6_isWriter nn1 aa1 zz2 σ) (fun (zz27 : Int32) (σ26 : xS) => if zz27 = 0 then (some σ26)
 else (xbI (F_X6_canWrite nn1 aa1 zz2 (1 + ((zz1 / 4) - (zz1 / 4) / 60 * 60)) σ26) (fun (zz29 : Int32) (σ28 : xS) => if zz29 = 0 then (some σ28)
 else (xbI (F_X6_writeOn nn1 aa1 zz2 (1 + ((zz1 / 4) - (zz1 / 4) / 60 * 60)) σ28) (fun (zz31 : Int32) (σ30 : xS) => some σ30)))))))))
abbrev rm_X6_turn : Room := { frames := 8, cells := 0, slots := 0, locals := 184 }
set_option maxHeartbeats 4000000 in
set_option maxRecDepth 100000 in
theorem c_X6_turn (l : Launch) {D : va_G} {ad : Nat → Nat} {N : Nat} {Sh : xSh} (hI : ∀ i j, i < N → j < N → ad i = ad j → i = j) (oo0 : Nat) (hh0 : xIs6 D ad N Sh oo0) (nn1 aa1 : Nat) (hh1 : xHas N Sh aa1 (shI D nn1)) (pp2 : Int32) (σ : xS) : xKV l yX6_turn (Cond.code yX6_turn cX6_turn 6 none :: wG) rm_X6_turn 0 0 D ad N Sh [.ref (ad oo0), .ref (ad aa1), .int pp2] σ (F_X6_turn oo0 nn1 aa1 pp2 σ) := by
  refine x_startV (own := RX6) (maxL := 6) (by decide) rfl rfl (Nat.le_of_ble_eq_true rfl) rfl hI (fun Γ hl hnL X => ?_)
  subst hl
  unfold F_X6_turn
  refine xr_iload_n (pc := 0) X (i := 2) 2 rfl rfl dX6_turn_0 ?_
  refine xr_bipush (pc := 1) X dX6_turn_1 (v := 8) (by decide) ?_
  refine xr_idiv (pc := 3) X (by decide) dX6_turn_3 ?_
  refine x_leti (fun zz1 => ?_)
  refine xr_istore_n (pc := 4) X (hf := rfl) (i := 3) [1, 2, 3, 0] (Nat.le_of_ble_eq_true rfl) hnL rfl dX6_turn_4 ?_
  refine xr_iload_n (pc := 5) X (i := 3) 3 rfl rfl dX6_turn_5 ?_
  refine xr_iconst (pc := 6) X dX6_turn_6 (v := 4) (by decide) ?_
  refine xr_irem (pc := 7) X (by decide) dX6_turn_7 ?_
  refine x_leti (fun zz2 => ?_)
  refine xr_istore (pc := 8) X (i := 4) [1, 2, 3, 4, 0] (Nat.le_of_ble_eq_true rfl) hnL rfl dX6_turn_8 ?_
  refine xr_iload_n (pc := 10) X (i := 2) 2 rfl rfl dX6_turn_10 ?_
  refine xr_bipush (pc := 11) X dX6_turn_11 (v := 8) (by decide) ?_
  refine xr_irem (pc := 13) X (by decide) dX6_turn_13 ?_
  refine x_leti (fun zz3 => ?_)
  refine xr_istore (pc := 14) X (i := 5) [1, 2, 4, 5, 0] (Nat.le_of_ble_eq_true rfl) hnL rfl dX6_turn_14 ?_
  refine xr_iload (pc := 16) X (i := 5) 4 rfl dX6_turn_16 ?_
  refine xr_iconst (pc := 18) X dX6_turn_18 (v := 3) (by decide) ?_
  refine xr_icmp_ge (pc := 19) X 66 (by decide) dX6_turn_19 (fun _ => ?_) (fun _ => ?_)
  · refine xr_iload (pc := 66) X (i := 5) 4 rfl dX6_turn_66 ?_
    refine xr_iconst (pc := 68) X dX6_turn_68 (v := 3) (by decide) ?_
    refine xr_icmp_ne (pc := 69) X 117 (by decide) dX6_turn_69 (fun _ => ?_) (fun _ => ?_)
    · refine xr_iload (pc := 117) X (i := 5) 4 rfl dX6_turn_117 ?_
      refine xr_iconst (pc := 119) X dX6_turn_119 (v := 4) (by decide) ?_
      refine xr_icmp_ne (pc := 120) X 185 (by decide) dX6_turn_120 (fun _ => ?_) (fun _ => ?_)
      · refine xr_aload_n (pc := 185) X (i := 0) 0 rfl rfl dX6_turn_185 ?_
        refine xr_iconst (pc := 186) X dX6_turn_186 (v := 1) (by decide) ?_
        refine xr_iload_n (pc := 187) X (i := 3) 2 rfl rfl dX6_turn_187 ?_
        refine xr_bipush (pc := 188) X dX6_turn_188 (v := 9) (by decide) ?_
        refine xr_irem (pc := 190) X (by decide) dX6_turn_190 ?_
        refine xr_iadd (pc := 191) X dX6_turn_191 ?_
        refine xr_callVI (na := 1) (pc := 192) X (oo0) [.int (1 + (zz1 - zz1 / 9 * 9))] _ (c_X6_mayTick Γ.2.1 hI oo0 hh0 (1 + (zz1 - zz1 / 9 * 9)) σ) (wG_V wm_31_21 wm_31_18 wm_31_19 wm_31_20 wm_1_5) rfl rfl rfl (by decide +kernel) ⟨Nat.le_of_ble_eq_true rfl, Nat.le_of_ble_eq_true rfl⟩ hh0.1.1 hh0.1.2 rfl (T := TX6) (C := RX6) rfl rfl rfl (Nat.le_of_ble_eq_true rfl) ⟨Nat.le_of_ble_eq_true rfl, Nat.le_of_ble_eq_true rfl⟩ dX6_turn_192 (fun zz5 σ4 => ?_)
        refine xr_if_eq (pc := 195) X 209 (by decide) dX6_turn_195 (fun _ => ?_) (fun _ => ?_)
        · exact xr_vret (pc := 209) X (Nat.le_refl _) (Nat.le_refl _) dX6_turn_209
        refine xr_aload_n (pc := 198) X (i := 1) 1 rfl rfl dX6_turn_198 ?_
        refine xr_iconst (pc := 199) X dX6_turn_199 (v := 1) (by decide) ?_
        refine xr_iload_n (pc := 200) X (i := 3) 2 rfl rfl dX6_turn_200 ?_
        refine xr_bipush (pc := 201) X dX6_turn_201 (v := 9) (by decide) ?_
        refine xr_irem (pc := 203) X (by decide) dX6_turn_203 ?_
        refine xr_iadd (pc := 204) X dX6_turn_204 ?_
        refine xr_callSI (na := 2) (pc := 205) X [.ref (ad aa1), .int (1 + (zz1 - zz1 / 9 * 9))] (c_X6_ticksOn Γ.2.1 hI nn1 aa1 hh1 (1 + (zz1 - zz1 / 9 * 9)) σ4) (wG_S wm_12_15 wm_12_13 wm_12_14 wm_1_5) rfl rfl rfl (by decide +kernel) ⟨Nat.le_of_ble_eq_true rfl, Nat.le_of_ble_eq_true rfl⟩ rfl rfl (Nat.le_of_ble_eq_true rfl) ⟨Nat.le_of_ble_eq_true rfl, Nat.le_of_ble_eq_true rfl⟩ dX6_turn_205 (fun zz7 σ6 => ?_)
        refine xr_pop (pc := 208) X rfl dX6_turn_208 ?_
        exact xr_vret (pc := 209) X (Nat.le_refl _) (Nat.le_refl _) dX6_turn_209
      refine xr_aload_n (pc := 123) X (i := 1) 1 rfl rfl dX6_turn_123 ?_
      refine xr_iload (pc := 124) X (i := 4) 3 rfl dX6_turn_124 ?_
      refine xr_callSI (na := 2) (pc := 126) X [.ref (ad aa1), .int zz2] (c_X6_isWriter Γ.2.1 hI nn1 aa1 hh1 zz2 σ) (wG_S wm_11_8 wm_11_6 wm_11_7 wm_1_5) rfl rfl rfl (by decide +kernel) ⟨Nat.le_of_ble_eq_true rfl, Nat.le_of_ble_eq_true rfl⟩ rfl rfl (Nat.le_of_ble_eq_true rfl) ⟨Nat.le_of_ble_eq_true rfl, Nat.le_of_ble_eq_true rfl⟩ dX6_turn_126 (fun zz9 σ8 => ?_)
      refine x_jn (fun (KK15 : xS → Option xS) => ∀ σ10, xM Γ D ad N Sh (xQV Γ D ad N Sh 0 0) 0 0 (KK15 σ10) σ10 165 [(1, .ref (ad aa1)), (4, .int zz2)] []) (fun σ10 => ?_) (fun KK15 hKK16 => ?_)
      · refine xr_aload_n (pc := 165) X (i := 1) 0 rfl rfl dX6_turn_165 ?_
        refine xr_iload (pc := 166) X (i := 4) 1 rfl dX6_turn_166 ?_
        refine xr_callSI (na := 2) (pc := 168) X [.ref (ad aa1), .int zz2] (c_X6_isWriter Γ.2.1 hI nn1 aa1 hh1 zz2 σ10) (wG_S wm_11_8 wm_11_6 wm_11_7 wm_1_5) rfl rfl rfl (by decide +kernel) ⟨Nat.le_of_ble_eq_true rfl, Nat.le_of_ble_eq_true rfl⟩ rfl rfl (Nat.le_of_ble_eq_true rfl) ⟨Nat.le_of_ble_eq_true rfl, Nat.le_of_ble_eq_true rfl⟩ dX6_turn_168 (fun zz12 σ11 => ?_)
        refine xr_if_eq (pc := 171) X 209 (by decide) dX6_turn_171 (fun _ => ?_) (fun _ => ?_)
        · exact xr_vret (pc := 209) X (Nat.le_refl _) (Nat.le_refl _) dX6_turn_209
        refine xr_aload_n (pc := 174) X (i := 1) 0 rfl rfl dX6_turn_174 ?_
        refine xr_iload (pc := 175) X (i := 4) 1 rfl dX6_turn_175 ?_
        refine xr_iconst (pc := 177) X dX6_turn_177 (v := 0) (by decide) ?_
        refine xr_callSI (na := 3) (pc := 178) X [.ref (ad aa1), .int zz2, .int 0] (c_X6_sends Γ.2.1 hI nn1 aa1 hh1 zz2 0 σ11) (wG_S wm_11_23 wm_11_21 wm_11_22 wm_1_5) rfl rfl rfl (by decide +kernel) ⟨Nat.le_of_ble_eq_true rfl, Nat.le_of_ble_eq_true rfl⟩ rfl rfl (Nat.le_of_ble_eq_true rfl) ⟨Nat.le_of_ble_eq_true rfl, Nat.le_of_ble_eq_true rfl⟩ dX6_turn_178 (fun zz14 σ13 => ?_)
        refine xr_pop (pc := 181) X rfl dX6_turn_181 ?_
        refine xr_goto (pc := 182) X 209 (by decide) dX6_turn_182 ?_
        exact xr_vret (pc := 209) X (Nat.le_refl _) (Nat.le_refl _) dX6_turn_209
      refine xr_if_eq (pc := 129) X 165 (by decide) dX6_turn_129 (fun _ => ?_) (fun _ => ?_)
      · exact x_sub [1, 3] rfl (hKK16  _)
      refine xr_iload_n (pc := 132) X (i := 3) 2 rfl rfl dX6_turn_132 ?_
      refine xr_bipush (pc := 133) X dX6_turn_133 (v := 8) (by decide) ?_
      refine xr_idiv (pc := 135) X (by decide) dX6_turn_135 ?_
      refine xr_iconst (pc := 136) X dX6_turn_136 (v := 3) (by decide) ?_
      refine xr_irem (pc := 137) X (by decide) dX6_turn_137 ?_
      refine xr_if_ne (pc := 138) X 165 (by decide) dX6_turn_138 (fun _ => ?_) (fun _ => ?_)
      · exact x_sub [1, 3] rfl (hKK16  _)
      refine xr_aload_n (pc := 141) X (i := 1) 1 rfl rfl dX6_turn_141 ?_
      refine xr_iload (pc := 142) X (i := 4) 3 rfl dX6_turn_142 ?_
      refine xr_iload_n (pc := 144) X (i := 3) 2 rfl rfl dX6_turn_144 ?_
      refine xr_iconst (pc := 145) X dX6_turn_145 (v := 4) (by decide) ?_
      refine xr_idiv (pc := 146) X (by decide) dX6_turn_146 ?_
      refine xr_iconst (pc := 147) X dX6_turn_147 (v := 2) (by decide) ?_
      refine xr_irem (pc := 148) X (by decide) dX6_turn_148 ?_
      refine xr_iconst (pc := 149) X dX6_turn_149 (v := 1) (by decide) ?_
      refine xr_icmp_ne (pc := 150) X 157 (by decide) dX6_turn_150 (fun _ => ?_) (fun _ => ?_)
      · refine xr_iconst (pc := 157) X dX6_turn_157 (v := 0) (by decide) ?_
        refine xr_callSI (na := 3) (pc := 158) X [.ref (ad aa1), .int zz2, .int 0] (c_X6_holdOn Γ.2.1 hI nn1 aa1 hh1 zz2 0 σ8) (wG_S wm_12_12 wm_12_10 wm_12_11 wm_1_5) rfl rfl rfl (by decide +kernel) ⟨Nat.le_of_ble_eq_true rfl, Nat.le_of_ble_eq_true rfl⟩ rfl rfl (Nat.le_of_ble_eq_true rfl) ⟨Nat.le_of_ble_eq_true rfl, Nat.le_of_ble_eq_true rfl⟩ dX6_turn_158 (fun zz18 σ17 => ?_)
        refine xr_pop (pc := 161) X rfl dX6_turn_161 ?_
        refine xr_goto (pc := 162) X 209 (by decide) dX6_turn_162 ?_
        exact xr_vret (pc := 209) X (Nat.le_refl _) (Nat.le_refl _) dX6_turn_209
      refine xr_iconst (pc := 153) X dX6_turn_153 (v := 1) (by decide) ?_
      refine xr_goto (pc := 154) X 158 (by decide) dX6_turn_154 ?_
      refine xr_callSI (na := 3) (pc := 158) X [.ref (ad aa1), .int zz2, .int 1] (c_X6_holdOn Γ.2.1 hI nn1 aa1 hh1 zz2 1 σ8) (wG_S wm_12_12 wm_12_10 wm_12_11 wm_1_5) rfl rfl rfl (by decide +kernel) ⟨Nat.le_of_ble_eq_true rfl, Nat.le_of_ble_eq_true rfl⟩ rfl rfl (Nat.le_of_ble_eq_true rfl) ⟨Nat.le_of_ble_eq_true rfl, Nat.le_of_ble_eq_true rfl⟩ dX6_turn_158 (fun zz20 σ19 => ?_)
      refine xr_pop (pc := 161) X rfl dX6_turn_161 ?_
      refine xr_goto (pc := 162) X 209 (by decide) dX6_turn_162 ?_
      exact xr_vret (pc := 209) X (Nat.le_refl _) (Nat.le_refl _) dX6_turn_209
    refine xr_aload_n (pc := 72) X (i := 1) 1 rfl rfl dX6_turn_72 ?_
    refine xr_iload (pc := 73) X (i := 4) 3 rfl dX6_turn_73 ?_
    refine xr_callSI (na := 2) (pc := 75) X [.ref (ad aa1), .int zz2] (c_X6_isWriter Γ.2.1 hI nn1 aa1 hh1 zz2 σ) (wG_S wm_11_8 wm_11_6 wm_11_7 wm_1_5) rfl rfl rfl (by decide +kernel) ⟨Nat.le_of_ble_eq_true rfl, Nat.le_of_ble_eq_true rfl⟩ rfl rfl (Nat.le_of_ble_eq_true rfl) ⟨Nat.le_of_ble_eq_true rfl, Nat.le_of_ble_eq_true rfl⟩ dX6_turn_75 (fun zz22 σ21 => ?_)
    refine xr_if_eq (pc := 78) X 209 (by decide) dX6_turn_78 (fun _ => ?_) (fun _ => ?_)
    · exact xr_vret (pc := 209) X (Nat.le_refl _) (Nat.le_refl _) dX6_turn_209
    refine xr_aload_n (pc := 81) X (i := 1) 1 rfl rfl dX6_turn_81 ?_
    refine xr_iconst (pc := 82) X dX6_turn_82 (v := 2) (by decide) ?_
    refine xr_iald (pc := 83) X (aa1) (nn1) hh1.1 hh1.2 dX6_turn_83 (fun zz23 => ?_)
    refine xr_bipush (pc := 84) X dX6_turn_84 (v := 8) (by decide) ?_
    refine xr_icmp_ge (pc := 86) X 209 (by decide) dX6_turn_86 (fun _ => ?_) (fun _ => ?_)
    · exact xr_vret (pc := 209) X (Nat.le_refl _) (Nat.le_refl _) dX6_turn_209
    refine xr_aload_n (pc := 89) X (i := 1) 1 rfl rfl dX6_turn_89 ?_
    refine xr_iconst (pc := 90) X dX6_turn_90 (v := 1) (by decide) ?_
    refine xr_iload_n (pc := 91) X (i := 3) 2 rfl rfl dX6_turn_91 ?_
    refine xr_iconst (pc := 92) X dX6_turn_92 (v := 4) (by decide) ?_
    refine xr_idiv (pc := 93) X (by decide) dX6_turn_93 ?_
    refine xr_bipush (pc := 94) X dX6_turn_94 (v := 30) (by decide) ?_
    refine xr_irem (pc := 96) X (by decide) dX6_turn_96 ?_
    refine xr_iadd (pc := 97) X dX6_turn_97 ?_
    refine xr_iload (pc := 98) X (i := 4) 3 rfl dX6_turn_98 ?_
    refine xr_iconst (pc := 100) X dX6_turn_100 (v := 1) (by decide) ?_
    refine xr_iload_n (pc := 101) X (i := 3) 2 rfl rfl dX6_turn_101 ?_
    refine xr_sipush (pc := 102) X dX6_turn_102 (v := 256) (by decide) ?_
    refine xr_idiv (pc := 105) X (by decide) dX6_turn_105 ?_
    refine xr_bipush (pc := 106) X dX6_turn_106 (v := 60) (by decide) ?_
    refine xr_irem (pc := 108) X (by decide) dX6_turn_108 ?_
    refine xr_iadd (pc := 109) X dX6_turn_109 ?_
    refine xr_callSI (na := 4) (pc := 110) X [.ref (ad aa1), .int (1 + ((zz1 / 4) - (zz1 / 4) / 30 * 30)), .int zz2, .int (1 + ((zz1 / 256) - (zz1 / 256) / 60 * 60))] (c_X6_planOn Γ.2.1 hI nn1 aa1 hh1 (1 + ((zz1 / 4) - (zz1 / 4) / 30 * 30)) zz2 (1 + ((zz1 / 256) - (zz1 / 256) / 60 * 60)) σ21) (wG_S wm_12_9 wm_12_7 wm_12_8 wm_1_5) rfl rfl rfl (by decide +kernel) ⟨Nat.le_of_ble_eq_true rfl, Nat.le_of_ble_eq_true rfl⟩ rfl rfl (Nat.le_of_ble_eq_true rfl) ⟨Nat.le_of_ble_eq_true rfl, Nat.le_of_ble_eq_true rfl⟩ dX6_turn_110 (fun zz25 σ24 => ?_)
    refine xr_pop (pc := 113) X rfl dX6_turn_113 ?_
    refine xr_goto (pc := 114) X 209 (by decide) dX6_turn_114 ?_
    exact xr_vret (pc := 209) X (Nat.le_refl _) (Nat.le_refl _) dX6_turn_209
  refine xr_aload_n (pc := 22) X (i := 1) 1 rfl rfl dX6_turn_22 ?_
  refine xr_iload (pc := 23) X (i := 4) 3 rfl dX6_turn_23 ?_
  refine xr_callSI (na := 2) (pc := 25) X [.ref (ad aa1), .int zz2] (c_X6_isWriter Γ.2.1 hI nn1 aa1 hh1 zz2 σ) (wG_S wm_11_8 wm_11_6 wm_11_7 wm_1_5) rfl rfl rfl (by decide +kernel) ⟨Nat.le_of_ble_eq_true rfl, Nat.le_of_ble_eq_true rfl⟩ rfl rfl (Nat.le_of_ble_eq_true rfl) ⟨Nat.le_of_ble_eq_true rfl, Nat.le_of_ble_eq_true rfl⟩ dX6_turn_25 (fun zz27 σ26 => ?_)
  refine xr_if_eq (pc := 28) X 209 (by decide) dX6_turn_28 (fun _ => ?_) (fun _ => ?_)
  · exact xr_vret (pc := 209) X (Nat.le_refl _) (Nat.le_refl _) dX6_turn_209
  refine xr_aload_n (pc := 31) X (i := 1) 1 rfl rfl dX6_turn_31 ?_
  refine xr_iload (pc := 32) X (i := 4) 3 rfl dX6_turn_32 ?_
  refine xr_iconst (pc := 34) X dX6_turn_34 (v := 1) (by decide) ?_
  refine xr_iload_n (pc := 35) X (i := 3) 2 rfl rfl dX6_turn_35 ?_
  refine xr_iconst (pc := 36) X dX6_turn_36 (v := 4) (by decide) ?_
  refine xr_idiv (pc := 37) X (by decide) dX6_turn_37 ?_
  refine xr_bipush (pc := 38) X dX6_turn_38 (v := 60) (by decide) ?_
  refine xr_irem (pc := 40) X (by decide) dX6_turn_40 ?_
  refine xr_iadd (pc := 41) X dX6_turn_41 ?_
  refine xr_callSI (na := 3) (pc := 42) X [.ref (ad aa1), .int zz2, .int (1 + ((zz1 / 4) - (zz1 / 4) / 60 * 60))] (c_X6_canWrite Γ.2.1 hI nn1 aa1 hh1 zz2 (1 + ((zz1 / 4) - (zz1 / 4) / 60 * 60)) σ26) (wG_S wm_11_11 wm_11_9 wm_11_10 wm_1_5) rfl rfl rfl (by decide +kernel) ⟨Nat.le_of_ble_eq_true rfl, Nat.le_of_ble_eq_true rfl⟩ rfl rfl (Nat.le_of_ble_eq_true rfl) ⟨Nat.le_of_ble_eq_true rfl, Nat.le_of_ble_eq_true rfl⟩ dX6_turn_42 (fun zz29 σ28 => ?_)
  refine xr_if_eq (pc := 45) X 209 (by decide) dX6_turn_45 (fun _ => ?_) (fun _ => ?_)
  · exact xr_vret (pc := 209) X (Nat.le_refl _) (Nat.le_refl _) dX6_turn_209
  refine xr_aload_n (pc := 48) X (i := 1) 1 rfl rfl dX6_turn_48 ?_
  refine xr_iload (pc := 49) X (i := 4) 3 rfl dX6_turn_49 ?_
  refine xr_iconst (pc := 51) X dX6_turn_51 (v := 1) (by decide) ?_
  refine xr_iload_n (pc := 52) X (i := 3) 2 rfl rfl dX6_turn_52 ?_
  refine xr_iconst (pc := 53) X dX6_turn_53 (v := 4) (by decide) ?_
  refine xr_idiv (pc := 54) X (by decide) dX6_turn_54 ?_
  refine xr_bipush (pc := 55) X dX6_turn_55 (v := 60) (by decide) ?_
  refine xr_irem (pc := 57) X (by decide) dX6_turn_57 ?_
  refine xr_iadd (pc := 58) X dX6_turn_58 ?_
  refine xr_callSI (na := 3) (pc := 59) X [.ref (ad aa1), .int zz2, .int (1 + ((zz1 / 4) - (zz1 / 4) / 60 * 60))] (c_X6_writeOn Γ.2.1 hI nn1 aa1 hh1 zz2 (1 + ((zz1 / 4) - (zz1 / 4) / 60 * 60)) σ28) (wG_S wm_11_17 wm_11_15 wm_11_16 wm_1_5) rfl rfl rfl (by decide +kernel) ⟨Nat.le_of_ble_eq_true rfl, Nat.le_of_ble_eq_true rfl⟩ rfl rfl (Nat.le_of_ble_eq_true rfl) ⟨Nat.le_of_ble_eq_true rfl, Nat.le_of_ble_eq_true rfl⟩ dX6_turn_59 (fun zz31 σ30 => ?_)
  refine xr_pop (pc := 62) X rfl dX6_turn_62 ?_
  refine xr_goto (pc := 63) X 209 (by decide) dX6_turn_63 ?_
  exact xr_vret (pc := 209) X (Nat.le_refl _) (Nat.le_refl _) dX6_turn_209
def L_X6_simulate_45 (oo0 : Nat) (pp2 : Int32) (KK23 : xS → Option (Int32 × xS)) : Nat → Int64 → Int32 → xS → Option (Int32 × xS)
  | 0, _, _, _ => none
  | nn_28 + 1, zz25, zz26, σ27 => if pp2 ≤ zz26 then (KK23 σ27)
 else (xlet ((zz25 * 6364136223846793005) + 1442695040888963407) (fun (zz30 : Int64) => xbV (F_X6_turn oo0 187 (oo0 + 3) (((zz30.toUInt64 >>> ((33 : Int32).toInt64.toUInt64 &&& Int64.toUInt64 63)).toInt64).toInt32) σ27) (fun (σ31 : xS) => xlet (zz26 + 1) (fun (zz32 : Int32) => L_X6_simulate_45 oo0 pp2 KK23 nn_28 zz30 zz32 σ31))))
def F_X6_simulate (oo0 : Nat) (pp1 : Int64) (pp2 : Int32) (σ : xS) : Option (Int32 × xS) :=
  xbI (F_X6_in pp2.toInt64 1 60 σ) (fun (zz2 : Int32) (σ1 : xS) => xjn (fun (zz3 : Int32) (σ4 : xS) => xbI (F_X6_refused oo0 zz3 σ4) (fun (zz6 : Int32) (σ5 : xS) => if zz6 = 0 then (xbV (F_X6_copyState 187 (oo0 + 2) 0 187 (oo0 + 3) 0 σ5) (fun (σ7 : xS) => L_X6_simulate_45 oo0 pp2 (fun (σ8 : xS) => xbI (F_X6_sum 187 (oo0 + 3) 3 σ8) (fun (zz10 : Int32) (σ9 : xS) => xbI (F_X6_sum 187 (oo0 + 2) 3 σ9) (fun (zz12 : Int32) (σ11 : xS) => xlet (zz10 - zz12) (fun (zz13 : Int32) => xbI (F_X6_sum 187 (oo0 + 3) 4 σ11) (fun (zz15 : Int32) (σ14 : xS) => xbI (F_X6_sum 187 (oo0 + 2) 4 σ14) (fun (zz17 : Int32) (σ16 : xS) => xlet (zz15 - zz17) (fun (zz18 : Int32) => xjn (fun (zz19 : Int32) (σ20 : xS) => if zz18 ≤ 9999 then (some (((10000 * zz19) + zz18), σ20))
 else (some (((10000 * zz19) + 9999), σ20)))
 (fun (KK21 : Int32 → xS → Option (Int32 × xS)) => if zz13 ≤ 999 then (KK21 zz13 σ16)
 else (KK21 999 σ16))))))))) 1000 pp1 0 σ7))
 else (some ((0 : Int32), σ5))))
 (fun (KK34 : Int32 → xS → Option (Int32 × xS)) => if zz2 = 0 then (KK34 1 σ1)
 else (KK34 0 σ1)))
abbrev rm_X6_simulate : Room := { frames := 9, cells := 0, slots := 0, locals := 209 }
set_option maxHeartbeats 4000000 in
set_option maxRecDepth 100000 in
theorem c_X6_simulate (l : Launch) {D : va_G} {ad : Nat → Nat} {N : Nat} {Sh : xSh} (hI : ∀ i j, i < N → j < N → ad i = ad j → i = j) (oo0 : Nat) (hh0 : xIs6 D ad N Sh oo0) (pp1 : Int64) (pp2 : Int32) (σ : xS) : xKI l yX6_simulate (Cond.code yX6_simulate cX6_simulate 8 (some .int) :: wG) rm_X6_simulate 0 0 D ad N Sh [.ref (ad oo0), .long pp1, .int pp2] σ (F_X6_simulate oo0 pp1 pp2 σ) := by
  refine x_startI (own := RX6) (maxL := 8) (by decide) rfl rfl (Nat.le_of_ble_eq_true rfl) rfl hI (fun Γ hl hnL X => ?_)
  subst hl
  unfold F_X6_simulate
  refine xr_aload_n (pc := 0) X (i := 0) 0 rfl rfl dX6_simulate_0 ?_
  refine xr_iload_n (pc := 1) X (i := 3) 2 rfl rfl dX6_simulate_1 ?_
  refine xr_i2l (pc := 2) X dX6_simulate_2 ?_
  refine xr_lconst (pc := 3) X dX6_simulate_3 (v := 1) rfl ?_
  refine xr_ldc2 (pc := 4) X dX6_simulate_4 (List.mem_cons_of_mem _ wm_32_19) ?_
  refine xr_callSI (na := 3) (pc := 7) X [.long pp2.toInt64, .long 1, .long 60] (c_X6_in Γ.2.1 hI pp2.toInt64 1 60 σ) (wG_S wm_8_1 wm_7_23 wm_8_0 wm_1_5) rfl rfl rfl (by decide +kernel) ⟨Nat.le_of_ble_eq_true rfl, Nat.le_of_ble_eq_true rfl⟩ rfl rfl (Nat.le_of_ble_eq_true rfl) ⟨Nat.le_of_ble_eq_true rfl, Nat.le_of_ble_eq_true rfl⟩ dX6_simulate_7 (fun zz2 σ1 => ?_)
  refine x_jn (fun (KK34 : Int32 → xS → Option (Int32 × xS)) => ∀ zz3 σ4, xM Γ D ad N Sh (xQI Γ D ad N Sh 0 0) 0 0 (KK34 zz3 σ4) σ4 18 [(0, .ref (ad oo0)), (1, .long pp1), (3, .int pp2)] [.int zz3, .ref (ad oo0)]) (fun zz3 σ4 => ?_) (fun KK34 hKK35 => ?_)
  · refine xr_callVI (na := 1) (pc := 18) X (oo0) [.int zz3] _ (c_X6_refused Γ.2.1 hI oo0 hh0 zz3 σ4) (wG_V wm_8_5 wm_8_2 wm_8_3 wm_8_4 wm_1_5) rfl rfl rfl (by decide +kernel) ⟨Nat.le_of_ble_eq_true rfl, Nat.le_of_ble_eq_true rfl⟩ hh0.1.1 hh0.1.2 rfl (T := TX6) (C := RX6) rfl rfl rfl (Nat.le_of_ble_eq_true rfl) ⟨Nat.le_of_ble_eq_true rfl, Nat.le_of_ble_eq_true rfl⟩ dX6_simulate_18 (fun zz6 σ5 => ?_)
    refine xr_if_eq (pc := 21) X 26 (by decide) dX6_simulate_21 (fun _ => ?_) (fun _ => ?_)
    · refine xr_aload_n (pc := 26) X (i := 0) 0 rfl rfl dX6_simulate_26 ?_
      refine xgX6 (pc := 27) X (oo0) hh0.1 3 wm_5_21 rfl rfl (by decide) rfl dX6_simulate_27 ?_
      refine xr_iconst (pc := 30) X dX6_simulate_30 (v := 0) (by decide) ?_
      refine xr_aload_n (pc := 31) X (i := 0) 0 rfl rfl dX6_simulate_31 ?_
      refine xgX6 (pc := 32) X (oo0) hh0.1 4 wm_5_22 rfl rfl (by decide) rfl dX6_simulate_32 ?_
      refine xr_iconst (pc := 35) X dX6_simulate_35 (v := 0) (by decide) ?_
      refine xr_callSV (na := 4) (pc := 36) X [.ref (ad (oo0 + 2)), .int 0, .ref (ad (oo0 + 3)), .int 0] (c_X6_copyState Γ.2.1 hI 187 (oo0 + 2) hh0.2.2.1 0 187 (oo0 + 3) hh0.2.2.2.1 0 σ5) (wG_S wm_18_9 wm_18_7 wm_18_8 wm_1_5) rfl rfl rfl (by decide +kernel) ⟨Nat.le_of_ble_eq_true rfl, Nat.le_of_ble_eq_true rfl⟩ rfl rfl (Nat.le_of_ble_eq_true rfl) ⟨Nat.le_of_ble_eq_true rfl, Nat.le_of_ble_eq_true rfl⟩ dX6_simulate_36 (fun σ7 => ?_)
      refine xr_lload_n (pc := 39) X (i := 1) 1 rfl rfl dX6_simulate_39 ?_
      refine xr_lstore (pc := 40) X (i := 4) [1, 3, 0] (Nat.le_of_ble_eq_true rfl) hnL rfl dX6_simulate_40 ?_
      refine xr_iconst (pc := 42) X dX6_simulate_42 (v := 0) (by decide) ?_
      refine xr_istore (pc := 43) X (i := 6) [1, 2, 3, 0] (Nat.le_of_ble_eq_true rfl) hnL rfl dX6_simulate_43 ?_
      have hLL33 : ∀ (KK23 : xS → Option (Int32 × xS)) (hKK24 : ∀ σ8, xM Γ D ad N Sh (xQI Γ D ad N Sh 0 0) 0 0 (KK23 σ8) σ8 83 [(0, .ref (ad oo0))] []), ∀ (nn_28 : Nat) zz25 zz26 σ27, xM Γ D ad N Sh (xQI Γ D ad N Sh 0 0) 0 0 (L_X6_simulate_45 oo0 pp2 KK23 nn_28 zz25 zz26 σ27) σ27 45 [(0, .ref (ad oo0)), (3, .int pp2), (4, .long zz25), (6, .int zz26)] [] := by
        intro KK23 hKK24 nn_28
        induction nn_28 with
        | zero => intro zz25 zz26 σ27; exact xM_none
        | succ nn_28 ihh29 =>
          intro zz25 zz26 σ27
          rw [L_X6_simulate_45]
          refine xr_iload (pc := 45) X (i := 6) 3 rfl dX6_simulate_45 ?_
          refine xr_iload_n (pc := 47) X (i := 3) 1 rfl rfl dX6_simulate_47 ?_
          refine xr_icmp_ge (pc := 48) X 83 (by decide) dX6_simulate_48 (fun _ => ?_) (fun _ => ?_)
          · exact x_sub [0] rfl (hKK24  _)
          refine xr_lload (pc := 51) X (i := 4) 2 rfl dX6_simulate_51 ?_
          refine xr_ldc2 (pc := 53) X dX6_simulate_53 (List.mem_cons_of_mem _ wm_32_20) ?_
          refine xr_lmul (pc := 56) X dX6_simulate_56 ?_
          refine xr_ldc2 (pc := 57) X dX6_simulate_57 (List.mem_cons_of_mem _ wm_32_21) ?_
          refine xr_ladd (pc := 60) X dX6_simulate_60 ?_
          refine x_letl (fun zz30 => ?_)
          refine xr_lstore (pc := 61) X (i := 4) [1, 2, 0, 3] (Nat.le_of_ble_eq_true rfl) hnL rfl dX6_simulate_61 ?_
          refine xr_aload_n (pc := 63) X (i := 0) 0 rfl rfl dX6_simulate_63 ?_
          refine xr_aload_n (pc := 64) X (i := 0) 0 rfl rfl dX6_simulate_64 ?_
          refine xgX6 (pc := 65) X (oo0) hh0.1 4 wm_5_22 rfl rfl (by decide) rfl dX6_simulate_65 ?_
          refine xr_lload (pc := 68) X (i := 4) 2 rfl dX6_simulate_68 ?_
          refine xr_bipush (pc := 70) X dX6_simulate_70 (v := 33) (by decide) ?_
          refine xr_lushr (pc := 72) X dX6_simulate_72 ?_
          refine xr_l2i (pc := 73) X dX6_simulate_73 ?_
          refine xr_callVV (na := 2) (pc := 74) X (oo0) [.ref (ad (oo0 + 3)), .int (((zz30.toUInt64 >>> ((33 : Int32).toInt64.toUInt64 &&& Int64.toUInt64 63)).toInt64).toInt32)] _ (c_X6_turn Γ.2.1 hI oo0 hh0 187 (oo0 + 3) hh0.2.2.2.1 (((zz30.toUInt64 >>> ((33 : Int32).toInt64.toUInt64 &&& Int64.toUInt64 63)).toInt64).toInt32) σ27) (wG_V wm_33_1 wm_32_22 wm_32_23 wm_33_0 wm_1_5) rfl rfl rfl (by decide +kernel) ⟨Nat.le_of_ble_eq_true rfl, Nat.le_of_ble_eq_true rfl⟩ hh0.1.1 hh0.1.2 rfl (T := TX6) (C := RX6) rfl rfl rfl (Nat.le_of_ble_eq_true rfl) ⟨Nat.le_of_ble_eq_true rfl, Nat.le_of_ble_eq_true rfl⟩ dX6_simulate_74 (fun σ31 => ?_)
          refine xr_iinc (pc := 77) X (i := 6) (j := 3) [1, 2, 3, 0] (Nat.le_of_ble_eq_true rfl) hnL rfl rfl (fun zz32 => [(0, .ref (ad oo0)), (3, .int pp2), (4, .long zz30), (6, .int zz32)]) (fun _ => rfl) dX6_simulate_77 (fun zz32 => ?_)
          refine xr_goto (pc := 80) X 45 (by decide) dX6_simulate_80 ?_
          exact ihh29 _ _ _
      refine hLL33 _ (fun σ8 => ?_) _ _ _ _
      refine xr_aload_n (pc := 83) X (i := 0) 0 rfl rfl dX6_simulate_83 ?_
      refine xgX6 (pc := 84) X (oo0) hh0.1 4 wm_5_22 rfl rfl (by decide) rfl dX6_simulate_84 ?_
      refine xr_iconst (pc := 87) X dX6_simulate_87 (v := 3) (by decide) ?_
      refine xr_callSI (na := 2) (pc := 88) X [.ref (ad (oo0 + 3)), .int 3] (c_X6_sum Γ.2.1 hI 187 (oo0 + 3) hh0.2.2.2.1 3 σ8) (wG_S wm_12_18 wm_12_16 wm_12_17 wm_1_5) rfl rfl rfl (by decide +kernel) ⟨Nat.le_of_ble_eq_true rfl, Nat.le_of_ble_eq_true rfl⟩ rfl rfl (Nat.le_of_ble_eq_true rfl) ⟨Nat.le_of_ble_eq_true rfl, Nat.le_of_ble_eq_true rfl⟩ dX6_simulate_88 (fun zz10 σ9 => ?_)
      refine xr_aload_n (pc := 91) X (i := 0) 0 rfl rfl dX6_simulate_91 ?_
      refine xgX6 (pc := 92) X (oo0) hh0.1 3 wm_5_21 rfl rfl (by decide) rfl dX6_simulate_92 ?_
      refine xr_iconst (pc := 95) X dX6_simulate_95 (v := 3) (by decide) ?_
      refine xr_callSI (na := 2) (pc := 96) X [.ref (ad (oo0 + 2)), .int 3] (c_X6_sum Γ.2.1 hI 187 (oo0 + 2) hh0.2.2.1 3 σ9) (wG_S wm_12_18 wm_12_16 wm_12_17 wm_1_5) rfl rfl rfl (by decide +kernel) ⟨Nat.le_of_ble_eq_true rfl, Nat.le_of_ble_eq_true rfl⟩ rfl rfl (Nat.le_of_ble_eq_true rfl) ⟨Nat.le_of_ble_eq_true rfl, Nat.le_of_ble_eq_true rfl⟩ dX6_simulate_96 (fun zz12 σ11 => ?_)
      refine xr_isub (pc := 99) X dX6_simulate_99 ?_
      refine x_leti (fun zz13 => ?_)
      refine xr_istore (pc := 100) X (i := 6) [1, 0] (Nat.le_of_ble_eq_true rfl) hnL rfl dX6_simulate_100 ?_
      refine xr_aload_n (pc := 102) X (i := 0) 0 rfl rfl dX6_simulate_102 ?_
      refine xgX6 (pc := 103) X (oo0) hh0.1 4 wm_5_22 rfl rfl (by decide) rfl dX6_simulate_103 ?_
      refine xr_iconst (pc := 106) X dX6_simulate_106 (v := 4) (by decide) ?_
      refine xr_callSI (na := 2) (pc := 107) X [.ref (ad (oo0 + 3)), .int 4] (c_X6_sum Γ.2.1 hI 187 (oo0 + 3) hh0.2.2.2.1 4 σ11) (wG_S wm_12_18 wm_12_16 wm_12_17 wm_1_5) rfl rfl rfl (by decide +kernel) ⟨Nat.le_of_ble_eq_true rfl, Nat.le_of_ble_eq_true rfl⟩ rfl rfl (Nat.le_of_ble_eq_true rfl) ⟨Nat.le_of_ble_eq_true rfl, Nat.le_of_ble_eq_true rfl⟩ dX6_simulate_107 (fun zz15 σ14 => ?_)
      refine xr_aload_n (pc := 110) X (i := 0) 0 rfl rfl dX6_simulate_110 ?_
      refine xgX6 (pc := 111) X (oo0) hh0.1 3 wm_5_21 rfl rfl (by decide) rfl dX6_simulate_111 ?_
      refine xr_iconst (pc := 114) X dX6_simulate_114 (v := 4) (by decide) ?_
      refine xr_callSI (na := 2) (pc := 115) X [.ref (ad (oo0 + 2)), .int 4] (c_X6_sum Γ.2.1 hI 187 (oo0 + 2) hh0.2.2.1 4 σ14) (wG_S wm_12_18 wm_12_16 wm_12_17 wm_1_5) rfl rfl rfl (by decide +kernel) ⟨Nat.le_of_ble_eq_true rfl, Nat.le_of_ble_eq_true rfl⟩ rfl rfl (Nat.le_of_ble_eq_true rfl) ⟨Nat.le_of_ble_eq_true rfl, Nat.le_of_ble_eq_true rfl⟩ dX6_simulate_115 (fun zz17 σ16 => ?_)
      refine xr_isub (pc := 118) X dX6_simulate_118 ?_
      refine x_leti (fun zz18 => ?_)
      refine xr_istore (pc := 119) X (i := 7) [2, 0] (Nat.le_of_ble_eq_true rfl) hnL rfl dX6_simulate_119 ?_
      refine xr_sipush (pc := 121) X dX6_simulate_121 (v := 10000) (by decide) ?_
      refine xr_iload (pc := 124) X (i := 6) 0 rfl dX6_simulate_124 ?_
      refine xr_sipush (pc := 126) X dX6_simulate_126 (v := 999) (by decide) ?_
      refine x_jn (fun (KK21 : Int32 → xS → Option (Int32 × xS)) => ∀ zz19 σ20, xM Γ D ad N Sh (xQI Γ D ad N Sh 0 0) 0 0 (KK21 zz19 σ20) σ20 140 [(7, .int zz18)] [.int zz19, .int 10000]) (fun zz19 σ20 => ?_) (fun KK21 hKK22 => ?_)
      · refine xr_imul (pc := 140) X dX6_simulate_140 ?_
        refine xr_iload (pc := 141) X (i := 7) 0 rfl dX6_simulate_141 ?_
        refine xr_sipush (pc := 143) X dX6_simulate_143 (v := 9999) (by decide) ?_
        refine xr_icmp_le (pc := 146) X 155 (by decide) dX6_simulate_146 (fun _ => ?_) (fun _ => ?_)
        · refine xr_iload (pc := 155) X (i := 7) 0 rfl dX6_simulate_155 ?_
          refine xr_iadd (pc := 157) X dX6_simulate_157 ?_
          exact xr_iret (pc := 158) X (Nat.le_of_ble_eq_true rfl) (Nat.le_of_ble_eq_true rfl) dX6_simulate_158
        refine xr_sipush (pc := 149) X dX6_simulate_149 (v := 9999) (by decide) ?_
        refine xr_goto (pc := 152) X 157 (by decide) dX6_simulate_152 ?_
        refine xr_iadd (pc := 157) X dX6_simulate_157 ?_
        exact xr_iret (pc := 158) X (Nat.le_of_ble_eq_true rfl) (Nat.le_of_ble_eq_true rfl) dX6_simulate_158
      refine xr_icmp_le (pc := 129) X 138 (by decide) dX6_simulate_129 (fun _ => ?_) (fun _ => ?_)
      · refine xr_iload (pc := 138) X (i := 6) 0 rfl dX6_simulate_138 ?_
        exact x_sub [1] rfl (hKK22 _ _)
      refine xr_sipush (pc := 132) X dX6_simulate_132 (v := 999) (by decide) ?_
      refine xr_goto (pc := 135) X 140 (by decide) dX6_simulate_135 ?_
      exact x_sub [1] rfl (hKK22 _ _)
    refine xr_iconst (pc := 24) X dX6_simulate_24 (v := 0) (by decide) ?_
    exact xr_iret (pc := 25) X (Nat.le_of_ble_eq_true rfl) (Nat.le_of_ble_eq_true rfl) dX6_simulate_25
  refine xr_if_eq (pc := 10) X 17 (by decide) dX6_simulate_10 (fun _ => ?_) (fun _ => ?_)
  · refine xr_iconst (pc := 17) X dX6_simulate_17 (v := 1) (by decide) ?_
    exact hKK35 _ _
  refine xr_iconst (pc := 13) X dX6_simulate_13 (v := 0) (by decide) ?_
  refine xr_goto (pc := 14) X 18 (by decide) dX6_simulate_14 ?_
  exact hKK35 _ _
def F_X6_save (oo0 : Nat) (pp1 : Int32) (σ : xS) : Option (Int32 × xS) :=
  xbI (F_X6_in pp1.toInt64 0 1 σ) (fun (zz2 : Int32) (σ1 : xS) => xjn (fun (zz3 : Int32) (σ4 : xS) => xbI (F_X6_refused oo0 zz3 σ4) (fun (zz6 : Int32) (σ5 : xS) => if zz6 = 0 then (xbV (F_X6_copyState 187 (oo0 + 2) 0 374 (oo0 + 6) (187 * pp1) σ5) (fun (σ7 : xS) => if xin pp1 2 = true then (xlet (xu σ7 (oo0 + 7) pp1.toNatClampNeg (vp_nar .boolean (1 : Int32))) (fun (σ8 : xS) => if xin (1 : Int32) 187 = true then (xlet (σ8 (oo0 + 2) (1 : Int32).toNatClampNeg) (fun (zz9 : Int32) => some (zz9, σ8))) else none)) else none))
 else (some ((0 : Int32), σ5))))
 (fun (KK10 : Int32 → xS → Option (Int32 × xS)) => if zz2 = 0 then (KK10 1 σ1)
 else (KK10 0 σ1)))
abbrev rm_X6_save : Room := { frames := 1, cells := 0, slots := 0, locals := 25 }
set_option maxHeartbeats 4000000 in
set_option maxRecDepth 100000 in
theorem c_X6_save (l : Launch) {D : va_G} {ad : Nat → Nat} {N : Nat} {Sh : xSh} (hI : ∀ i j, i < N → j < N → ad i = ad j → i = j) (oo0 : Nat) (hh0 : xIs6 D ad N Sh oo0) (pp1 : Int32) (σ : xS) : xKI l yX6_save (Cond.code yX6_save cX6_save 2 (some .int) :: wG) rm_X6_save 0 0 D ad N Sh [.ref (ad oo0), .int pp1] σ (F_X6_save oo0 pp1 σ) := by
  refine x_startI (own := RX6) (maxL := 2) (by decide) rfl rfl (Nat.le_of_ble_eq_true rfl) rfl hI (fun Γ hl hnL X => ?_)
  subst hl
  unfold F_X6_save
  refine xr_aload_n (pc := 0) X (i := 0) 0 rfl rfl dX6_save_0 ?_
  refine xr_iload_n (pc := 1) X (i := 1) 1 rfl rfl dX6_save_1 ?_
  refine xr_i2l (pc := 2) X dX6_save_2 ?_
  refine xr_lconst (pc := 3) X dX6_save_3 (v := 0) rfl ?_
  refine xr_lconst (pc := 4) X dX6_save_4 (v := 1) rfl ?_
  refine xr_callSI (na := 3) (pc := 5) X [.long pp1.toInt64, .long 0, .long 1] (c_X6_in Γ.2.1 hI pp1.toInt64 0 1 σ) (wG_S wm_8_1 wm_7_23 wm_8_0 wm_1_5) rfl rfl rfl (by decide +kernel) ⟨Nat.le_of_ble_eq_true rfl, Nat.le_of_ble_eq_true rfl⟩ rfl rfl (Nat.le_of_ble_eq_true rfl) ⟨Nat.le_of_ble_eq_true rfl, Nat.le_of_ble_eq_true rfl⟩ dX6_save_5 (fun zz2 σ1 => ?_)
  refine x_jn (fun (KK10 : Int32 → xS → Option (Int32 × xS)) => ∀ zz3 σ4, xM Γ D ad N Sh (xQI Γ D ad N Sh 0 0) 0 0 (KK10 zz3 σ4) σ4 16 [(0, .ref (ad oo0)), (1, .int pp1)] [.int zz3, .ref (ad oo0)]) (fun zz3 σ4 => ?_) (fun KK10 hKK11 => ?_)
  · refine xr_callVI (na := 1) (pc := 16) X (oo0) [.int zz3] _ (c_X6_refused Γ.2.1 hI oo0 hh0 zz3 σ4) (wG_V wm_8_5 wm_8_2 wm_8_3 wm_8_4 wm_1_5) rfl rfl rfl (by decide +kernel) ⟨Nat.le_of_ble_eq_true rfl, Nat.le_of_ble_eq_true rfl⟩ hh0.1.1 hh0.1.2 rfl (T := TX6) (C := RX6) rfl rfl rfl (Nat.le_of_ble_eq_true rfl) ⟨Nat.le_of_ble_eq_true rfl, Nat.le_of_ble_eq_true rfl⟩ dX6_save_16 (fun zz6 σ5 => ?_)
    refine xr_if_eq (pc := 19) X 24 (by decide) dX6_save_19 (fun _ => ?_) (fun _ => ?_)
    · refine xr_aload_n (pc := 24) X (i := 0) 0 rfl rfl dX6_save_24 ?_
      refine xgX6 (pc := 25) X (oo0) hh0.1 3 wm_5_21 rfl rfl (by decide) rfl dX6_save_25 ?_
      refine xr_iconst (pc := 28) X dX6_save_28 (v := 0) (by decide) ?_
      refine xr_aload_n (pc := 29) X (i := 0) 0 rfl rfl dX6_save_29 ?_
      refine xgX6 (pc := 30) X (oo0) hh0.1 8 wm_6_1 rfl rfl (by decide) rfl dX6_save_30 ?_
      refine xr_sipush (pc := 33) X dX6_save_33 (v := 187) (by decide) ?_
      refine xr_iload_n (pc := 36) X (i := 1) 1 rfl rfl dX6_save_36 ?_
      refine xr_imul (pc := 37) X dX6_save_37 ?_
      refine xr_callSV (na := 4) (pc := 38) X [.ref (ad (oo0 + 2)), .int 0, .ref (ad (oo0 + 6)), .int (187 * pp1)] (c_X6_copyState Γ.2.1 hI 187 (oo0 + 2) hh0.2.2.1 0 374 (oo0 + 6) hh0.2.2.2.2.2.2.1 (187 * pp1) σ5) (wG_S wm_18_9 wm_18_7 wm_18_8 wm_1_5) rfl rfl rfl (by decide +kernel) ⟨Nat.le_of_ble_eq_true rfl, Nat.le_of_ble_eq_true rfl⟩ rfl rfl (Nat.le_of_ble_eq_true rfl) ⟨Nat.le_of_ble_eq_true rfl, Nat.le_of_ble_eq_true rfl⟩ dX6_save_38 (fun σ7 => ?_)
      refine xr_aload_n (pc := 41) X (i := 0) 0 rfl rfl dX6_save_41 ?_
      refine xgX6 (pc := 42) X (oo0) hh0.1 9 wm_6_2 rfl rfl (by decide) rfl dX6_save_42 ?_
      refine xr_iload_n (pc := 45) X (i := 1) 1 rfl rfl dX6_save_45 ?_
      refine xr_iconst (pc := 46) X dX6_save_46 (v := 1) (by decide) ?_
      refine xr_zast (pc := 47) X (oo0 + 7) (2) hh0.2.2.2.2.2.2.2.1 hh0.2.2.2.2.2.2.2.2 dX6_save_47 (fun σ8 => ?_)
      refine xr_aload_n (pc := 48) X (i := 0) 0 rfl rfl dX6_save_48 ?_
      refine xgX6 (pc := 49) X (oo0) hh0.1 3 wm_5_21 rfl rfl (by decide) rfl dX6_save_49 ?_
      refine xr_iconst (pc := 52) X dX6_save_52 (v := 1) (by decide) ?_
      refine xr_iald (pc := 53) X (oo0 + 2) (187) hh0.2.2.1.1 hh0.2.2.1.2 dX6_save_53 (fun zz9 => ?_)
      exact xr_iret (pc := 54) X (Nat.le_of_ble_eq_true rfl) (Nat.le_of_ble_eq_true rfl) dX6_save_54
    refine xr_iconst (pc := 22) X dX6_save_22 (v := 0) (by decide) ?_
    exact xr_iret (pc := 23) X (Nat.le_of_ble_eq_true rfl) (Nat.le_of_ble_eq_true rfl) dX6_save_23
  refine xr_if_eq (pc := 8) X 15 (by decide) dX6_save_8 (fun _ => ?_) (fun _ => ?_)
  · refine xr_iconst (pc := 15) X dX6_save_15 (v := 1) (by decide) ?_
    exact hKK11 _ _
  refine xr_iconst (pc := 11) X dX6_save_11 (v := 0) (by decide) ?_
  refine xr_goto (pc := 12) X 16 (by decide) dX6_save_12 ?_
  exact hKK11 _ _
def F_X6_restore (oo0 : Nat) (pp1 : Int32) (σ : xS) : Option (Int32 × xS) :=
  xbI (F_X6_in pp1.toInt64 0 1 σ) (fun (zz2 : Int32) (σ1 : xS) => xjn (fun (zz3 : Int32) (σ4 : xS) => xbI (F_X6_refused oo0 zz3 σ4) (fun (zz6 : Int32) (σ5 : xS) => if zz6 = 0 then (xbV (F_X6_copyState 374 (oo0 + 6) (187 * pp1) 187 (oo0 + 2) 0 σ5) (fun (σ7 : xS) => xlet (xu σ7 oo0 7 0) (fun (σ8 : xS) => if xin (1 : Int32) 187 = true then (xlet (σ8 (oo0 + 2) (1 : Int32).toNatClampNeg) (fun (zz9 : Int32) => some (zz9, σ8))) else none)))
 else (some ((0 : Int32), σ5))))
 (fun (KK10 : Int32 → xS → Option (Int32 × xS)) => if ¬ zz2 = 0 then (if xin pp1 2 = true then (xlet (σ1 (oo0 + 7) pp1.toNatClampNeg) (fun (zz12 : Int32) => if ¬ zz12 = 0 then (KK10 0 σ1)
 else (KK10 2 σ1))) else none)
 else (KK10 1 σ1)))
abbrev rm_X6_restore : Room := { frames := 1, cells := 0, slots := 0, locals := 25 }
set_option maxHeartbeats 4000000 in
set_option maxRecDepth 100000 in
theorem c_X6_restore (l : Launch) {D : va_G} {ad : Nat → Nat} {N : Nat} {Sh : xSh} (hI : ∀ i j, i < N → j < N → ad i = ad j → i = j) (oo0 : Nat) (hh0 : xIs6 D ad N Sh oo0) (pp1 : Int32) (σ : xS) : xKI l yX6_restore (Cond.code yX6_restore cX6_restore 2 (some .int) :: wG) rm_X6_restore 0 0 D ad N Sh [.ref (ad oo0), .int pp1] σ (F_X6_restore oo0 pp1 σ) := by
  refine x_startI (own := RX6) (maxL := 2) (by decide) rfl rfl (Nat.le_of_ble_eq_true rfl) rfl hI (fun Γ hl hnL X => ?_)
  subst hl
  unfold F_X6_restore
  refine xr_aload_n (pc := 0) X (i := 0) 0 rfl rfl dX6_restore_0 ?_
  refine xr_iload_n (pc := 1) X (i := 1) 1 rfl rfl dX6_restore_1 ?_
  refine xr_i2l (pc := 2) X dX6_restore_2 ?_
  refine xr_lconst (pc := 3) X dX6_restore_3 (v := 0) rfl ?_
  refine xr_lconst (pc := 4) X dX6_restore_4 (v := 1) rfl ?_
  refine xr_callSI (na := 3) (pc := 5) X [.long pp1.toInt64, .long 0, .long 1] (c_X6_in Γ.2.1 hI pp1.toInt64 0 1 σ) (wG_S wm_8_1 wm_7_23 wm_8_0 wm_1_5) rfl rfl rfl (by decide +kernel) ⟨Nat.le_of_ble_eq_true rfl, Nat.le_of_ble_eq_true rfl⟩ rfl rfl (Nat.le_of_ble_eq_true rfl) ⟨Nat.le_of_ble_eq_true rfl, Nat.le_of_ble_eq_true rfl⟩ dX6_restore_5 (fun zz2 σ1 => ?_)
  refine x_jn (fun (KK10 : Int32 → xS → Option (Int32 × xS)) => ∀ zz3 σ4, xM Γ D ad N Sh (xQI Γ D ad N Sh 0 0) 0 0 (KK10 zz3 σ4) σ4 29 [(0, .ref (ad oo0)), (1, .int pp1)] [.int zz3, .ref (ad oo0)]) (fun zz3 σ4 => ?_) (fun KK10 hKK11 => ?_)
  · refine xr_callVI (na := 1) (pc := 29) X (oo0) [.int zz3] _ (c_X6_refused Γ.2.1 hI oo0 hh0 zz3 σ4) (wG_V wm_8_5 wm_8_2 wm_8_3 wm_8_4 wm_1_5) rfl rfl rfl (by decide +kernel) ⟨Nat.le_of_ble_eq_true rfl, Nat.le_of_ble_eq_true rfl⟩ hh0.1.1 hh0.1.2 rfl (T := TX6) (C := RX6) rfl rfl rfl (Nat.le_of_ble_eq_true rfl) ⟨Nat.le_of_ble_eq_true rfl, Nat.le_of_ble_eq_true rfl⟩ dX6_restore_29 (fun zz6 σ5 => ?_)
    refine xr_if_eq (pc := 32) X 37 (by decide) dX6_restore_32 (fun _ => ?_) (fun _ => ?_)
    · refine xr_aload_n (pc := 37) X (i := 0) 0 rfl rfl dX6_restore_37 ?_
      refine xgX6 (pc := 38) X (oo0) hh0.1 8 wm_6_1 rfl rfl (by decide) rfl dX6_restore_38 ?_
      refine xr_sipush (pc := 41) X dX6_restore_41 (v := 187) (by decide) ?_
      refine xr_iload_n (pc := 44) X (i := 1) 1 rfl rfl dX6_restore_44 ?_
      refine xr_imul (pc := 45) X dX6_restore_45 ?_
      refine xr_aload_n (pc := 46) X (i := 0) 0 rfl rfl dX6_restore_46 ?_
      refine xgX6 (pc := 47) X (oo0) hh0.1 3 wm_5_21 rfl rfl (by decide) rfl dX6_restore_47 ?_
      refine xr_iconst (pc := 50) X dX6_restore_50 (v := 0) (by decide) ?_
      refine xr_callSV (na := 4) (pc := 51) X [.ref (ad (oo0 + 6)), .int (187 * pp1), .ref (ad (oo0 + 2)), .int 0] (c_X6_copyState Γ.2.1 hI 374 (oo0 + 6) hh0.2.2.2.2.2.2.1 (187 * pp1) 187 (oo0 + 2) hh0.2.2.1 0 σ5) (wG_S wm_18_9 wm_18_7 wm_18_8 wm_1_5) rfl rfl rfl (by decide +kernel) ⟨Nat.le_of_ble_eq_true rfl, Nat.le_of_ble_eq_true rfl⟩ rfl rfl (Nat.le_of_ble_eq_true rfl) ⟨Nat.le_of_ble_eq_true rfl, Nat.le_of_ble_eq_true rfl⟩ dX6_restore_51 (fun σ7 => ?_)
      refine xr_aload_n (pc := 54) X (i := 0) 0 rfl rfl dX6_restore_54 ?_
      refine xr_iconst (pc := 55) X dX6_restore_55 (v := 0) (by decide) ?_
      refine xpX6 (pc := 56) X (oo0) hh0.1 7 wm_18_6 (ty := .int) rfl (fun _ => rfl) rfl (by decide +kernel) rfl rfl (Nat.le_of_ble_eq_true rfl) (by decide) rfl dX6_restore_56 (fun σ8 => ?_)
      refine xr_aload_n (pc := 59) X (i := 0) 0 rfl rfl dX6_restore_59 ?_
      refine xgX6 (pc := 60) X (oo0) hh0.1 3 wm_5_21 rfl rfl (by decide) rfl dX6_restore_60 ?_
      refine xr_iconst (pc := 63) X dX6_restore_63 (v := 1) (by decide) ?_
      refine xr_iald (pc := 64) X (oo0 + 2) (187) hh0.2.2.1.1 hh0.2.2.1.2 dX6_restore_64 (fun zz9 => ?_)
      exact xr_iret (pc := 65) X (Nat.le_of_ble_eq_true rfl) (Nat.le_of_ble_eq_true rfl) dX6_restore_65
    refine xr_iconst (pc := 35) X dX6_restore_35 (v := 0) (by decide) ?_
    exact xr_iret (pc := 36) X (Nat.le_of_ble_eq_true rfl) (Nat.le_of_ble_eq_true rfl) dX6_restore_36
  refine xr_if_ne (pc := 8) X 15 (by decide) dX6_restore_8 (fun _ => ?_) (fun _ => ?_)
  · refine xr_aload_n (pc := 15) X (i := 0) 0 rfl rfl dX6_restore_15 ?_
    refine xgX6 (pc := 16) X (oo0) hh0.1 9 wm_6_2 rfl rfl (by decide) rfl dX6_restore_16 ?_
    refine xr_iload_n (pc := 19) X (i := 1) 1 rfl rfl dX6_restore_19 ?_
    refine xr_zald (pc := 20) X (oo0 + 7) (2) hh0.2.2.2.2.2.2.2.1 hh0.2.2.2.2.2.2.2.2 dX6_restore_20 (fun zz12 => ?_)
    refine xr_if_ne (pc := 21) X 28 (by decide) dX6_restore_21 (fun _ => ?_) (fun _ => ?_)
    · refine xr_iconst (pc := 28) X dX6_restore_28 (v := 0) (by decide) ?_
      exact hKK11 _ _
    refine xr_iconst (pc := 24) X dX6_restore_24 (v := 2) (by decide) ?_
    refine xr_goto (pc := 25) X 29 (by decide) dX6_restore_25 ?_
    exact hKK11 _ _
  refine xr_iconst (pc := 11) X dX6_restore_11 (v := 1) (by decide) ?_
  refine xr_goto (pc := 12) X 29 (by decide) dX6_restore_12 ?_
  exact hKK11 _ _
