def L_L_alike_36 (oo1 : Nat) (oo2 : Nat) (pp3 : Int32) (KK17 : Int32 → xS → Option (Int32 × xS)) : Nat → Int32 → Int32 → xS → Option (Int32 × xS)
  | 0, _, _, _ => none
  | nn_14 + 1, zz11, zz12, σ13 => if 9 ≤ zz12 then (KK17 zz11 σ13)
 else (if zz11 = 0 then (KK17 zz11 σ13)
 else (xbI (F_L_call oo1 2 zz12 0 0 σ13) (fun (zz21 : Int32) (σ20 : xS) => xbI (F_L_call oo2 2 zz12 0 0 σ20) (fun (zz23 : Int32) (σ22 : xS) => if ¬ zz21 = zz23 then (xlet (zz12 + 1) (fun (zz24 : Int32) => L_L_alike_36 oo1 oo2 pp3 KK17 nn_14 0 zz24 σ22))
 else (xbI (F_L_call oo1 7 zz12 0 0 σ22) (fun (zz26 : Int32) (σ25 : xS) => xbI (F_L_call oo2 7 zz12 0 0 σ25) (fun (zz28 : Int32) (σ27 : xS) => if ¬ zz26 = zz28 then (xlet (zz12 + 1) (fun (zz29 : Int32) => L_L_alike_36 oo1 oo2 pp3 KK17 nn_14 0 zz29 σ27))
 else (xbI (F_L_call oo1 3 (zz12 - zz12 / 4 * 4) (pp3 - pp3 / 7 * 7) 0 σ27) (fun (zz31 : Int32) (σ30 : xS) => xbI (F_L_call oo2 3 (zz12 - zz12 / 4 * 4) (pp3 - pp3 / 7 * 7) 0 σ30) (fun (zz33 : Int32) (σ32 : xS) => if ¬ zz31 = zz33 then (xlet (zz12 + 1) (fun (zz34 : Int32) => L_L_alike_36 oo1 oo2 pp3 KK17 nn_14 0 zz34 σ32))
 else (xbI (F_L_call oo1 4 (zz12 - zz12 / 4 * 4) (pp3 - pp3 / 6 * 6) 0 σ32) (fun (zz36 : Int32) (σ35 : xS) => xbI (F_L_call oo2 4 (zz12 - zz12 / 4 * 4) (pp3 - pp3 / 6 * 6) 0 σ35) (fun (zz38 : Int32) (σ37 : xS) => if ¬ zz36 = zz38 then (xlet (zz12 + 1) (fun (zz39 : Int32) => L_L_alike_36 oo1 oo2 pp3 KK17 nn_14 0 zz39 σ37))
 else (xbI (F_L_call oo1 5 (pp3 - pp3 / 4 * 4) zz12 (pp3 - pp3 / 2 * 2) σ37) (fun (zz41 : Int32) (σ40 : xS) => xbI (F_L_call oo2 5 (pp3 - pp3 / 4 * 4) zz12 (pp3 - pp3 / 2 * 2) σ40) (fun (zz43 : Int32) (σ42 : xS) => if ¬ zz41 = zz43 then (xlet (zz12 + 1) (fun (zz44 : Int32) => L_L_alike_36 oo1 oo2 pp3 KK17 nn_14 0 zz44 σ42))
 else (xbI (F_L_call oo1 6 zz12 (pp3 - pp3 / 3 * 3) 0 σ42) (fun (zz46 : Int32) (σ45 : xS) => xbI (F_L_call oo2 6 zz12 (pp3 - pp3 / 3 * 3) 0 σ45) (fun (zz48 : Int32) (σ47 : xS) => if ¬ zz46 = zz48 then (xlet (zz12 + 1) (fun (zz49 : Int32) => L_L_alike_36 oo1 oo2 pp3 KK17 nn_14 0 zz49 σ47))
 else (xlet (zz12 + 1) (fun (zz50 : Int32) => L_L_alike_36 oo1 oo2 pp3 KK17 nn_14 1 zz50 σ47)))))))))))))))))))))
def F_L_alike (oo1 : Nat) (oo2 : Nat) (pp3 : Int32) (σ : xS) : Option (Int32 × xS) :=
  xbI (F_L_doSimulate oo1 pp3.toInt64 (1 + (pp3 - pp3 / 20 * 20)) σ) (fun (zz2 : Int32) (σ1 : xS) => xbI (F_L_doSimulate oo2 pp3.toInt64 (1 + (pp3 - pp3 / 20 * 20)) σ1) (fun (zz4 : Int32) (σ3 : xS) => xjn (fun (zz5 : Int32) (σ6 : xS) => L_L_alike_36 oo1 oo2 pp3 (fun (zz16 : Int32) (σ19 : xS) => if vp_nar .boolean zz16 = zz16 then some (zz16, σ19) else none) 10 zz5 0 σ6)
 (fun (KK7 : Int32 → xS → Option (Int32 × xS)) => if ¬ zz2 = zz4 then (KK7 0 σ3)
 else (KK7 1 σ3))))
abbrev rm_L_alike : Room := { frames := 11, cells := 398, slots := 2388, locals := 220 }
set_option maxHeartbeats 400000000 in
set_option maxRecDepth 100000 in
theorem c_L_alike (l : Launch) {D : va_G} {ad : Nat → Nat} {N : Nat} {Sh : xSh} (hI : ∀ i j, i < N → j < N → ad i = ad j → i = j) (hst : l.stackTraces = false) (oo1 : Nat) (hh1 : xIs5 D ad N Sh oo1) (oo2 : Nat) (hh2 : xIs5 D ad N Sh oo2) (pp3 : Int32) (σ : xS) : xKI l yL_alike (Cond.code yL_alike cL_alike 5 (some .boolean) :: wG) rm_L_alike 398 2388 D ad N Sh [.ref (ad oo1), .ref (ad oo2), .int pp3] σ (F_L_alike oo1 oo2 pp3 σ) := by
  refine x_startI (own := RL) (maxL := 5) (by decide) rfl rfl (Nat.le_of_ble_eq_true rfl) rfl hI (fun Γ hl hnL X => ?_)
  subst hl
  unfold F_L_alike
  refine xr_aload_n (pc := 0) X (i := 0) 0 rfl rfl dL_alike_0 ?_
  refine xr_iload_n (pc := 1) X (i := 2) 2 rfl rfl dL_alike_1 ?_
  refine xr_i2l (pc := 2) X dL_alike_2 ?_
  refine xr_iconst (pc := 3) X dL_alike_3 (v := 1) (by decide) ?_
  refine xr_iload_n (pc := 4) X (i := 2) 2 rfl rfl dL_alike_4 ?_
  refine xr_bipush (pc := 5) X dL_alike_5 (v := 20) (by decide) ?_
  refine xr_irem (pc := 7) X (by decide) dL_alike_7 ?_
  refine xr_iadd (pc := 8) X dL_alike_8 ?_
  refine xr_callSWI (na := 3) (pc := 9) X [.ref (ad oo1), .long pp3.toInt64, .int (1 + (pp3 - pp3 / 20 * 20))] (c_L_doSimulate Γ.2.1 hI hst oo1 hh1 pp3.toInt64 (1 + (pp3 - pp3 / 20 * 20)) σ) (wG_SW wm_22_22 wm_22_20 wm_22_21 wm_5_14) rfl rfl rfl (by decide +kernel) ⟨Nat.le_of_ble_eq_true rfl, Nat.le_of_ble_eq_true rfl⟩ rfl rfl (Nat.le_of_ble_eq_true rfl) ⟨(show _ ≤ 398 by omega), (show _ ≤ 2388 by omega)⟩ dL_alike_9 (fun zz2 σ1 => ?_)
  refine xr_aload_n (pc := 12) X (i := 1) 1 rfl rfl dL_alike_12 ?_
  refine xr_iload_n (pc := 13) X (i := 2) 2 rfl rfl dL_alike_13 ?_
  refine xr_i2l (pc := 14) X dL_alike_14 ?_
  refine xr_iconst (pc := 15) X dL_alike_15 (v := 1) (by decide) ?_
  refine xr_iload_n (pc := 16) X (i := 2) 2 rfl rfl dL_alike_16 ?_
  refine xr_bipush (pc := 17) X dL_alike_17 (v := 20) (by decide) ?_
  refine xr_irem (pc := 19) X (by decide) dL_alike_19 ?_
  refine xr_iadd (pc := 20) X dL_alike_20 ?_
  refine xr_callSWI (na := 3) (pc := 21) X [.ref (ad oo2), .long pp3.toInt64, .int (1 + (pp3 - pp3 / 20 * 20))] (c_L_doSimulate Γ.2.1 hI hst oo2 hh2 pp3.toInt64 (1 + (pp3 - pp3 / 20 * 20)) σ1) (wG_SW wm_22_22 wm_22_20 wm_22_21 wm_5_14) rfl rfl rfl (by decide +kernel) ⟨Nat.le_of_ble_eq_true rfl, Nat.le_of_ble_eq_true rfl⟩ rfl rfl (Nat.le_of_ble_eq_true rfl) ⟨(show _ ≤ 398 by omega), (show _ ≤ 2388 by omega)⟩ dL_alike_21 (fun zz4 σ3 => ?_)
  refine x_jn (fun (KK7 : Int32 → xS → Option (Int32 × xS)) => ∀ zz5 σ6, xM Γ D ad N Sh (xQI Γ D ad N Sh 398 2388) 2 12 (KK7 zz5 σ6) σ6 32 [(0, .ref (ad oo1)), (1, .ref (ad oo2)), (2, .int pp3)] [.int zz5]) (fun zz5 σ6 => ?_) (fun KK7 hKK8 => ?_)
  · refine xr_istore_n (pc := 32) X (hf := rfl) (i := 3) (lv2 := [(0, .ref (ad oo1)), (1, .ref (ad oo2)), (2, .int pp3), (3, .int zz5)]) [1, 2, 3, 0] (Nat.le_of_ble_eq_true rfl) hnL rfl dL_alike_32 ?_
    refine xr_iconst (pc := 33) X dL_alike_33 (v := 0) (by decide) ?_
    refine xr_istore (pc := 34) X (i := 4) (lv2 := [(0, .ref (ad oo1)), (1, .ref (ad oo2)), (2, .int pp3), (3, .int zz5), (4, .int 0)]) [1, 2, 3, 4, 0] (Nat.le_of_ble_eq_true rfl) hnL rfl dL_alike_34 ?_
    have hLL51 : ∀ (KK17 : Int32 → xS → Option (Int32 × xS)) (hKK18 : ∀ zz16 σ19, xM Γ D ad N Sh (xQI Γ D ad N Sh 398 2388) 398 2388 (KK17 zz16 σ19) σ19 221 [(3, .int zz16)] []), ∀ (nn_14 : Nat) zz11 zz12 σ13 (kk_9 : Nat), kk_9 + 36 * (nn_14 + 1) ≤ 398 → xM Γ D ad N Sh (xQI Γ D ad N Sh 398 2388) (kk_9 + 0) (6 * kk_9 + 0) (L_L_alike_36 oo1 oo2 pp3 KK17 nn_14 zz11 zz12 σ13) σ13 36 [(0, .ref (ad oo1)), (1, .ref (ad oo2)), (2, .int pp3), (3, .int zz11), (4, .int zz12)] [] := by
      intro KK17 hKK18 nn_14
      induction nn_14 with
      | zero => intro zz11 zz12 σ13 kk_9 _; exact xM_none
      | succ nn_14 ihh15 =>
        intro zz11 zz12 σ13 kk_9 hk_10
        rw [L_L_alike_36]
        refine xr_iload (pc := 36) X (i := 4) 4 rfl dL_alike_36 ?_
        refine xr_bipush (pc := 38) X dL_alike_38 (v := 9) (by decide) ?_
        refine xr_icmp_ge (pc := 40) X 221 (by decide) dL_alike_40 (fun _ => ?_) (fun _ => ?_)
        · exact x_sub [3] rfl (x_wid (by omega) (by omega) (hKK18 _ _))
        refine xr_iload_n (pc := 43) X (i := 3) 3 rfl rfl dL_alike_43 ?_
        refine xr_if_eq (pc := 44) X 221 (by decide) dL_alike_44 (fun _ => ?_) (fun _ => ?_)
        · exact x_sub [3] rfl (x_wid (by omega) (by omega) (hKK18 _ _))
        refine xr_aload_n (pc := 47) X (i := 0) 0 rfl rfl dL_alike_47 ?_
        refine xr_iconst (pc := 48) X dL_alike_48 (v := 2) (by decide) ?_
        refine xr_iload (pc := 49) X (i := 4) 4 rfl dL_alike_49 ?_
        refine xr_iconst (pc := 51) X dL_alike_51 (v := 0) (by decide) ?_
        refine xr_iconst (pc := 52) X dL_alike_52 (v := 0) (by decide) ?_
        refine xr_callSI (na := 5) (pc := 53) X [.ref (ad oo1), .int 2, .int zz12, .int 0, .int 0] (c_L_call Γ.2.1 hI hst oo1 hh1 2 zz12 0 0 σ13) (wG_S wm_5_23 wm_5_21 wm_5_22 wm_5_14) rfl rfl rfl (by decide +kernel) ⟨Nat.le_of_ble_eq_true rfl, Nat.le_of_ble_eq_true rfl⟩ rfl rfl (Nat.le_of_ble_eq_true rfl) ⟨(show _ ≤ 398 by omega), (show _ ≤ 2388 by omega)⟩ dL_alike_53 (fun zz21 σ20 => ?_)
        refine xr_aload_n (pc := 56) X (i := 1) 1 rfl rfl dL_alike_56 ?_
        refine xr_iconst (pc := 57) X dL_alike_57 (v := 2) (by decide) ?_
        refine xr_iload (pc := 58) X (i := 4) 4 rfl dL_alike_58 ?_
        refine xr_iconst (pc := 60) X dL_alike_60 (v := 0) (by decide) ?_
        refine xr_iconst (pc := 61) X dL_alike_61 (v := 0) (by decide) ?_
        refine xr_callSI (na := 5) (pc := 62) X [.ref (ad oo2), .int 2, .int zz12, .int 0, .int 0] (c_L_call Γ.2.1 hI hst oo2 hh2 2 zz12 0 0 σ20) (wG_S wm_5_23 wm_5_21 wm_5_22 wm_5_14) rfl rfl rfl (by decide +kernel) ⟨Nat.le_of_ble_eq_true rfl, Nat.le_of_ble_eq_true rfl⟩ rfl rfl (Nat.le_of_ble_eq_true rfl) ⟨(show _ ≤ 398 by omega), (show _ ≤ 2388 by omega)⟩ dL_alike_62 (fun zz23 σ22 => ?_)
        refine xr_icmp_ne (pc := 65) X 213 (by decide) dL_alike_65 (fun _ => ?_) (fun _ => ?_)
        · refine xr_iconst (pc := 213) X dL_alike_213 (v := 0) (by decide) ?_
          refine xr_istore_n (pc := 214) X (hf := rfl) (i := 3) (lv2 := [(0, .ref (ad oo1)), (1, .ref (ad oo2)), (2, .int pp3), (3, .int 0), (4, .int zz12)]) [1, 2, 3, 0, 4] (Nat.le_of_ble_eq_true rfl) hnL rfl dL_alike_214 ?_
          refine xr_iinc (pc := 215) X (i := 4) (j := 4) [1, 2, 3, 4, 0] (Nat.le_of_ble_eq_true rfl) hnL rfl rfl (fun zz24 => [(0, .ref (ad oo1)), (1, .ref (ad oo2)), (2, .int pp3), (3, .int 0), (4, .int zz24)]) (fun _ => rfl) dL_alike_215 (fun zz24 => ?_)
          refine xr_goto (pc := 218) X 36 (by decide) dL_alike_218 ?_
          exact x_wid (k2 := (kk_9 + 6)) (n2 := 6 * ((kk_9 + 6))) (by omega) (by omega) (ihh15 _ _ _ (kk_9 + 6) (by omega))
        refine xr_aload_n (pc := 68) X (i := 0) 0 rfl rfl dL_alike_68 ?_
        refine xr_bipush (pc := 69) X dL_alike_69 (v := 7) (by decide) ?_
        refine xr_iload (pc := 71) X (i := 4) 4 rfl dL_alike_71 ?_
        refine xr_iconst (pc := 73) X dL_alike_73 (v := 0) (by decide) ?_
        refine xr_iconst (pc := 74) X dL_alike_74 (v := 0) (by decide) ?_
        refine xr_callSI (na := 5) (pc := 75) X [.ref (ad oo1), .int 7, .int zz12, .int 0, .int 0] (c_L_call Γ.2.1 hI hst oo1 hh1 7 zz12 0 0 σ22) (wG_S wm_5_23 wm_5_21 wm_5_22 wm_5_14) rfl rfl rfl (by decide +kernel) ⟨Nat.le_of_ble_eq_true rfl, Nat.le_of_ble_eq_true rfl⟩ rfl rfl (Nat.le_of_ble_eq_true rfl) ⟨(show _ ≤ 398 by omega), (show _ ≤ 2388 by omega)⟩ dL_alike_75 (fun zz26 σ25 => ?_)
        refine xr_aload_n (pc := 78) X (i := 1) 1 rfl rfl dL_alike_78 ?_
        refine xr_bipush (pc := 79) X dL_alike_79 (v := 7) (by decide) ?_
        refine xr_iload (pc := 81) X (i := 4) 4 rfl dL_alike_81 ?_
        refine xr_iconst (pc := 83) X dL_alike_83 (v := 0) (by decide) ?_
        refine xr_iconst (pc := 84) X dL_alike_84 (v := 0) (by decide) ?_
        refine xr_callSI (na := 5) (pc := 85) X [.ref (ad oo2), .int 7, .int zz12, .int 0, .int 0] (c_L_call Γ.2.1 hI hst oo2 hh2 7 zz12 0 0 σ25) (wG_S wm_5_23 wm_5_21 wm_5_22 wm_5_14) rfl rfl rfl (by decide +kernel) ⟨Nat.le_of_ble_eq_true rfl, Nat.le_of_ble_eq_true rfl⟩ rfl rfl (Nat.le_of_ble_eq_true rfl) ⟨(show _ ≤ 398 by omega), (show _ ≤ 2388 by omega)⟩ dL_alike_85 (fun zz28 σ27 => ?_)
        refine xr_icmp_ne (pc := 88) X 213 (by decide) dL_alike_88 (fun _ => ?_) (fun _ => ?_)
        · refine xr_iconst (pc := 213) X dL_alike_213 (v := 0) (by decide) ?_
          refine xr_istore_n (pc := 214) X (hf := rfl) (i := 3) (lv2 := [(0, .ref (ad oo1)), (1, .ref (ad oo2)), (2, .int pp3), (3, .int 0), (4, .int zz12)]) [1, 2, 3, 0, 4] (Nat.le_of_ble_eq_true rfl) hnL rfl dL_alike_214 ?_
          refine xr_iinc (pc := 215) X (i := 4) (j := 4) [1, 2, 3, 4, 0] (Nat.le_of_ble_eq_true rfl) hnL rfl rfl (fun zz29 => [(0, .ref (ad oo1)), (1, .ref (ad oo2)), (2, .int pp3), (3, .int 0), (4, .int zz29)]) (fun _ => rfl) dL_alike_215 (fun zz29 => ?_)
          refine xr_goto (pc := 218) X 36 (by decide) dL_alike_218 ?_
          exact x_wid (k2 := (kk_9 + 12)) (n2 := 6 * ((kk_9 + 12))) (by omega) (by omega) (ihh15 _ _ _ (kk_9 + 12) (by omega))
        refine xr_aload_n (pc := 91) X (i := 0) 0 rfl rfl dL_alike_91 ?_
        refine xr_iconst (pc := 92) X dL_alike_92 (v := 3) (by decide) ?_
        refine xr_iload (pc := 93) X (i := 4) 4 rfl dL_alike_93 ?_
        refine xr_iconst (pc := 95) X dL_alike_95 (v := 4) (by decide) ?_
        refine xr_irem (pc := 96) X (by decide) dL_alike_96 ?_
        refine xr_iload_n (pc := 97) X (i := 2) 2 rfl rfl dL_alike_97 ?_
        refine xr_bipush (pc := 98) X dL_alike_98 (v := 7) (by decide) ?_
        refine xr_irem (pc := 100) X (by decide) dL_alike_100 ?_
        refine xr_iconst (pc := 101) X dL_alike_101 (v := 0) (by decide) ?_
        refine xr_callSI (na := 5) (pc := 102) X [.ref (ad oo1), .int 3, .int (zz12 - zz12 / 4 * 4), .int (pp3 - pp3 / 7 * 7), .int 0] (c_L_call Γ.2.1 hI hst oo1 hh1 3 (zz12 - zz12 / 4 * 4) (pp3 - pp3 / 7 * 7) 0 σ27) (wG_S wm_5_23 wm_5_21 wm_5_22 wm_5_14) rfl rfl rfl (by decide +kernel) ⟨Nat.le_of_ble_eq_true rfl, Nat.le_of_ble_eq_true rfl⟩ rfl rfl (Nat.le_of_ble_eq_true rfl) ⟨(show _ ≤ 398 by omega), (show _ ≤ 2388 by omega)⟩ dL_alike_102 (fun zz31 σ30 => ?_)
        refine xr_aload_n (pc := 105) X (i := 1) 1 rfl rfl dL_alike_105 ?_
        refine xr_iconst (pc := 106) X dL_alike_106 (v := 3) (by decide) ?_
        refine xr_iload (pc := 107) X (i := 4) 4 rfl dL_alike_107 ?_
        refine xr_iconst (pc := 109) X dL_alike_109 (v := 4) (by decide) ?_
        refine xr_irem (pc := 110) X (by decide) dL_alike_110 ?_
        refine xr_iload_n (pc := 111) X (i := 2) 2 rfl rfl dL_alike_111 ?_
        refine xr_bipush (pc := 112) X dL_alike_112 (v := 7) (by decide) ?_
        refine xr_irem (pc := 114) X (by decide) dL_alike_114 ?_
        refine xr_iconst (pc := 115) X dL_alike_115 (v := 0) (by decide) ?_
        refine xr_callSI (na := 5) (pc := 116) X [.ref (ad oo2), .int 3, .int (zz12 - zz12 / 4 * 4), .int (pp3 - pp3 / 7 * 7), .int 0] (c_L_call Γ.2.1 hI hst oo2 hh2 3 (zz12 - zz12 / 4 * 4) (pp3 - pp3 / 7 * 7) 0 σ30) (wG_S wm_5_23 wm_5_21 wm_5_22 wm_5_14) rfl rfl rfl (by decide +kernel) ⟨Nat.le_of_ble_eq_true rfl, Nat.le_of_ble_eq_true rfl⟩ rfl rfl (Nat.le_of_ble_eq_true rfl) ⟨(show _ ≤ 398 by omega), (show _ ≤ 2388 by omega)⟩ dL_alike_116 (fun zz33 σ32 => ?_)
        refine xr_icmp_ne (pc := 119) X 213 (by decide) dL_alike_119 (fun _ => ?_) (fun _ => ?_)
        · refine xr_iconst (pc := 213) X dL_alike_213 (v := 0) (by decide) ?_
          refine xr_istore_n (pc := 214) X (hf := rfl) (i := 3) (lv2 := [(0, .ref (ad oo1)), (1, .ref (ad oo2)), (2, .int pp3), (3, .int 0), (4, .int zz12)]) [1, 2, 3, 0, 4] (Nat.le_of_ble_eq_true rfl) hnL rfl dL_alike_214 ?_
          refine xr_iinc (pc := 215) X (i := 4) (j := 4) [1, 2, 3, 4, 0] (Nat.le_of_ble_eq_true rfl) hnL rfl rfl (fun zz34 => [(0, .ref (ad oo1)), (1, .ref (ad oo2)), (2, .int pp3), (3, .int 0), (4, .int zz34)]) (fun _ => rfl) dL_alike_215 (fun zz34 => ?_)
          refine xr_goto (pc := 218) X 36 (by decide) dL_alike_218 ?_
          exact x_wid (k2 := (kk_9 + 18)) (n2 := 6 * ((kk_9 + 18))) (by omega) (by omega) (ihh15 _ _ _ (kk_9 + 18) (by omega))
        refine xr_aload_n (pc := 122) X (i := 0) 0 rfl rfl dL_alike_122 ?_
        refine xr_iconst (pc := 123) X dL_alike_123 (v := 4) (by decide) ?_
        refine xr_iload (pc := 124) X (i := 4) 4 rfl dL_alike_124 ?_
        refine xr_iconst (pc := 126) X dL_alike_126 (v := 4) (by decide) ?_
        refine xr_irem (pc := 127) X (by decide) dL_alike_127 ?_
        refine xr_iload_n (pc := 128) X (i := 2) 2 rfl rfl dL_alike_128 ?_
        refine xr_bipush (pc := 129) X dL_alike_129 (v := 6) (by decide) ?_
        refine xr_irem (pc := 131) X (by decide) dL_alike_131 ?_
        refine xr_iconst (pc := 132) X dL_alike_132 (v := 0) (by decide) ?_
        refine xr_callSI (na := 5) (pc := 133) X [.ref (ad oo1), .int 4, .int (zz12 - zz12 / 4 * 4), .int (pp3 - pp3 / 6 * 6), .int 0] (c_L_call Γ.2.1 hI hst oo1 hh1 4 (zz12 - zz12 / 4 * 4) (pp3 - pp3 / 6 * 6) 0 σ32) (wG_S wm_5_23 wm_5_21 wm_5_22 wm_5_14) rfl rfl rfl (by decide +kernel) ⟨Nat.le_of_ble_eq_true rfl, Nat.le_of_ble_eq_true rfl⟩ rfl rfl (Nat.le_of_ble_eq_true rfl) ⟨(show _ ≤ 398 by omega), (show _ ≤ 2388 by omega)⟩ dL_alike_133 (fun zz36 σ35 => ?_)
        refine xr_aload_n (pc := 136) X (i := 1) 1 rfl rfl dL_alike_136 ?_
        refine xr_iconst (pc := 137) X dL_alike_137 (v := 4) (by decide) ?_
        refine xr_iload (pc := 138) X (i := 4) 4 rfl dL_alike_138 ?_
        refine xr_iconst (pc := 140) X dL_alike_140 (v := 4) (by decide) ?_
        refine xr_irem (pc := 141) X (by decide) dL_alike_141 ?_
        refine xr_iload_n (pc := 142) X (i := 2) 2 rfl rfl dL_alike_142 ?_
        refine xr_bipush (pc := 143) X dL_alike_143 (v := 6) (by decide) ?_
        refine xr_irem (pc := 145) X (by decide) dL_alike_145 ?_
        refine xr_iconst (pc := 146) X dL_alike_146 (v := 0) (by decide) ?_
        refine xr_callSI (na := 5) (pc := 147) X [.ref (ad oo2), .int 4, .int (zz12 - zz12 / 4 * 4), .int (pp3 - pp3 / 6 * 6), .int 0] (c_L_call Γ.2.1 hI hst oo2 hh2 4 (zz12 - zz12 / 4 * 4) (pp3 - pp3 / 6 * 6) 0 σ35) (wG_S wm_5_23 wm_5_21 wm_5_22 wm_5_14) rfl rfl rfl (by decide +kernel) ⟨Nat.le_of_ble_eq_true rfl, Nat.le_of_ble_eq_true rfl⟩ rfl rfl (Nat.le_of_ble_eq_true rfl) ⟨(show _ ≤ 398 by omega), (show _ ≤ 2388 by omega)⟩ dL_alike_147 (fun zz38 σ37 => ?_)
        refine xr_icmp_ne (pc := 150) X 213 (by decide) dL_alike_150 (fun _ => ?_) (fun _ => ?_)
        · refine xr_iconst (pc := 213) X dL_alike_213 (v := 0) (by decide) ?_
          refine xr_istore_n (pc := 214) X (hf := rfl) (i := 3) (lv2 := [(0, .ref (ad oo1)), (1, .ref (ad oo2)), (2, .int pp3), (3, .int 0), (4, .int zz12)]) [1, 2, 3, 0, 4] (Nat.le_of_ble_eq_true rfl) hnL rfl dL_alike_214 ?_
          refine xr_iinc (pc := 215) X (i := 4) (j := 4) [1, 2, 3, 4, 0] (Nat.le_of_ble_eq_true rfl) hnL rfl rfl (fun zz39 => [(0, .ref (ad oo1)), (1, .ref (ad oo2)), (2, .int pp3), (3, .int 0), (4, .int zz39)]) (fun _ => rfl) dL_alike_215 (fun zz39 => ?_)
          refine xr_goto (pc := 218) X 36 (by decide) dL_alike_218 ?_
          exact x_wid (k2 := (kk_9 + 24)) (n2 := 6 * ((kk_9 + 24))) (by omega) (by omega) (ihh15 _ _ _ (kk_9 + 24) (by omega))
        refine xr_aload_n (pc := 153) X (i := 0) 0 rfl rfl dL_alike_153 ?_
        refine xr_iconst (pc := 154) X dL_alike_154 (v := 5) (by decide) ?_
        refine xr_iload_n (pc := 155) X (i := 2) 2 rfl rfl dL_alike_155 ?_
        refine xr_iconst (pc := 156) X dL_alike_156 (v := 4) (by decide) ?_
        refine xr_irem (pc := 157) X (by decide) dL_alike_157 ?_
        refine xr_iload (pc := 158) X (i := 4) 4 rfl dL_alike_158 ?_
        refine xr_iload_n (pc := 160) X (i := 2) 2 rfl rfl dL_alike_160 ?_
        refine xr_iconst (pc := 161) X dL_alike_161 (v := 2) (by decide) ?_
        refine xr_irem (pc := 162) X (by decide) dL_alike_162 ?_
        refine xr_callSI (na := 5) (pc := 163) X [.ref (ad oo1), .int 5, .int (pp3 - pp3 / 4 * 4), .int zz12, .int (pp3 - pp3 / 2 * 2)] (c_L_call Γ.2.1 hI hst oo1 hh1 5 (pp3 - pp3 / 4 * 4) zz12 (pp3 - pp3 / 2 * 2) σ37) (wG_S wm_5_23 wm_5_21 wm_5_22 wm_5_14) rfl rfl rfl (by decide +kernel) ⟨Nat.le_of_ble_eq_true rfl, Nat.le_of_ble_eq_true rfl⟩ rfl rfl (Nat.le_of_ble_eq_true rfl) ⟨(show _ ≤ 398 by omega), (show _ ≤ 2388 by omega)⟩ dL_alike_163 (fun zz41 σ40 => ?_)
        refine xr_aload_n (pc := 166) X (i := 1) 1 rfl rfl dL_alike_166 ?_
        refine xr_iconst (pc := 167) X dL_alike_167 (v := 5) (by decide) ?_
        refine xr_iload_n (pc := 168) X (i := 2) 2 rfl rfl dL_alike_168 ?_
        refine xr_iconst (pc := 169) X dL_alike_169 (v := 4) (by decide) ?_
        refine xr_irem (pc := 170) X (by decide) dL_alike_170 ?_
        refine xr_iload (pc := 171) X (i := 4) 4 rfl dL_alike_171 ?_
        refine xr_iload_n (pc := 173) X (i := 2) 2 rfl rfl dL_alike_173 ?_
        refine xr_iconst (pc := 174) X dL_alike_174 (v := 2) (by decide) ?_
        refine xr_irem (pc := 175) X (by decide) dL_alike_175 ?_
        refine xr_callSI (na := 5) (pc := 176) X [.ref (ad oo2), .int 5, .int (pp3 - pp3 / 4 * 4), .int zz12, .int (pp3 - pp3 / 2 * 2)] (c_L_call Γ.2.1 hI hst oo2 hh2 5 (pp3 - pp3 / 4 * 4) zz12 (pp3 - pp3 / 2 * 2) σ40) (wG_S wm_5_23 wm_5_21 wm_5_22 wm_5_14) rfl rfl rfl (by decide +kernel) ⟨Nat.le_of_ble_eq_true rfl, Nat.le_of_ble_eq_true rfl⟩ rfl rfl (Nat.le_of_ble_eq_true rfl) ⟨(show _ ≤ 398 by omega), (show _ ≤ 2388 by omega)⟩ dL_alike_176 (fun zz43 σ42 => ?_)
        refine xr_icmp_ne (pc := 179) X 213 (by decide) dL_alike_179 (fun _ => ?_) (fun _ => ?_)
        · refine xr_iconst (pc := 213) X dL_alike_213 (v := 0) (by decide) ?_
          refine xr_istore_n (pc := 214) X (hf := rfl) (i := 3) (lv2 := [(0, .ref (ad oo1)), (1, .ref (ad oo2)), (2, .int pp3), (3, .int 0), (4, .int zz12)]) [1, 2, 3, 0, 4] (Nat.le_of_ble_eq_true rfl) hnL rfl dL_alike_214 ?_
          refine xr_iinc (pc := 215) X (i := 4) (j := 4) [1, 2, 3, 4, 0] (Nat.le_of_ble_eq_true rfl) hnL rfl rfl (fun zz44 => [(0, .ref (ad oo1)), (1, .ref (ad oo2)), (2, .int pp3), (3, .int 0), (4, .int zz44)]) (fun _ => rfl) dL_alike_215 (fun zz44 => ?_)
          refine xr_goto (pc := 218) X 36 (by decide) dL_alike_218 ?_
          exact x_wid (k2 := (kk_9 + 30)) (n2 := 6 * ((kk_9 + 30))) (by omega) (by omega) (ihh15 _ _ _ (kk_9 + 30) (by omega))
        refine xr_aload_n (pc := 182) X (i := 0) 0 rfl rfl dL_alike_182 ?_
        refine xr_bipush (pc := 183) X dL_alike_183 (v := 6) (by decide) ?_
        refine xr_iload (pc := 185) X (i := 4) 4 rfl dL_alike_185 ?_
        refine xr_iload_n (pc := 187) X (i := 2) 2 rfl rfl dL_alike_187 ?_
        refine xr_iconst (pc := 188) X dL_alike_188 (v := 3) (by decide) ?_
        refine xr_irem (pc := 189) X (by decide) dL_alike_189 ?_
        refine xr_iconst (pc := 190) X dL_alike_190 (v := 0) (by decide) ?_
        refine xr_callSI (na := 5) (pc := 191) X [.ref (ad oo1), .int 6, .int zz12, .int (pp3 - pp3 / 3 * 3), .int 0] (c_L_call Γ.2.1 hI hst oo1 hh1 6 zz12 (pp3 - pp3 / 3 * 3) 0 σ42) (wG_S wm_5_23 wm_5_21 wm_5_22 wm_5_14) rfl rfl rfl (by decide +kernel) ⟨Nat.le_of_ble_eq_true rfl, Nat.le_of_ble_eq_true rfl⟩ rfl rfl (Nat.le_of_ble_eq_true rfl) ⟨(show _ ≤ 398 by omega), (show _ ≤ 2388 by omega)⟩ dL_alike_191 (fun zz46 σ45 => ?_)
        refine xr_aload_n (pc := 194) X (i := 1) 1 rfl rfl dL_alike_194 ?_
        refine xr_bipush (pc := 195) X dL_alike_195 (v := 6) (by decide) ?_
        refine xr_iload (pc := 197) X (i := 4) 4 rfl dL_alike_197 ?_
        refine xr_iload_n (pc := 199) X (i := 2) 2 rfl rfl dL_alike_199 ?_
        refine xr_iconst (pc := 200) X dL_alike_200 (v := 3) (by decide) ?_
        refine xr_irem (pc := 201) X (by decide) dL_alike_201 ?_
        refine xr_iconst (pc := 202) X dL_alike_202 (v := 0) (by decide) ?_
        refine xr_callSI (na := 5) (pc := 203) X [.ref (ad oo2), .int 6, .int zz12, .int (pp3 - pp3 / 3 * 3), .int 0] (c_L_call Γ.2.1 hI hst oo2 hh2 6 zz12 (pp3 - pp3 / 3 * 3) 0 σ45) (wG_S wm_5_23 wm_5_21 wm_5_22 wm_5_14) rfl rfl rfl (by decide +kernel) ⟨Nat.le_of_ble_eq_true rfl, Nat.le_of_ble_eq_true rfl⟩ rfl rfl (Nat.le_of_ble_eq_true rfl) ⟨(show _ ≤ 398 by omega), (show _ ≤ 2388 by omega)⟩ dL_alike_203 (fun zz48 σ47 => ?_)
        refine xr_icmp_ne (pc := 206) X 213 (by decide) dL_alike_206 (fun _ => ?_) (fun _ => ?_)
        · refine xr_iconst (pc := 213) X dL_alike_213 (v := 0) (by decide) ?_
          refine xr_istore_n (pc := 214) X (hf := rfl) (i := 3) (lv2 := [(0, .ref (ad oo1)), (1, .ref (ad oo2)), (2, .int pp3), (3, .int 0), (4, .int zz12)]) [1, 2, 3, 0, 4] (Nat.le_of_ble_eq_true rfl) hnL rfl dL_alike_214 ?_
          refine xr_iinc (pc := 215) X (i := 4) (j := 4) [1, 2, 3, 4, 0] (Nat.le_of_ble_eq_true rfl) hnL rfl rfl (fun zz49 => [(0, .ref (ad oo1)), (1, .ref (ad oo2)), (2, .int pp3), (3, .int 0), (4, .int zz49)]) (fun _ => rfl) dL_alike_215 (fun zz49 => ?_)
          refine xr_goto (pc := 218) X 36 (by decide) dL_alike_218 ?_
          exact x_wid (k2 := (kk_9 + 36)) (n2 := 6 * ((kk_9 + 36))) (by omega) (by omega) (ihh15 _ _ _ (kk_9 + 36) (by omega))
        refine xr_iconst (pc := 209) X dL_alike_209 (v := 1) (by decide) ?_
        refine xr_goto (pc := 210) X 214 (by decide) dL_alike_210 ?_
        refine xr_istore_n (pc := 214) X (hf := rfl) (i := 3) (lv2 := [(0, .ref (ad oo1)), (1, .ref (ad oo2)), (2, .int pp3), (3, .int 1), (4, .int zz12)]) [1, 2, 3, 0, 4] (Nat.le_of_ble_eq_true rfl) hnL rfl dL_alike_214 ?_
        refine xr_iinc (pc := 215) X (i := 4) (j := 4) [1, 2, 3, 4, 0] (Nat.le_of_ble_eq_true rfl) hnL rfl rfl (fun zz50 => [(0, .ref (ad oo1)), (1, .ref (ad oo2)), (2, .int pp3), (3, .int 1), (4, .int zz50)]) (fun _ => rfl) dL_alike_215 (fun zz50 => ?_)
        refine xr_goto (pc := 218) X 36 (by decide) dL_alike_218 ?_
        exact x_wid (k2 := (kk_9 + 36)) (n2 := 6 * ((kk_9 + 36))) (by omega) (by omega) (ihh15 _ _ _ (kk_9 + 36) (by omega))
    refine x_wid (k2 := 2) (n2 := 6 * (2)) (by omega) (by omega) (hLL51 _ (fun zz16 σ19 => ?_) _ _ _ _ 2 (by omega))
    refine xr_iload_n (pc := 221) X (i := 3) 0 rfl rfl dL_alike_221 ?_
    exact xr_zretG (pc := 222) X (Nat.le_of_ble_eq_true rfl) (Nat.le_of_ble_eq_true rfl) dL_alike_222
  refine xr_icmp_ne (pc := 24) X 31 (by decide) dL_alike_24 (fun _ => ?_) (fun _ => ?_)
  · refine xr_iconst (pc := 31) X dL_alike_31 (v := 0) (by decide) ?_
    exact x_wid (by omega) (by omega) (hKK8 _ _)
  refine xr_iconst (pc := 27) X dL_alike_27 (v := 1) (by decide) ?_
  refine xr_goto (pc := 28) X 32 (by decide) dL_alike_28 ?_
  exact x_wid (by omega) (by omega) (hKK8 _ _)
def F_L_done (oo1 : Nat) (oo2 : Nat) (pp3 : Int32) (σ : xS) : Option (Int32 × xS) :=
  xbI (F_L_call oo1 2 0 0 0 σ) (fun (zz2 : Int32) (σ1 : xS) => if ¬ zz2 = 0 then (xlet (pp3 - pp3 / zz2 * zz2) (fun (zz4 : Int32) => xbI (F_L_call oo1 15 zz4 0 0 σ1) (fun (zz6 : Int32) (σ5 : xS) => xbI (F_L_call oo1 2 1 0 0 σ5) (fun (zz8 : Int32) (σ7 : xS) => xbI (F_L_call oo1 2 7 0 0 σ7) (fun (zz10 : Int32) (σ9 : xS) => xjn (fun (zz11 : Int32) (σ12 : xS) => xbI (F_L_call oo1 12 zz11 0 0 σ12) (fun (zz19 : Int32) (σ18 : xS) => xbI (F_L_call oo1 3 zz4 0 0 σ18) (fun (zz21 : Int32) (σ20 : xS) => xjn (fun (zz22 : Int32) (σ23 : xS) => xbI (F_L_call oo2 12 zz11 0 0 σ23) (fun (zz32 : Int32) (σ31 : xS) => xjn (fun (zz33 : Int32) (σ34 : xS) => if zz33 = 0 then (some ((0 : Int32), σ34))
 else (xbI (F_L_call oo1 14 0 0 0 σ34) (fun (zz55 : Int32) (σ54 : xS) => xbI (F_L_thrown zz55 σ54) (fun (zz57 : Int32) (σ56 : xS) => if ¬ zz57 = 0 then (some ((0 : Int32), σ56))
 else (xbI (F_L_call oo2 14 0 0 0 σ56) (fun (zz59 : Int32) (σ58 : xS) => xbI (F_L_thrown zz59 σ58) (fun (zz61 : Int32) (σ60 : xS) => if ¬ zz61 = 0 then (some ((0 : Int32), σ60))
 else (xbI (F_L_call oo1 15 zz4 0 0 σ60) (fun (zz63 : Int32) (σ62 : xS) => if ¬ zz63 = zz6 then (some ((0 : Int32), σ62))
 else (xbI (F_L_call oo1 2 7 0 0 σ62) (fun (zz65 : Int32) (σ64 : xS) => if ¬ zz65 = zz10 then (some ((0 : Int32), σ64))
 else (some ((1 : Int32), σ64)))))))))))))
 (fun (KK35 : Int32 → xS → Option (Int32 × xS)) => xjn (fun (σ37 : xS) => KK35 0 σ37)
 (fun (KK38 : xS → Option (Int32 × xS)) => if ¬ zz32 = zz19 then (KK38 σ31)
 else (xbI (F_L_call oo1 2 7 0 0 σ31) (fun (zz41 : Int32) (σ40 : xS) => if ¬ zz41 = (zz10 + zz19) then (KK38 σ40)
 else (xbI (F_L_call oo1 2 1 0 0 σ40) (fun (zz43 : Int32) (σ42 : xS) => if ¬ zz43 = (zz8 + zz11) then (KK38 σ42)
 else (xjn (fun (σ44 : xS) => xjn (fun (σ49 : xS) => KK35 1 σ49)
 (fun (KK50 : xS → Option (Int32 × xS)) => if zz6 = ((-1)) then (KK50 σ44)
 else (if zz6 ≤ zz11 then (KK50 σ44)
 else (xbI (F_L_call oo1 15 zz4 0 0 σ44) (fun (zz53 : Int32) (σ52 : xS) => if ¬ zz53 = (zz6 - zz11) then (KK38 σ52)
 else (KK50 σ52))))))
 (fun (KK45 : xS → Option (Int32 × xS)) => if zz6 = ((-1)) then (KK45 σ42)
 else (if zz11 < zz6 then (KK45 σ42)
 else (if zz22 = 0 then (KK38 σ42)
 else (xbI (F_L_call oo1 15 zz4 0 0 σ42) (fun (zz48 : Int32) (σ47 : xS) => if ¬ zz48 = 0 then (KK38 σ47)
 else (KK45 σ47)))))))))))))))
 (fun (KK24 : Int32 → xS → Option (Int32 × xS)) => xjn (fun (σ26 : xS) => KK24 0 σ26)
 (fun (KK27 : xS → Option (Int32 × xS)) => if ¬ zz21 = 0 then (KK27 σ20)
 else (xbI (F_L_call oo1 3 zz4 1 0 σ20) (fun (zz30 : Int32) (σ29 : xS) => if ¬ zz30 = 0 then (KK27 σ29)
 else (KK24 1 σ29))))))))
 (fun (KK13 : Int32 → xS → Option (Int32 × xS)) => xjn (fun (σ15 : xS) => KK13 (1 + ((pp3 / 8) - (pp3 / 8) / 99 * 99)) σ15)
 (fun (KK16 : xS → Option (Int32 × xS)) => if zz6 ≤ 0 then (KK16 σ9)
 else (if 100 ≤ zz6 then (KK16 σ9)
 else (if ¬ ((pp3 / 4) - (pp3 / 4) / 2 * 2) = 0 then (KK16 σ9)
 else (KK13 zz6 σ9)))))))))) else none)
abbrev rm_L_done : Room := { frames := 11, cells := 48, slots := 288, locals := 220 }
set_option maxHeartbeats 400000000 in
set_option maxRecDepth 100000 in
theorem c_L_done (l : Launch) {D : va_G} {ad : Nat → Nat} {N : Nat} {Sh : xSh} (hI : ∀ i j, i < N → j < N → ad i = ad j → i = j) (hst : l.stackTraces = false) (oo1 : Nat) (hh1 : xIs5 D ad N Sh oo1) (oo2 : Nat) (hh2 : xIs5 D ad N Sh oo2) (pp3 : Int32) (σ : xS) : xKI l yL_done (Cond.code yL_done cL_done 11 (some .boolean) :: wG) rm_L_done 48 288 D ad N Sh [.ref (ad oo1), .ref (ad oo2), .int pp3] σ (F_L_done oo1 oo2 pp3 σ) := by
  refine x_startI (own := RL) (maxL := 11) (by decide) rfl rfl (Nat.le_of_ble_eq_true rfl) rfl hI (fun Γ hl hnL X => ?_)
  subst hl
  unfold F_L_done
  refine xr_iload_n (pc := 0) X (i := 2) 2 rfl rfl dL_done_0 ?_
  refine xr_aload_n (pc := 1) X (i := 0) 0 rfl rfl dL_done_1 ?_
  refine xr_iconst (pc := 2) X dL_done_2 (v := 2) (by decide) ?_
  refine xr_iconst (pc := 3) X dL_done_3 (v := 0) (by decide) ?_
  refine xr_iconst (pc := 4) X dL_done_4 (v := 0) (by decide) ?_
  refine xr_iconst (pc := 5) X dL_done_5 (v := 0) (by decide) ?_
  refine xr_callSI (na := 5) (pc := 6) X [.ref (ad oo1), .int 2, .int 0, .int 0, .int 0] (c_L_call Γ.2.1 hI hst oo1 hh1 2 0 0 0 σ) (wG_S wm_5_23 wm_5_21 wm_5_22 wm_5_14) rfl rfl rfl (by decide +kernel) ⟨Nat.le_of_ble_eq_true rfl, Nat.le_of_ble_eq_true rfl⟩ rfl rfl (Nat.le_of_ble_eq_true rfl) ⟨(show _ ≤ 48 by omega), (show _ ≤ 288 by omega)⟩ dL_done_6 (fun zz2 σ1 => ?_)
  refine x_gd (fun hzz3 => ?_)
  refine xr_irem (pc := 9) X hzz3 dL_done_9 ?_
  refine x_leti (fun zz4 => ?_)
  refine xr_istore_n (pc := 10) X (hf := rfl) (i := 3) (lv2 := [(0, .ref (ad oo1)), (1, .ref (ad oo2)), (2, .int pp3), (3, .int zz4)]) [1, 2, 3, 0] (Nat.le_of_ble_eq_true rfl) hnL rfl dL_done_10 ?_
  refine xr_aload_n (pc := 11) X (i := 0) 0 rfl rfl dL_done_11 ?_
  refine xr_bipush (pc := 12) X dL_done_12 (v := 15) (by decide) ?_
  refine xr_iload_n (pc := 14) X (i := 3) 3 rfl rfl dL_done_14 ?_
  refine xr_iconst (pc := 15) X dL_done_15 (v := 0) (by decide) ?_
  refine xr_iconst (pc := 16) X dL_done_16 (v := 0) (by decide) ?_
  refine xr_callSI (na := 5) (pc := 17) X [.ref (ad oo1), .int 15, .int zz4, .int 0, .int 0] (c_L_call Γ.2.1 hI hst oo1 hh1 15 zz4 0 0 σ1) (wG_S wm_5_23 wm_5_21 wm_5_22 wm_5_14) rfl rfl rfl (by decide +kernel) ⟨Nat.le_of_ble_eq_true rfl, Nat.le_of_ble_eq_true rfl⟩ rfl rfl (Nat.le_of_ble_eq_true rfl) ⟨(show _ ≤ 48 by omega), (show _ ≤ 288 by omega)⟩ dL_done_17 (fun zz6 σ5 => ?_)
  refine xr_istore (pc := 20) X (i := 4) (lv2 := [(0, .ref (ad oo1)), (1, .ref (ad oo2)), (2, .int pp3), (3, .int zz4), (4, .int zz6)]) [1, 2, 3, 4, 0] (Nat.le_of_ble_eq_true rfl) hnL rfl dL_done_20 ?_
  refine xr_aload_n (pc := 22) X (i := 0) 0 rfl rfl dL_done_22 ?_
  refine xr_iconst (pc := 23) X dL_done_23 (v := 2) (by decide) ?_
  refine xr_iconst (pc := 24) X dL_done_24 (v := 1) (by decide) ?_
  refine xr_iconst (pc := 25) X dL_done_25 (v := 0) (by decide) ?_
  refine xr_iconst (pc := 26) X dL_done_26 (v := 0) (by decide) ?_
  refine xr_callSI (na := 5) (pc := 27) X [.ref (ad oo1), .int 2, .int 1, .int 0, .int 0] (c_L_call Γ.2.1 hI hst oo1 hh1 2 1 0 0 σ5) (wG_S wm_5_23 wm_5_21 wm_5_22 wm_5_14) rfl rfl rfl (by decide +kernel) ⟨Nat.le_of_ble_eq_true rfl, Nat.le_of_ble_eq_true rfl⟩ rfl rfl (Nat.le_of_ble_eq_true rfl) ⟨(show _ ≤ 48 by omega), (show _ ≤ 288 by omega)⟩ dL_done_27 (fun zz8 σ7 => ?_)
  refine xr_istore (pc := 30) X (i := 5) (lv2 := [(0, .ref (ad oo1)), (1, .ref (ad oo2)), (2, .int pp3), (3, .int zz4), (4, .int zz6), (5, .int zz8)]) [1, 2, 3, 4, 5, 0] (Nat.le_of_ble_eq_true rfl) hnL rfl dL_done_30 ?_
  refine xr_aload_n (pc := 32) X (i := 0) 0 rfl rfl dL_done_32 ?_
  refine xr_iconst (pc := 33) X dL_done_33 (v := 2) (by decide) ?_
  refine xr_bipush (pc := 34) X dL_done_34 (v := 7) (by decide) ?_
  refine xr_iconst (pc := 36) X dL_done_36 (v := 0) (by decide) ?_
  refine xr_iconst (pc := 37) X dL_done_37 (v := 0) (by decide) ?_
  refine xr_callSI (na := 5) (pc := 38) X [.ref (ad oo1), .int 2, .int 7, .int 0, .int 0] (c_L_call Γ.2.1 hI hst oo1 hh1 2 7 0 0 σ7) (wG_S wm_5_23 wm_5_21 wm_5_22 wm_5_14) rfl rfl rfl (by decide +kernel) ⟨Nat.le_of_ble_eq_true rfl, Nat.le_of_ble_eq_true rfl⟩ rfl rfl (Nat.le_of_ble_eq_true rfl) ⟨(show _ ≤ 48 by omega), (show _ ≤ 288 by omega)⟩ dL_done_38 (fun zz10 σ9 => ?_)
  refine xr_istore (pc := 41) X (i := 6) (lv2 := [(0, .ref (ad oo1)), (1, .ref (ad oo2)), (2, .int pp3), (3, .int zz4), (4, .int zz6), (5, .int zz8), (6, .int zz10)]) [1, 2, 3, 4, 5, 6, 0] (Nat.le_of_ble_eq_true rfl) hnL rfl dL_done_41 ?_
  refine xr_iload (pc := 43) X (i := 4) 4 rfl dL_done_43 ?_
  refine x_jn (fun (KK13 : Int32 → xS → Option (Int32 × xS)) => ∀ zz11 σ12, xM Γ D ad N Sh (xQI Γ D ad N Sh 48 288) 12 72 (KK13 zz11 σ12) σ12 77 [(0, .ref (ad oo1)), (1, .ref (ad oo2)), (3, .int zz4), (4, .int zz6), (5, .int zz8), (6, .int zz10)] [.int zz11]) (fun zz11 σ12 => ?_) (fun KK13 hKK14 => ?_)
  · refine xr_istore (pc := 77) X (i := 7) (lv2 := [(0, .ref (ad oo1)), (1, .ref (ad oo2)), (3, .int zz4), (4, .int zz6), (5, .int zz8), (6, .int zz10), (7, .int zz11)]) [1, 2, 3, 4, 5, 6, 0] (Nat.le_of_ble_eq_true rfl) hnL rfl dL_done_77 ?_
    refine xr_aload_n (pc := 79) X (i := 0) 0 rfl rfl dL_done_79 ?_
    refine xr_bipush (pc := 80) X dL_done_80 (v := 12) (by decide) ?_
    refine xr_iload (pc := 82) X (i := 7) 6 rfl dL_done_82 ?_
    refine xr_iconst (pc := 84) X dL_done_84 (v := 0) (by decide) ?_
    refine xr_iconst (pc := 85) X dL_done_85 (v := 0) (by decide) ?_
    refine xr_callSI (na := 5) (pc := 86) X [.ref (ad oo1), .int 12, .int zz11, .int 0, .int 0] (c_L_call Γ.2.1 hI hst oo1 hh1 12 zz11 0 0 σ12) (wG_S wm_5_23 wm_5_21 wm_5_22 wm_5_14) rfl rfl rfl (by decide +kernel) ⟨Nat.le_of_ble_eq_true rfl, Nat.le_of_ble_eq_true rfl⟩ rfl rfl (Nat.le_of_ble_eq_true rfl) ⟨(show _ ≤ 48 by omega), (show _ ≤ 288 by omega)⟩ dL_done_86 (fun zz19 σ18 => ?_)
    refine xr_istore (pc := 89) X (i := 8) (lv2 := [(0, .ref (ad oo1)), (1, .ref (ad oo2)), (3, .int zz4), (4, .int zz6), (5, .int zz8), (6, .int zz10), (7, .int zz11), (8, .int zz19)]) [1, 2, 3, 4, 5, 6, 7, 0] (Nat.le_of_ble_eq_true rfl) hnL rfl dL_done_89 ?_
    refine xr_aload_n (pc := 91) X (i := 0) 0 rfl rfl dL_done_91 ?_
    refine xr_iconst (pc := 92) X dL_done_92 (v := 3) (by decide) ?_
    refine xr_iload_n (pc := 93) X (i := 3) 2 rfl rfl dL_done_93 ?_
    refine xr_iconst (pc := 94) X dL_done_94 (v := 0) (by decide) ?_
    refine xr_iconst (pc := 95) X dL_done_95 (v := 0) (by decide) ?_
    refine xr_callSI (na := 5) (pc := 96) X [.ref (ad oo1), .int 3, .int zz4, .int 0, .int 0] (c_L_call Γ.2.1 hI hst oo1 hh1 3 zz4 0 0 σ18) (wG_S wm_5_23 wm_5_21 wm_5_22 wm_5_14) rfl rfl rfl (by decide +kernel) ⟨Nat.le_of_ble_eq_true rfl, Nat.le_of_ble_eq_true rfl⟩ rfl rfl (Nat.le_of_ble_eq_true rfl) ⟨(show _ ≤ 48 by omega), (show _ ≤ 288 by omega)⟩ dL_done_96 (fun zz21 σ20 => ?_)
    refine x_jn (fun (KK24 : Int32 → xS → Option (Int32 × xS)) => ∀ zz22 σ23, xM Γ D ad N Sh (xQI Γ D ad N Sh 48 288) 21 126 (KK24 zz22 σ23) σ23 118 [(0, .ref (ad oo1)), (1, .ref (ad oo2)), (3, .int zz4), (4, .int zz6), (5, .int zz8), (6, .int zz10), (7, .int zz11), (8, .int zz19)] [.int zz22]) (fun zz22 σ23 => ?_) (fun KK24 hKK25 => ?_)
    · refine xr_istore (pc := 118) X (i := 9) (lv2 := [(0, .ref (ad oo1)), (1, .ref (ad oo2)), (3, .int zz4), (4, .int zz6), (5, .int zz8), (6, .int zz10), (7, .int zz11), (8, .int zz19), (9, .int zz22)]) [1, 2, 3, 4, 5, 6, 7, 8, 0] (Nat.le_of_ble_eq_true rfl) hnL rfl dL_done_118 ?_
      refine xr_aload_n (pc := 120) X (i := 1) 1 rfl rfl dL_done_120 ?_
      refine xr_bipush (pc := 121) X dL_done_121 (v := 12) (by decide) ?_
      refine xr_iload (pc := 123) X (i := 7) 6 rfl dL_done_123 ?_
      refine xr_iconst (pc := 125) X dL_done_125 (v := 0) (by decide) ?_
      refine xr_iconst (pc := 126) X dL_done_126 (v := 0) (by decide) ?_
      refine xr_callSI (na := 5) (pc := 127) X [.ref (ad oo2), .int 12, .int zz11, .int 0, .int 0] (c_L_call Γ.2.1 hI hst oo2 hh2 12 zz11 0 0 σ23) (wG_S wm_5_23 wm_5_21 wm_5_22 wm_5_14) rfl rfl rfl (by decide +kernel) ⟨Nat.le_of_ble_eq_true rfl, Nat.le_of_ble_eq_true rfl⟩ rfl rfl (Nat.le_of_ble_eq_true rfl) ⟨(show _ ≤ 48 by omega), (show _ ≤ 288 by omega)⟩ dL_done_127 (fun zz32 σ31 => ?_)
      refine xr_iload (pc := 130) X (i := 8) 7 rfl dL_done_130 ?_
      refine x_jn (fun (KK35 : Int32 → xS → Option (Int32 × xS)) => ∀ zz33 σ34, xM Γ D ad N Sh (xQI Γ D ad N Sh 48 288) 36 216 (KK35 zz33 σ34) σ34 233 [(0, .ref (ad oo1)), (1, .ref (ad oo2)), (3, .int zz4), (4, .int zz6), (6, .int zz10)] [.int zz33]) (fun zz33 σ34 => ?_) (fun KK35 hKK36 => ?_)
      · refine xr_istore (pc := 233) X (i := 10) (lv2 := [(0, .ref (ad oo1)), (1, .ref (ad oo2)), (3, .int zz4), (4, .int zz6), (6, .int zz10), (10, .int zz33)]) [1, 2, 3, 4, 5, 0] (Nat.le_of_ble_eq_true rfl) hnL rfl dL_done_233 ?_
        refine xr_iload (pc := 235) X (i := 10) 5 rfl dL_done_235 ?_
        refine xr_if_eq (pc := 237) X 302 (by decide) dL_done_237 (fun _ => ?_) (fun _ => ?_)
        · refine xr_iconst (pc := 302) X dL_done_302 (v := 0) (by decide) ?_
          exact xr_zret (pc := 303) X rfl (Nat.le_of_ble_eq_true rfl) (Nat.le_of_ble_eq_true rfl) dL_done_303
        refine xr_aload_n (pc := 240) X (i := 0) 0 rfl rfl dL_done_240 ?_
        refine xr_bipush (pc := 241) X dL_done_241 (v := 14) (by decide) ?_
        refine xr_iconst (pc := 243) X dL_done_243 (v := 0) (by decide) ?_
        refine xr_iconst (pc := 244) X dL_done_244 (v := 0) (by decide) ?_
        refine xr_iconst (pc := 245) X dL_done_245 (v := 0) (by decide) ?_
        refine xr_callSI (na := 5) (pc := 246) X [.ref (ad oo1), .int 14, .int 0, .int 0, .int 0] (c_L_call Γ.2.1 hI hst oo1 hh1 14 0 0 0 σ34) (wG_S wm_5_23 wm_5_21 wm_5_22 wm_5_14) rfl rfl rfl (by decide +kernel) ⟨Nat.le_of_ble_eq_true rfl, Nat.le_of_ble_eq_true rfl⟩ rfl rfl (Nat.le_of_ble_eq_true rfl) ⟨(show _ ≤ 48 by omega), (show _ ≤ 288 by omega)⟩ dL_done_246 (fun zz55 σ54 => ?_)
        refine xr_callSI (na := 1) (pc := 249) X [.int zz55] (c_L_thrown Γ.2.1 hI zz55 σ54) (wG_S wm_23_20 wm_23_18 wm_23_19 wm_5_14) rfl rfl rfl (by decide +kernel) ⟨Nat.le_of_ble_eq_true rfl, Nat.le_of_ble_eq_true rfl⟩ rfl rfl (Nat.le_of_ble_eq_true rfl) ⟨(show _ ≤ 48 by omega), (show _ ≤ 288 by omega)⟩ dL_done_249 (fun zz57 σ56 => ?_)
        refine xr_if_ne (pc := 252) X 302 (by decide) dL_done_252 (fun _ => ?_) (fun _ => ?_)
        · refine xr_iconst (pc := 302) X dL_done_302 (v := 0) (by decide) ?_
          exact xr_zret (pc := 303) X rfl (Nat.le_of_ble_eq_true rfl) (Nat.le_of_ble_eq_true rfl) dL_done_303
        refine xr_aload_n (pc := 255) X (i := 1) 1 rfl rfl dL_done_255 ?_
        refine xr_bipush (pc := 256) X dL_done_256 (v := 14) (by decide) ?_
        refine xr_iconst (pc := 258) X dL_done_258 (v := 0) (by decide) ?_
        refine xr_iconst (pc := 259) X dL_done_259 (v := 0) (by decide) ?_
        refine xr_iconst (pc := 260) X dL_done_260 (v := 0) (by decide) ?_
        refine xr_callSI (na := 5) (pc := 261) X [.ref (ad oo2), .int 14, .int 0, .int 0, .int 0] (c_L_call Γ.2.1 hI hst oo2 hh2 14 0 0 0 σ56) (wG_S wm_5_23 wm_5_21 wm_5_22 wm_5_14) rfl rfl rfl (by decide +kernel) ⟨Nat.le_of_ble_eq_true rfl, Nat.le_of_ble_eq_true rfl⟩ rfl rfl (Nat.le_of_ble_eq_true rfl) ⟨(show _ ≤ 48 by omega), (show _ ≤ 288 by omega)⟩ dL_done_261 (fun zz59 σ58 => ?_)
        refine xr_callSI (na := 1) (pc := 264) X [.int zz59] (c_L_thrown Γ.2.1 hI zz59 σ58) (wG_S wm_23_20 wm_23_18 wm_23_19 wm_5_14) rfl rfl rfl (by decide +kernel) ⟨Nat.le_of_ble_eq_true rfl, Nat.le_of_ble_eq_true rfl⟩ rfl rfl (Nat.le_of_ble_eq_true rfl) ⟨(show _ ≤ 48 by omega), (show _ ≤ 288 by omega)⟩ dL_done_264 (fun zz61 σ60 => ?_)
        refine xr_if_ne (pc := 267) X 302 (by decide) dL_done_267 (fun _ => ?_) (fun _ => ?_)
        · refine xr_iconst (pc := 302) X dL_done_302 (v := 0) (by decide) ?_
          exact xr_zret (pc := 303) X rfl (Nat.le_of_ble_eq_true rfl) (Nat.le_of_ble_eq_true rfl) dL_done_303
        refine xr_aload_n (pc := 270) X (i := 0) 0 rfl rfl dL_done_270 ?_
        refine xr_bipush (pc := 271) X dL_done_271 (v := 15) (by decide) ?_
        refine xr_iload_n (pc := 273) X (i := 3) 2 rfl rfl dL_done_273 ?_
        refine xr_iconst (pc := 274) X dL_done_274 (v := 0) (by decide) ?_
        refine xr_iconst (pc := 275) X dL_done_275 (v := 0) (by decide) ?_
        refine xr_callSI (na := 5) (pc := 276) X [.ref (ad oo1), .int 15, .int zz4, .int 0, .int 0] (c_L_call Γ.2.1 hI hst oo1 hh1 15 zz4 0 0 σ60) (wG_S wm_5_23 wm_5_21 wm_5_22 wm_5_14) rfl rfl rfl (by decide +kernel) ⟨Nat.le_of_ble_eq_true rfl, Nat.le_of_ble_eq_true rfl⟩ rfl rfl (Nat.le_of_ble_eq_true rfl) ⟨(show _ ≤ 48 by omega), (show _ ≤ 288 by omega)⟩ dL_done_276 (fun zz63 σ62 => ?_)
        refine xr_iload (pc := 279) X (i := 4) 3 rfl dL_done_279 ?_
        refine xr_icmp_ne (pc := 281) X 302 (by decide) dL_done_281 (fun _ => ?_) (fun _ => ?_)
        · refine xr_iconst (pc := 302) X dL_done_302 (v := 0) (by decide) ?_
          exact xr_zret (pc := 303) X rfl (Nat.le_of_ble_eq_true rfl) (Nat.le_of_ble_eq_true rfl) dL_done_303
        refine xr_aload_n (pc := 284) X (i := 0) 0 rfl rfl dL_done_284 ?_
        refine xr_iconst (pc := 285) X dL_done_285 (v := 2) (by decide) ?_
        refine xr_bipush (pc := 286) X dL_done_286 (v := 7) (by decide) ?_
        refine xr_iconst (pc := 288) X dL_done_288 (v := 0) (by decide) ?_
        refine xr_iconst (pc := 289) X dL_done_289 (v := 0) (by decide) ?_
        refine xr_callSI (na := 5) (pc := 290) X [.ref (ad oo1), .int 2, .int 7, .int 0, .int 0] (c_L_call Γ.2.1 hI hst oo1 hh1 2 7 0 0 σ62) (wG_S wm_5_23 wm_5_21 wm_5_22 wm_5_14) rfl rfl rfl (by decide +kernel) ⟨Nat.le_of_ble_eq_true rfl, Nat.le_of_ble_eq_true rfl⟩ rfl rfl (Nat.le_of_ble_eq_true rfl) ⟨(show _ ≤ 48 by omega), (show _ ≤ 288 by omega)⟩ dL_done_290 (fun zz65 σ64 => ?_)
        refine xr_iload (pc := 293) X (i := 6) 4 rfl dL_done_293 ?_
        refine xr_icmp_ne (pc := 295) X 302 (by decide) dL_done_295 (fun _ => ?_) (fun _ => ?_)
        · refine xr_iconst (pc := 302) X dL_done_302 (v := 0) (by decide) ?_
          exact xr_zret (pc := 303) X rfl (Nat.le_of_ble_eq_true rfl) (Nat.le_of_ble_eq_true rfl) dL_done_303
        refine xr_iconst (pc := 298) X dL_done_298 (v := 1) (by decide) ?_
        refine xr_goto (pc := 299) X 303 (by decide) dL_done_299 ?_
        exact xr_zret (pc := 303) X rfl (Nat.le_of_ble_eq_true rfl) (Nat.le_of_ble_eq_true rfl) dL_done_303
      refine x_jn (fun (KK38 : xS → Option (Int32 × xS)) => ∀ σ37, xM Γ D ad N Sh (xQI Γ D ad N Sh 48 288) 36 216 (KK38 σ37) σ37 232 [(0, .ref (ad oo1)), (1, .ref (ad oo2)), (3, .int zz4), (4, .int zz6), (6, .int zz10)] []) (fun σ37 => ?_) (fun KK38 hKK39 => ?_)
      · refine xr_iconst (pc := 232) X dL_done_232 (v := 0) (by decide) ?_
        exact x_wid (by omega) (by omega) (hKK36 _ _)
      refine xr_icmp_ne (pc := 132) X 232 (by decide) dL_done_132 (fun _ => ?_) (fun _ => ?_)
      · exact x_sub [0, 1, 2, 3, 5] rfl (x_wid (by omega) (by omega) (hKK39  _))
      refine xr_aload_n (pc := 135) X (i := 0) 0 rfl rfl dL_done_135 ?_
      refine xr_iconst (pc := 136) X dL_done_136 (v := 2) (by decide) ?_
      refine xr_bipush (pc := 137) X dL_done_137 (v := 7) (by decide) ?_
      refine xr_iconst (pc := 139) X dL_done_139 (v := 0) (by decide) ?_
      refine xr_iconst (pc := 140) X dL_done_140 (v := 0) (by decide) ?_
      refine xr_callSI (na := 5) (pc := 141) X [.ref (ad oo1), .int 2, .int 7, .int 0, .int 0] (c_L_call Γ.2.1 hI hst oo1 hh1 2 7 0 0 σ31) (wG_S wm_5_23 wm_5_21 wm_5_22 wm_5_14) rfl rfl rfl (by decide +kernel) ⟨Nat.le_of_ble_eq_true rfl, Nat.le_of_ble_eq_true rfl⟩ rfl rfl (Nat.le_of_ble_eq_true rfl) ⟨(show _ ≤ 48 by omega), (show _ ≤ 288 by omega)⟩ dL_done_141 (fun zz41 σ40 => ?_)
      refine xr_iload (pc := 144) X (i := 6) 5 rfl dL_done_144 ?_
      refine xr_iload (pc := 146) X (i := 8) 7 rfl dL_done_146 ?_
      refine xr_iadd (pc := 148) X dL_done_148 ?_
      refine xr_icmp_ne (pc := 149) X 232 (by decide) dL_done_149 (fun _ => ?_) (fun _ => ?_)
      · exact x_sub [0, 1, 2, 3, 5] rfl (x_wid (by omega) (by omega) (hKK39  _))
      refine xr_aload_n (pc := 152) X (i := 0) 0 rfl rfl dL_done_152 ?_
      refine xr_iconst (pc := 153) X dL_done_153 (v := 2) (by decide) ?_
      refine xr_iconst (pc := 154) X dL_done_154 (v := 1) (by decide) ?_
      refine xr_iconst (pc := 155) X dL_done_155 (v := 0) (by decide) ?_
      refine xr_iconst (pc := 156) X dL_done_156 (v := 0) (by decide) ?_
      refine xr_callSI (na := 5) (pc := 157) X [.ref (ad oo1), .int 2, .int 1, .int 0, .int 0] (c_L_call Γ.2.1 hI hst oo1 hh1 2 1 0 0 σ40) (wG_S wm_5_23 wm_5_21 wm_5_22 wm_5_14) rfl rfl rfl (by decide +kernel) ⟨Nat.le_of_ble_eq_true rfl, Nat.le_of_ble_eq_true rfl⟩ rfl rfl (Nat.le_of_ble_eq_true rfl) ⟨(show _ ≤ 48 by omega), (show _ ≤ 288 by omega)⟩ dL_done_157 (fun zz43 σ42 => ?_)
      refine xr_iload (pc := 160) X (i := 5) 4 rfl dL_done_160 ?_
      refine xr_iload (pc := 162) X (i := 7) 6 rfl dL_done_162 ?_
      refine xr_iadd (pc := 164) X dL_done_164 ?_
      refine xr_icmp_ne (pc := 165) X 232 (by decide) dL_done_165 (fun _ => ?_) (fun _ => ?_)
      · exact x_sub [0, 1, 2, 3, 5] rfl (x_wid (by omega) (by omega) (hKK39  _))
      refine xr_iload (pc := 168) X (i := 4) 3 rfl dL_done_168 ?_
      refine xr_iconst (pc := 170) X dL_done_170 (v := (-1)) (by decide) ?_
      refine x_jn (fun (KK45 : xS → Option (Int32 × xS)) => ∀ σ44, xM Γ D ad N Sh (xQI Γ D ad N Sh 48 288) 33 198 (KK45 σ44) σ44 198 [(0, .ref (ad oo1)), (1, .ref (ad oo2)), (3, .int zz4), (4, .int zz6), (6, .int zz10), (7, .int zz11)] []) (fun σ44 => ?_) (fun KK45 hKK46 => ?_)
      · refine xr_iload (pc := 198) X (i := 4) 3 rfl dL_done_198 ?_
        refine xr_iconst (pc := 200) X dL_done_200 (v := (-1)) (by decide) ?_
        refine x_jn (fun (KK50 : xS → Option (Int32 × xS)) => ∀ σ49, xM Γ D ad N Sh (xQI Γ D ad N Sh 48 288) 36 216 (KK50 σ49) σ49 228 [(0, .ref (ad oo1)), (1, .ref (ad oo2)), (3, .int zz4), (4, .int zz6), (6, .int zz10)] []) (fun σ49 => ?_) (fun KK50 hKK51 => ?_)
        · refine xr_iconst (pc := 228) X dL_done_228 (v := 1) (by decide) ?_
          refine xr_goto (pc := 229) X 233 (by decide) dL_done_229 ?_
          exact x_wid (by omega) (by omega) (hKK36 _ _)
        refine xr_icmp_eq (pc := 201) X 228 (by decide) dL_done_201 (fun _ => ?_) (fun _ => ?_)
        · exact x_sub [0, 1, 2, 3, 4] rfl (x_wid (by omega) (by omega) (hKK51  _))
        refine xr_iload (pc := 204) X (i := 7) 5 rfl dL_done_204 ?_
        refine xr_iload (pc := 206) X (i := 4) 3 rfl dL_done_206 ?_
        refine xr_icmp_ge (pc := 208) X 228 (by decide) dL_done_208 (fun _ => ?_) (fun _ => ?_)
        · exact x_sub [0, 1, 2, 3, 4] rfl (x_wid (by omega) (by omega) (hKK51  _))
        refine xr_aload_n (pc := 211) X (i := 0) 0 rfl rfl dL_done_211 ?_
        refine xr_bipush (pc := 212) X dL_done_212 (v := 15) (by decide) ?_
        refine xr_iload_n (pc := 214) X (i := 3) 2 rfl rfl dL_done_214 ?_
        refine xr_iconst (pc := 215) X dL_done_215 (v := 0) (by decide) ?_
        refine xr_iconst (pc := 216) X dL_done_216 (v := 0) (by decide) ?_
        refine xr_callSI (na := 5) (pc := 217) X [.ref (ad oo1), .int 15, .int zz4, .int 0, .int 0] (c_L_call Γ.2.1 hI hst oo1 hh1 15 zz4 0 0 σ44) (wG_S wm_5_23 wm_5_21 wm_5_22 wm_5_14) rfl rfl rfl (by decide +kernel) ⟨Nat.le_of_ble_eq_true rfl, Nat.le_of_ble_eq_true rfl⟩ rfl rfl (Nat.le_of_ble_eq_true rfl) ⟨(show _ ≤ 48 by omega), (show _ ≤ 288 by omega)⟩ dL_done_217 (fun zz53 σ52 => ?_)
        refine xr_iload (pc := 220) X (i := 4) 3 rfl dL_done_220 ?_
        refine xr_iload (pc := 222) X (i := 7) 5 rfl dL_done_222 ?_
        refine xr_isub (pc := 224) X dL_done_224 ?_
        refine xr_icmp_ne (pc := 225) X 232 (by decide) dL_done_225 (fun _ => ?_) (fun _ => ?_)
        · exact x_sub [0, 1, 2, 3, 4] rfl (x_wid (by omega) (by omega) (hKK39  _))
        exact x_sub [0, 1, 2, 3, 4] rfl (x_wid (by omega) (by omega) (hKK51  _))
      refine xr_icmp_eq (pc := 171) X 198 (by decide) dL_done_171 (fun _ => ?_) (fun _ => ?_)
      · exact x_sub [0, 1, 2, 3, 5, 6] rfl (x_wid (by omega) (by omega) (hKK46  _))
      refine xr_iload (pc := 174) X (i := 7) 6 rfl dL_done_174 ?_
      refine xr_iload (pc := 176) X (i := 4) 3 rfl dL_done_176 ?_
      refine xr_icmp_lt (pc := 178) X 198 (by decide) dL_done_178 (fun _ => ?_) (fun _ => ?_)
      · exact x_sub [0, 1, 2, 3, 5, 6] rfl (x_wid (by omega) (by omega) (hKK46  _))
      refine xr_iload (pc := 181) X (i := 9) 8 rfl dL_done_181 ?_
      refine xr_if_eq (pc := 183) X 232 (by decide) dL_done_183 (fun _ => ?_) (fun _ => ?_)
      · exact x_sub [0, 1, 2, 3, 5] rfl (x_wid (by omega) (by omega) (hKK39  _))
      refine xr_aload_n (pc := 186) X (i := 0) 0 rfl rfl dL_done_186 ?_
      refine xr_bipush (pc := 187) X dL_done_187 (v := 15) (by decide) ?_
      refine xr_iload_n (pc := 189) X (i := 3) 2 rfl rfl dL_done_189 ?_
      refine xr_iconst (pc := 190) X dL_done_190 (v := 0) (by decide) ?_
      refine xr_iconst (pc := 191) X dL_done_191 (v := 0) (by decide) ?_
      refine xr_callSI (na := 5) (pc := 192) X [.ref (ad oo1), .int 15, .int zz4, .int 0, .int 0] (c_L_call Γ.2.1 hI hst oo1 hh1 15 zz4 0 0 σ42) (wG_S wm_5_23 wm_5_21 wm_5_22 wm_5_14) rfl rfl rfl (by decide +kernel) ⟨Nat.le_of_ble_eq_true rfl, Nat.le_of_ble_eq_true rfl⟩ rfl rfl (Nat.le_of_ble_eq_true rfl) ⟨(show _ ≤ 48 by omega), (show _ ≤ 288 by omega)⟩ dL_done_192 (fun zz48 σ47 => ?_)
      refine xr_if_ne (pc := 195) X 232 (by decide) dL_done_195 (fun _ => ?_) (fun _ => ?_)
      · exact x_sub [0, 1, 2, 3, 5] rfl (x_wid (by omega) (by omega) (hKK39  _))
      exact x_sub [0, 1, 2, 3, 5, 6] rfl (x_wid (by omega) (by omega) (hKK46  _))
    refine x_jn (fun (KK27 : xS → Option (Int32 × xS)) => ∀ σ26, xM Γ D ad N Sh (xQI Γ D ad N Sh 48 288) 21 126 (KK27 σ26) σ26 117 [(0, .ref (ad oo1)), (1, .ref (ad oo2)), (3, .int zz4), (4, .int zz6), (5, .int zz8), (6, .int zz10), (7, .int zz11), (8, .int zz19)] []) (fun σ26 => ?_) (fun KK27 hKK28 => ?_)
    · refine xr_iconst (pc := 117) X dL_done_117 (v := 0) (by decide) ?_
      exact x_wid (by omega) (by omega) (hKK25 _ _)
    refine xr_if_ne (pc := 99) X 117 (by decide) dL_done_99 (fun _ => ?_) (fun _ => ?_)
    · exact x_wid (by omega) (by omega) (hKK28  _)
    refine xr_aload_n (pc := 102) X (i := 0) 0 rfl rfl dL_done_102 ?_
    refine xr_iconst (pc := 103) X dL_done_103 (v := 3) (by decide) ?_
    refine xr_iload_n (pc := 104) X (i := 3) 2 rfl rfl dL_done_104 ?_
    refine xr_iconst (pc := 105) X dL_done_105 (v := 1) (by decide) ?_
    refine xr_iconst (pc := 106) X dL_done_106 (v := 0) (by decide) ?_
    refine xr_callSI (na := 5) (pc := 107) X [.ref (ad oo1), .int 3, .int zz4, .int 1, .int 0] (c_L_call Γ.2.1 hI hst oo1 hh1 3 zz4 1 0 σ20) (wG_S wm_5_23 wm_5_21 wm_5_22 wm_5_14) rfl rfl rfl (by decide +kernel) ⟨Nat.le_of_ble_eq_true rfl, Nat.le_of_ble_eq_true rfl⟩ rfl rfl (Nat.le_of_ble_eq_true rfl) ⟨(show _ ≤ 48 by omega), (show _ ≤ 288 by omega)⟩ dL_done_107 (fun zz30 σ29 => ?_)
    refine xr_if_ne (pc := 110) X 117 (by decide) dL_done_110 (fun _ => ?_) (fun _ => ?_)
    · exact x_wid (by omega) (by omega) (hKK28  _)
    refine xr_iconst (pc := 113) X dL_done_113 (v := 1) (by decide) ?_
    refine xr_goto (pc := 114) X 118 (by decide) dL_done_114 ?_
    exact x_wid (by omega) (by omega) (hKK25 _ _)
  refine x_jn (fun (KK16 : xS → Option (Int32 × xS)) => ∀ σ15, xM Γ D ad N Sh (xQI Γ D ad N Sh 48 288) 12 72 (KK16 σ15) σ15 68 [(0, .ref (ad oo1)), (1, .ref (ad oo2)), (2, .int pp3), (3, .int zz4), (4, .int zz6), (5, .int zz8), (6, .int zz10)] []) (fun σ15 => ?_) (fun KK16 hKK17 => ?_)
  · refine xr_iconst (pc := 68) X dL_done_68 (v := 1) (by decide) ?_
    refine xr_iload_n (pc := 69) X (i := 2) 2 rfl rfl dL_done_69 ?_
    refine xr_bipush (pc := 70) X dL_done_70 (v := 8) (by decide) ?_
    refine xr_idiv (pc := 72) X (by decide) dL_done_72 ?_
    refine xr_bipush (pc := 73) X dL_done_73 (v := 99) (by decide) ?_
    refine xr_irem (pc := 75) X (by decide) dL_done_75 ?_
    refine xr_iadd (pc := 76) X dL_done_76 ?_
    exact x_sub [0, 1, 3, 4, 5, 6] rfl (x_wid (by omega) (by omega) (hKK14 _ _))
  refine xr_if_le (pc := 45) X 68 (by decide) dL_done_45 (fun _ => ?_) (fun _ => ?_)
  · exact x_wid (by omega) (by omega) (hKK17  _)
  refine xr_iload (pc := 48) X (i := 4) 4 rfl dL_done_48 ?_
  refine xr_bipush (pc := 50) X dL_done_50 (v := 100) (by decide) ?_
  refine xr_icmp_ge (pc := 52) X 68 (by decide) dL_done_52 (fun _ => ?_) (fun _ => ?_)
  · exact x_wid (by omega) (by omega) (hKK17  _)
  refine xr_iload_n (pc := 55) X (i := 2) 2 rfl rfl dL_done_55 ?_
  refine xr_iconst (pc := 56) X dL_done_56 (v := 4) (by decide) ?_
  refine xr_idiv (pc := 57) X (by decide) dL_done_57 ?_
  refine xr_iconst (pc := 58) X dL_done_58 (v := 2) (by decide) ?_
  refine xr_irem (pc := 59) X (by decide) dL_done_59 ?_
  refine xr_if_ne (pc := 60) X 68 (by decide) dL_done_60 (fun _ => ?_) (fun _ => ?_)
  · exact x_wid (by omega) (by omega) (hKK17  _)
  refine xr_iload (pc := 63) X (i := 4) 4 rfl dL_done_63 ?_
  refine xr_goto (pc := 65) X 77 (by decide) dL_done_65 ?_
  exact x_sub [0, 1, 3, 4, 5, 6] rfl (x_wid (by omega) (by omega) (hKK14 _ _))
def F_L_there (oo1 : Nat) (oo2 : Nat) (pp3 : Int32) (σ : xS) : Option (Int32 × xS) :=
  xbI (F_L_call oo1 2 0 0 0 σ) (fun (zz2 : Int32) (σ1 : xS) => if ¬ zz2 = 0 then (xlet (pp3 - pp3 / zz2 * zz2) (fun (zz4 : Int32) => xlet (1 + ((pp3 / 4) - (pp3 / 4) / 80 * 80)) (fun (zz5 : Int32) => xbI (F_L_call oo1 16 zz4 zz5 0 σ1) (fun (zz7 : Int32) (σ6 : xS) => xbI (F_L_call oo1 9 zz4 zz5 0 σ6) (fun (zz9 : Int32) (σ8 : xS) => xbI (F_L_call oo2 9 zz4 zz5 0 σ8) (fun (zz11 : Int32) (σ10 : xS) => xjn (fun (zz12 : Int32) (σ13 : xS) => if ¬ zz9 = ((-9999003)) then (xbI (F_L_call oo1 3 zz4 3 0 σ13) (fun (zz17 : Int32) (σ16 : xS) => xjn (fun (zz18 : Int32) (σ19 : xS) => xjn (fun (zz25 : Int32) (σ26 : xS) => xjn (fun (zz49 : Int32) (σ50 : xS) => if zz49 = 0 then (some ((0 : Int32), σ50))
 else (xbI (F_L_call oo1 14 0 0 0 σ50) (fun (zz75 : Int32) (σ74 : xS) => xbI (F_L_thrown zz75 σ74) (fun (zz77 : Int32) (σ76 : xS) => if ¬ zz77 = 0 then (some ((0 : Int32), σ76))
 else (xbI (F_L_call oo2 14 0 0 0 σ76) (fun (zz79 : Int32) (σ78 : xS) => xbI (F_L_thrown zz79 σ78) (fun (zz81 : Int32) (σ80 : xS) => if ¬ zz81 = 0 then (some ((0 : Int32), σ80))
 else (xbI (F_L_call oo1 14 0 0 0 σ80) (fun (zz83 : Int32) (σ82 : xS) => xbI (F_L_thrown zz83 σ82) (fun (zz85 : Int32) (σ84 : xS) => if ¬ zz85 = 0 then (some ((0 : Int32), σ84))
 else (xbI (F_L_call oo2 14 0 0 0 σ84) (fun (zz87 : Int32) (σ86 : xS) => xbI (F_L_thrown zz87 σ86) (fun (zz89 : Int32) (σ88 : xS) => if ¬ zz89 = 0 then (some ((0 : Int32), σ88))
 else (xbI (F_L_call oo1 3 zz4 3 0 σ88) (fun (zz91 : Int32) (σ90 : xS) => if ¬ zz91 = (zz17 - zz5) then (some ((0 : Int32), σ90))
 else (some ((1 : Int32), σ90)))))))))))))))))
 (fun (KK51 : Int32 → xS → Option (Int32 × xS)) => if zz25 = 0 then (KK51 zz25 σ26)
 else (if ¬ zz7 = zz18 then (KK51 zz25 σ26)
 else (if zz7 ≤ 1 then (KK51 zz25 σ26)
 else (xbI (F_L_call oo1 14 0 0 0 σ26) (fun (zz54 : Int32) (σ53 : xS) => xbI (F_L_thrown zz54 σ53) (fun (zz56 : Int32) (σ55 : xS) => xjn (fun (zz57 : Int32) (σ58 : xS) => KK51 zz57 σ58)
 (fun (KK59 : Int32 → xS → Option (Int32 × xS)) => xjn (fun (σ61 : xS) => KK59 0 σ61)
 (fun (KK62 : xS → Option (Int32 × xS)) => if ¬ zz56 = 0 then (KK62 σ55)
 else (xbI (F_L_call oo2 14 0 0 0 σ55) (fun (zz65 : Int32) (σ64 : xS) => xbI (F_L_thrown zz65 σ64) (fun (zz67 : Int32) (σ66 : xS) => if ¬ zz67 = 0 then (KK62 σ66)
 else (xbI (F_L_call oo1 12 (zz18 - 1) 0 0 σ66) (fun (zz69 : Int32) (σ68 : xS) => if zz69 < 0 then (KK62 σ68)
 else (xbI (F_L_call oo2 12 (zz18 - 1) 0 0 σ68) (fun (zz71 : Int32) (σ70 : xS) => if zz71 < 0 then (KK62 σ70)
 else (xbI (F_L_call oo1 4 zz4 0 0 σ70) (fun (zz73 : Int32) (σ72 : xS) => if zz17 ≤ zz73 then (KK62 σ72)
 else (KK59 1 σ72)))))))))))))))))))
 (fun (KK27 : Int32 → xS → Option (Int32 × xS)) => xjn (fun (σ29 : xS) => KK27 0 σ29)
 (fun (KK30 : xS → Option (Int32 × xS)) => if zz12 = 0 then (KK30 σ19)
 else (xbI (F_L_call oo1 12 zz18 0 0 σ19) (fun (zz33 : Int32) (σ32 : xS) => xbI (F_L_call oo2 12 zz18 0 0 σ32) (fun (zz35 : Int32) (σ34 : xS) => if ¬ zz33 = zz35 then (KK30 σ34)
 else (xbI (F_L_call oo1 4 zz4 0 0 σ34) (fun (zz37 : Int32) (σ36 : xS) => xjn (fun (zz38 : Int32) (σ39 : xS) => xjn (fun (zz42 : Int32) (σ43 : xS) => if ¬ zz38 = zz42 then (KK30 σ43)
 else (KK27 1 σ43))
 (fun (KK44 : Int32 → xS → Option (Int32 × xS)) => xjn (fun (σ46 : xS) => KK44 0 σ46)
 (fun (KK47 : xS → Option (Int32 × xS)) => if zz7 = ((-1)) then (KK47 σ39)
 else (if zz18 < zz7 then (KK47 σ39)
 else (KK44 1 σ39)))))
 (fun (KK40 : Int32 → xS → Option (Int32 × xS)) => if zz37 < zz17 then (KK40 0 σ36)
 else (KK40 1 σ36))))))))))
 (fun (KK20 : Int32 → xS → Option (Int32 × xS)) => xjn (fun (σ22 : xS) => KK20 99 σ22)
 (fun (KK23 : xS → Option (Int32 × xS)) => if zz7 = ((-1)) then (KK23 σ16)
 else (if 100 ≤ zz7 then (KK23 σ16)
 else (KK20 zz7 σ16))))))
 else (if zz12 = 0 then (some ((0 : Int32), σ13))
 else (if ¬ zz7 = ((-1)) then (some ((0 : Int32), σ13))
 else (some ((1 : Int32), σ13)))))
 (fun (KK14 : Int32 → xS → Option (Int32 × xS)) => if ¬ zz11 = zz9 then (KK14 0 σ10)
 else (KK14 1 σ10)))))))) else none)
abbrev rm_L_there : Room := { frames := 11, cells := 54, slots := 324, locals := 220 }
set_option maxHeartbeats 400000000 in
set_option maxRecDepth 100000 in
theorem c_L_there (l : Launch) {D : va_G} {ad : Nat → Nat} {N : Nat} {Sh : xSh} (hI : ∀ i j, i < N → j < N → ad i = ad j → i = j) (hst : l.stackTraces = false) (oo1 : Nat) (hh1 : xIs5 D ad N Sh oo1) (oo2 : Nat) (hh2 : xIs5 D ad N Sh oo2) (pp3 : Int32) (σ : xS) : xKI l yL_there (Cond.code yL_there cL_there 10 (some .boolean) :: wG) rm_L_there 54 324 D ad N Sh [.ref (ad oo1), .ref (ad oo2), .int pp3] σ (F_L_there oo1 oo2 pp3 σ) := by
  refine x_startI (own := RL) (maxL := 10) (by decide) rfl rfl (Nat.le_of_ble_eq_true rfl) rfl hI (fun Γ hl hnL X => ?_)
  subst hl
  unfold F_L_there
  refine xr_iload_n (pc := 0) X (i := 2) 2 rfl rfl dL_there_0 ?_
  refine xr_aload_n (pc := 1) X (i := 0) 0 rfl rfl dL_there_1 ?_
  refine xr_iconst (pc := 2) X dL_there_2 (v := 2) (by decide) ?_
  refine xr_iconst (pc := 3) X dL_there_3 (v := 0) (by decide) ?_
  refine xr_iconst (pc := 4) X dL_there_4 (v := 0) (by decide) ?_
  refine xr_iconst (pc := 5) X dL_there_5 (v := 0) (by decide) ?_
  refine xr_callSI (na := 5) (pc := 6) X [.ref (ad oo1), .int 2, .int 0, .int 0, .int 0] (c_L_call Γ.2.1 hI hst oo1 hh1 2 0 0 0 σ) (wG_S wm_5_23 wm_5_21 wm_5_22 wm_5_14) rfl rfl rfl (by decide +kernel) ⟨Nat.le_of_ble_eq_true rfl, Nat.le_of_ble_eq_true rfl⟩ rfl rfl (Nat.le_of_ble_eq_true rfl) ⟨(show _ ≤ 54 by omega), (show _ ≤ 324 by omega)⟩ dL_there_6 (fun zz2 σ1 => ?_)
  refine x_gd (fun hzz3 => ?_)
  refine xr_irem (pc := 9) X hzz3 dL_there_9 ?_
  refine x_leti (fun zz4 => ?_)
  refine xr_istore_n (pc := 10) X (hf := rfl) (i := 3) (lv2 := [(0, .ref (ad oo1)), (1, .ref (ad oo2)), (2, .int pp3), (3, .int zz4)]) [1, 2, 3, 0] (Nat.le_of_ble_eq_true rfl) hnL rfl dL_there_10 ?_
  refine xr_iconst (pc := 11) X dL_there_11 (v := 1) (by decide) ?_
  refine xr_iload_n (pc := 12) X (i := 2) 2 rfl rfl dL_there_12 ?_
  refine xr_iconst (pc := 13) X dL_there_13 (v := 4) (by decide) ?_
  refine xr_idiv (pc := 14) X (by decide) dL_there_14 ?_
  refine xr_bipush (pc := 15) X dL_there_15 (v := 80) (by decide) ?_
  refine xr_irem (pc := 17) X (by decide) dL_there_17 ?_
  refine xr_iadd (pc := 18) X dL_there_18 ?_
  refine x_leti (fun zz5 => ?_)
  refine xr_istore (pc := 19) X (i := 4) (lv2 := [(0, .ref (ad oo1)), (1, .ref (ad oo2)), (3, .int zz4), (4, .int zz5)]) [1, 2, 4, 0] (Nat.le_of_ble_eq_true rfl) hnL rfl dL_there_19 ?_
  refine xr_aload_n (pc := 21) X (i := 0) 0 rfl rfl dL_there_21 ?_
  refine xr_bipush (pc := 22) X dL_there_22 (v := 16) (by decide) ?_
  refine xr_iload_n (pc := 24) X (i := 3) 2 rfl rfl dL_there_24 ?_
  refine xr_iload (pc := 25) X (i := 4) 3 rfl dL_there_25 ?_
  refine xr_iconst (pc := 27) X dL_there_27 (v := 0) (by decide) ?_
  refine xr_callSI (na := 5) (pc := 28) X [.ref (ad oo1), .int 16, .int zz4, .int zz5, .int 0] (c_L_call Γ.2.1 hI hst oo1 hh1 16 zz4 zz5 0 σ1) (wG_S wm_5_23 wm_5_21 wm_5_22 wm_5_14) rfl rfl rfl (by decide +kernel) ⟨Nat.le_of_ble_eq_true rfl, Nat.le_of_ble_eq_true rfl⟩ rfl rfl (Nat.le_of_ble_eq_true rfl) ⟨(show _ ≤ 54 by omega), (show _ ≤ 324 by omega)⟩ dL_there_28 (fun zz7 σ6 => ?_)
  refine xr_istore (pc := 31) X (i := 5) (lv2 := [(0, .ref (ad oo1)), (1, .ref (ad oo2)), (3, .int zz4), (4, .int zz5), (5, .int zz7)]) [1, 2, 3, 4, 0] (Nat.le_of_ble_eq_true rfl) hnL rfl dL_there_31 ?_
  refine xr_aload_n (pc := 33) X (i := 0) 0 rfl rfl dL_there_33 ?_
  refine xr_bipush (pc := 34) X dL_there_34 (v := 9) (by decide) ?_
  refine xr_iload_n (pc := 36) X (i := 3) 2 rfl rfl dL_there_36 ?_
  refine xr_iload (pc := 37) X (i := 4) 3 rfl dL_there_37 ?_
  refine xr_iconst (pc := 39) X dL_there_39 (v := 0) (by decide) ?_
  refine xr_callSI (na := 5) (pc := 40) X [.ref (ad oo1), .int 9, .int zz4, .int zz5, .int 0] (c_L_call Γ.2.1 hI hst oo1 hh1 9 zz4 zz5 0 σ6) (wG_S wm_5_23 wm_5_21 wm_5_22 wm_5_14) rfl rfl rfl (by decide +kernel) ⟨Nat.le_of_ble_eq_true rfl, Nat.le_of_ble_eq_true rfl⟩ rfl rfl (Nat.le_of_ble_eq_true rfl) ⟨(show _ ≤ 54 by omega), (show _ ≤ 324 by omega)⟩ dL_there_40 (fun zz9 σ8 => ?_)
  refine xr_istore (pc := 43) X (i := 6) (lv2 := [(0, .ref (ad oo1)), (1, .ref (ad oo2)), (3, .int zz4), (4, .int zz5), (5, .int zz7), (6, .int zz9)]) [1, 2, 3, 4, 5, 0] (Nat.le_of_ble_eq_true rfl) hnL rfl dL_there_43 ?_
  refine xr_aload_n (pc := 45) X (i := 1) 1 rfl rfl dL_there_45 ?_
  refine xr_bipush (pc := 46) X dL_there_46 (v := 9) (by decide) ?_
  refine xr_iload_n (pc := 48) X (i := 3) 2 rfl rfl dL_there_48 ?_
  refine xr_iload (pc := 49) X (i := 4) 3 rfl dL_there_49 ?_
  refine xr_iconst (pc := 51) X dL_there_51 (v := 0) (by decide) ?_
  refine xr_callSI (na := 5) (pc := 52) X [.ref (ad oo2), .int 9, .int zz4, .int zz5, .int 0] (c_L_call Γ.2.1 hI hst oo2 hh2 9 zz4 zz5 0 σ8) (wG_S wm_5_23 wm_5_21 wm_5_22 wm_5_14) rfl rfl rfl (by decide +kernel) ⟨Nat.le_of_ble_eq_true rfl, Nat.le_of_ble_eq_true rfl⟩ rfl rfl (Nat.le_of_ble_eq_true rfl) ⟨(show _ ≤ 54 by omega), (show _ ≤ 324 by omega)⟩ dL_there_52 (fun zz11 σ10 => ?_)
  refine xr_iload (pc := 55) X (i := 6) 5 rfl dL_there_55 ?_
  refine x_jn (fun (KK14 : Int32 → xS → Option (Int32 × xS)) => ∀ zz12 σ13, xM Γ D ad N Sh (xQI Γ D ad N Sh 54 324) 12 72 (KK14 zz12 σ13) σ13 65 [(0, .ref (ad oo1)), (1, .ref (ad oo2)), (3, .int zz4), (4, .int zz5), (5, .int zz7), (6, .int zz9)] [.int zz12]) (fun zz12 σ13 => ?_) (fun KK14 hKK15 => ?_)
  · refine xr_istore (pc := 65) X (i := 7) (lv2 := [(0, .ref (ad oo1)), (1, .ref (ad oo2)), (3, .int zz4), (4, .int zz5), (5, .int zz7), (6, .int zz9), (7, .int zz12)]) [1, 2, 3, 4, 5, 6, 0] (Nat.le_of_ble_eq_true rfl) hnL rfl dL_there_65 ?_
    refine xr_iload (pc := 67) X (i := 6) 5 rfl dL_there_67 ?_
    refine xr_ldc (pc := 69) X dL_there_69 (List.mem_cons_of_mem _ wm_6_6) ?_
    refine xr_icmp_ne (pc := 71) X 91 (by decide) dL_there_71 (fun _ => ?_) (fun _ => ?_)
    · refine xr_aload_n (pc := 91) X (i := 0) 0 rfl rfl dL_there_91 ?_
      refine xr_iconst (pc := 92) X dL_there_92 (v := 3) (by decide) ?_
      refine xr_iload_n (pc := 93) X (i := 3) 2 rfl rfl dL_there_93 ?_
      refine xr_iconst (pc := 94) X dL_there_94 (v := 3) (by decide) ?_
      refine xr_iconst (pc := 95) X dL_there_95 (v := 0) (by decide) ?_
      refine xr_callSI (na := 5) (pc := 96) X [.ref (ad oo1), .int 3, .int zz4, .int 3, .int 0] (c_L_call Γ.2.1 hI hst oo1 hh1 3 zz4 3 0 σ13) (wG_S wm_5_23 wm_5_21 wm_5_22 wm_5_14) rfl rfl rfl (by decide +kernel) ⟨Nat.le_of_ble_eq_true rfl, Nat.le_of_ble_eq_true rfl⟩ rfl rfl (Nat.le_of_ble_eq_true rfl) ⟨(show _ ≤ 54 by omega), (show _ ≤ 324 by omega)⟩ dL_there_96 (fun zz17 σ16 => ?_)
      refine xr_istore (pc := 99) X (i := 8) (lv2 := [(0, .ref (ad oo1)), (1, .ref (ad oo2)), (3, .int zz4), (4, .int zz5), (5, .int zz7), (7, .int zz12), (8, .int zz17)]) [1, 2, 3, 4, 5, 7, 0] (Nat.le_of_ble_eq_true rfl) hnL rfl dL_there_99 ?_
      refine xr_iload (pc := 101) X (i := 5) 4 rfl dL_there_101 ?_
      refine xr_iconst (pc := 103) X dL_there_103 (v := (-1)) (by decide) ?_
      refine x_jn (fun (KK20 : Int32 → xS → Option (Int32 × xS)) => ∀ zz18 σ19, xM Γ D ad N Sh (xQI Γ D ad N Sh 54 324) 15 90 (KK20 zz18 σ19) σ19 121 [(0, .ref (ad oo1)), (1, .ref (ad oo2)), (3, .int zz4), (4, .int zz5), (5, .int zz7), (7, .int zz12), (8, .int zz17)] [.int zz18]) (fun zz18 σ19 => ?_) (fun KK20 hKK21 => ?_)
      · refine xr_istore (pc := 121) X (i := 9) (lv2 := [(0, .ref (ad oo1)), (1, .ref (ad oo2)), (3, .int zz4), (4, .int zz5), (5, .int zz7), (7, .int zz12), (8, .int zz17), (9, .int zz18)]) [1, 2, 3, 4, 5, 6, 7, 0] (Nat.le_of_ble_eq_true rfl) hnL rfl dL_there_121 ?_
        refine xr_iload (pc := 123) X (i := 7) 5 rfl dL_there_123 ?_
        refine x_jn (fun (KK27 : Int32 → xS → Option (Int32 × xS)) => ∀ zz25 σ26, xM Γ D ad N Sh (xQI Γ D ad N Sh 54 324) 24 144 (KK27 zz25 σ26) σ26 195 [(0, .ref (ad oo1)), (1, .ref (ad oo2)), (3, .int zz4), (4, .int zz5), (5, .int zz7), (8, .int zz17), (9, .int zz18)] [.int zz25]) (fun zz25 σ26 => ?_) (fun KK27 hKK28 => ?_)
        · refine xr_istore (pc := 195) X (i := 7) (lv2 := [(0, .ref (ad oo1)), (1, .ref (ad oo2)), (3, .int zz4), (4, .int zz5), (5, .int zz7), (7, .int zz25), (8, .int zz17), (9, .int zz18)]) [1, 2, 3, 4, 5, 0, 6, 7] (Nat.le_of_ble_eq_true rfl) hnL rfl dL_there_195 ?_
          refine xr_iload (pc := 197) X (i := 7) 5 rfl dL_there_197 ?_
          refine x_jn (fun (KK51 : Int32 → xS → Option (Int32 × xS)) => ∀ zz49 σ50, xM Γ D ad N Sh (xQI Γ D ad N Sh 54 324) 39 234 (KK51 zz49 σ50) σ50 295 [(0, .ref (ad oo1)), (1, .ref (ad oo2)), (3, .int zz4), (4, .int zz5), (7, .int zz49), (8, .int zz17)] []) (fun zz49 σ50 => ?_) (fun KK51 hKK52 => ?_)
          · refine xr_iload (pc := 295) X (i := 7) 4 rfl dL_there_295 ?_
            refine xr_if_eq (pc := 297) X 380 (by decide) dL_there_297 (fun _ => ?_) (fun _ => ?_)
            · refine xr_iconst (pc := 380) X dL_there_380 (v := 0) (by decide) ?_
              exact xr_zret (pc := 381) X rfl (Nat.le_of_ble_eq_true rfl) (Nat.le_of_ble_eq_true rfl) dL_there_381
            refine xr_aload_n (pc := 300) X (i := 0) 0 rfl rfl dL_there_300 ?_
            refine xr_bipush (pc := 301) X dL_there_301 (v := 14) (by decide) ?_
            refine xr_iconst (pc := 303) X dL_there_303 (v := 0) (by decide) ?_
            refine xr_iconst (pc := 304) X dL_there_304 (v := 0) (by decide) ?_
            refine xr_iconst (pc := 305) X dL_there_305 (v := 0) (by decide) ?_
            refine xr_callSI (na := 5) (pc := 306) X [.ref (ad oo1), .int 14, .int 0, .int 0, .int 0] (c_L_call Γ.2.1 hI hst oo1 hh1 14 0 0 0 σ50) (wG_S wm_5_23 wm_5_21 wm_5_22 wm_5_14) rfl rfl rfl (by decide +kernel) ⟨Nat.le_of_ble_eq_true rfl, Nat.le_of_ble_eq_true rfl⟩ rfl rfl (Nat.le_of_ble_eq_true rfl) ⟨(show _ ≤ 54 by omega), (show _ ≤ 324 by omega)⟩ dL_there_306 (fun zz75 σ74 => ?_)
            refine xr_callSI (na := 1) (pc := 309) X [.int zz75] (c_L_thrown Γ.2.1 hI zz75 σ74) (wG_S wm_23_20 wm_23_18 wm_23_19 wm_5_14) rfl rfl rfl (by decide +kernel) ⟨Nat.le_of_ble_eq_true rfl, Nat.le_of_ble_eq_true rfl⟩ rfl rfl (Nat.le_of_ble_eq_true rfl) ⟨(show _ ≤ 54 by omega), (show _ ≤ 324 by omega)⟩ dL_there_309 (fun zz77 σ76 => ?_)
            refine xr_if_ne (pc := 312) X 380 (by decide) dL_there_312 (fun _ => ?_) (fun _ => ?_)
            · refine xr_iconst (pc := 380) X dL_there_380 (v := 0) (by decide) ?_
              exact xr_zret (pc := 381) X rfl (Nat.le_of_ble_eq_true rfl) (Nat.le_of_ble_eq_true rfl) dL_there_381
            refine xr_aload_n (pc := 315) X (i := 1) 1 rfl rfl dL_there_315 ?_
            refine xr_bipush (pc := 316) X dL_there_316 (v := 14) (by decide) ?_
            refine xr_iconst (pc := 318) X dL_there_318 (v := 0) (by decide) ?_
            refine xr_iconst (pc := 319) X dL_there_319 (v := 0) (by decide) ?_
            refine xr_iconst (pc := 320) X dL_there_320 (v := 0) (by decide) ?_
            refine xr_callSI (na := 5) (pc := 321) X [.ref (ad oo2), .int 14, .int 0, .int 0, .int 0] (c_L_call Γ.2.1 hI hst oo2 hh2 14 0 0 0 σ76) (wG_S wm_5_23 wm_5_21 wm_5_22 wm_5_14) rfl rfl rfl (by decide +kernel) ⟨Nat.le_of_ble_eq_true rfl, Nat.le_of_ble_eq_true rfl⟩ rfl rfl (Nat.le_of_ble_eq_true rfl) ⟨(show _ ≤ 54 by omega), (show _ ≤ 324 by omega)⟩ dL_there_321 (fun zz79 σ78 => ?_)
            refine xr_callSI (na := 1) (pc := 324) X [.int zz79] (c_L_thrown Γ.2.1 hI zz79 σ78) (wG_S wm_23_20 wm_23_18 wm_23_19 wm_5_14) rfl rfl rfl (by decide +kernel) ⟨Nat.le_of_ble_eq_true rfl, Nat.le_of_ble_eq_true rfl⟩ rfl rfl (Nat.le_of_ble_eq_true rfl) ⟨(show _ ≤ 54 by omega), (show _ ≤ 324 by omega)⟩ dL_there_324 (fun zz81 σ80 => ?_)
            refine xr_if_ne (pc := 327) X 380 (by decide) dL_there_327 (fun _ => ?_) (fun _ => ?_)
            · refine xr_iconst (pc := 380) X dL_there_380 (v := 0) (by decide) ?_
              exact xr_zret (pc := 381) X rfl (Nat.le_of_ble_eq_true rfl) (Nat.le_of_ble_eq_true rfl) dL_there_381
            refine xr_aload_n (pc := 330) X (i := 0) 0 rfl rfl dL_there_330 ?_
            refine xr_bipush (pc := 331) X dL_there_331 (v := 14) (by decide) ?_
            refine xr_iconst (pc := 333) X dL_there_333 (v := 0) (by decide) ?_
            refine xr_iconst (pc := 334) X dL_there_334 (v := 0) (by decide) ?_
            refine xr_iconst (pc := 335) X dL_there_335 (v := 0) (by decide) ?_
            refine xr_callSI (na := 5) (pc := 336) X [.ref (ad oo1), .int 14, .int 0, .int 0, .int 0] (c_L_call Γ.2.1 hI hst oo1 hh1 14 0 0 0 σ80) (wG_S wm_5_23 wm_5_21 wm_5_22 wm_5_14) rfl rfl rfl (by decide +kernel) ⟨Nat.le_of_ble_eq_true rfl, Nat.le_of_ble_eq_true rfl⟩ rfl rfl (Nat.le_of_ble_eq_true rfl) ⟨(show _ ≤ 54 by omega), (show _ ≤ 324 by omega)⟩ dL_there_336 (fun zz83 σ82 => ?_)
            refine xr_callSI (na := 1) (pc := 339) X [.int zz83] (c_L_thrown Γ.2.1 hI zz83 σ82) (wG_S wm_23_20 wm_23_18 wm_23_19 wm_5_14) rfl rfl rfl (by decide +kernel) ⟨Nat.le_of_ble_eq_true rfl, Nat.le_of_ble_eq_true rfl⟩ rfl rfl (Nat.le_of_ble_eq_true rfl) ⟨(show _ ≤ 54 by omega), (show _ ≤ 324 by omega)⟩ dL_there_339 (fun zz85 σ84 => ?_)
            refine xr_if_ne (pc := 342) X 380 (by decide) dL_there_342 (fun _ => ?_) (fun _ => ?_)
            · refine xr_iconst (pc := 380) X dL_there_380 (v := 0) (by decide) ?_
              exact xr_zret (pc := 381) X rfl (Nat.le_of_ble_eq_true rfl) (Nat.le_of_ble_eq_true rfl) dL_there_381
            refine xr_aload_n (pc := 345) X (i := 1) 1 rfl rfl dL_there_345 ?_
            refine xr_bipush (pc := 346) X dL_there_346 (v := 14) (by decide) ?_
            refine xr_iconst (pc := 348) X dL_there_348 (v := 0) (by decide) ?_
            refine xr_iconst (pc := 349) X dL_there_349 (v := 0) (by decide) ?_
            refine xr_iconst (pc := 350) X dL_there_350 (v := 0) (by decide) ?_
            refine xr_callSI (na := 5) (pc := 351) X [.ref (ad oo2), .int 14, .int 0, .int 0, .int 0] (c_L_call Γ.2.1 hI hst oo2 hh2 14 0 0 0 σ84) (wG_S wm_5_23 wm_5_21 wm_5_22 wm_5_14) rfl rfl rfl (by decide +kernel) ⟨Nat.le_of_ble_eq_true rfl, Nat.le_of_ble_eq_true rfl⟩ rfl rfl (Nat.le_of_ble_eq_true rfl) ⟨(show _ ≤ 54 by omega), (show _ ≤ 324 by omega)⟩ dL_there_351 (fun zz87 σ86 => ?_)
            refine xr_callSI (na := 1) (pc := 354) X [.int zz87] (c_L_thrown Γ.2.1 hI zz87 σ86) (wG_S wm_23_20 wm_23_18 wm_23_19 wm_5_14) rfl rfl rfl (by decide +kernel) ⟨Nat.le_of_ble_eq_true rfl, Nat.le_of_ble_eq_true rfl⟩ rfl rfl (Nat.le_of_ble_eq_true rfl) ⟨(show _ ≤ 54 by omega), (show _ ≤ 324 by omega)⟩ dL_there_354 (fun zz89 σ88 => ?_)
            refine xr_if_ne (pc := 357) X 380 (by decide) dL_there_357 (fun _ => ?_) (fun _ => ?_)
            · refine xr_iconst (pc := 380) X dL_there_380 (v := 0) (by decide) ?_
              exact xr_zret (pc := 381) X rfl (Nat.le_of_ble_eq_true rfl) (Nat.le_of_ble_eq_true rfl) dL_there_381
            refine xr_aload_n (pc := 360) X (i := 0) 0 rfl rfl dL_there_360 ?_
            refine xr_iconst (pc := 361) X dL_there_361 (v := 3) (by decide) ?_
            refine xr_iload_n (pc := 362) X (i := 3) 2 rfl rfl dL_there_362 ?_
            refine xr_iconst (pc := 363) X dL_there_363 (v := 3) (by decide) ?_
            refine xr_iconst (pc := 364) X dL_there_364 (v := 0) (by decide) ?_
            refine xr_callSI (na := 5) (pc := 365) X [.ref (ad oo1), .int 3, .int zz4, .int 3, .int 0] (c_L_call Γ.2.1 hI hst oo1 hh1 3 zz4 3 0 σ88) (wG_S wm_5_23 wm_5_21 wm_5_22 wm_5_14) rfl rfl rfl (by decide +kernel) ⟨Nat.le_of_ble_eq_true rfl, Nat.le_of_ble_eq_true rfl⟩ rfl rfl (Nat.le_of_ble_eq_true rfl) ⟨(show _ ≤ 54 by omega), (show _ ≤ 324 by omega)⟩ dL_there_365 (fun zz91 σ90 => ?_)
            refine xr_iload (pc := 368) X (i := 8) 5 rfl dL_there_368 ?_
            refine xr_iload (pc := 370) X (i := 4) 3 rfl dL_there_370 ?_
            refine xr_isub (pc := 372) X dL_there_372 ?_
            refine xr_icmp_ne (pc := 373) X 380 (by decide) dL_there_373 (fun _ => ?_) (fun _ => ?_)
            · refine xr_iconst (pc := 380) X dL_there_380 (v := 0) (by decide) ?_
              exact xr_zret (pc := 381) X rfl (Nat.le_of_ble_eq_true rfl) (Nat.le_of_ble_eq_true rfl) dL_there_381
            refine xr_iconst (pc := 376) X dL_there_376 (v := 1) (by decide) ?_
            refine xr_goto (pc := 377) X 381 (by decide) dL_there_377 ?_
            exact xr_zret (pc := 381) X rfl (Nat.le_of_ble_eq_true rfl) (Nat.le_of_ble_eq_true rfl) dL_there_381
          refine xr_if_eq (pc := 199) X 295 (by decide) dL_there_199 (fun _ => ?_) (fun _ => ?_)
          · exact x_sub [0, 1, 2, 3, 5, 6] rfl (x_wid (by omega) (by omega) (hKK52 _ _))
          refine xr_iload (pc := 202) X (i := 5) 4 rfl dL_there_202 ?_
          refine xr_iload (pc := 204) X (i := 9) 7 rfl dL_there_204 ?_
          refine xr_icmp_ne (pc := 206) X 295 (by decide) dL_there_206 (fun _ => ?_) (fun _ => ?_)
          · exact x_sub [0, 1, 2, 3, 5, 6] rfl (x_wid (by omega) (by omega) (hKK52 _ _))
          refine xr_iload (pc := 209) X (i := 5) 4 rfl dL_there_209 ?_
          refine xr_iconst (pc := 211) X dL_there_211 (v := 1) (by decide) ?_
          refine xr_icmp_le (pc := 212) X 295 (by decide) dL_there_212 (fun _ => ?_) (fun _ => ?_)
          · exact x_sub [0, 1, 2, 3, 5, 6] rfl (x_wid (by omega) (by omega) (hKK52 _ _))
          refine xr_aload_n (pc := 215) X (i := 0) 0 rfl rfl dL_there_215 ?_
          refine xr_bipush (pc := 216) X dL_there_216 (v := 14) (by decide) ?_
          refine xr_iconst (pc := 218) X dL_there_218 (v := 0) (by decide) ?_
          refine xr_iconst (pc := 219) X dL_there_219 (v := 0) (by decide) ?_
          refine xr_iconst (pc := 220) X dL_there_220 (v := 0) (by decide) ?_
          refine xr_callSI (na := 5) (pc := 221) X [.ref (ad oo1), .int 14, .int 0, .int 0, .int 0] (c_L_call Γ.2.1 hI hst oo1 hh1 14 0 0 0 σ26) (wG_S wm_5_23 wm_5_21 wm_5_22 wm_5_14) rfl rfl rfl (by decide +kernel) ⟨Nat.le_of_ble_eq_true rfl, Nat.le_of_ble_eq_true rfl⟩ rfl rfl (Nat.le_of_ble_eq_true rfl) ⟨(show _ ≤ 54 by omega), (show _ ≤ 324 by omega)⟩ dL_there_221 (fun zz54 σ53 => ?_)
          refine xr_callSI (na := 1) (pc := 224) X [.int zz54] (c_L_thrown Γ.2.1 hI zz54 σ53) (wG_S wm_23_20 wm_23_18 wm_23_19 wm_5_14) rfl rfl rfl (by decide +kernel) ⟨Nat.le_of_ble_eq_true rfl, Nat.le_of_ble_eq_true rfl⟩ rfl rfl (Nat.le_of_ble_eq_true rfl) ⟨(show _ ≤ 54 by omega), (show _ ≤ 324 by omega)⟩ dL_there_224 (fun zz56 σ55 => ?_)
          refine x_jn (fun (KK59 : Int32 → xS → Option (Int32 × xS)) => ∀ zz57 σ58, xM Γ D ad N Sh (xQI Γ D ad N Sh 54 324) 39 234 (KK59 zz57 σ58) σ58 293 [(0, .ref (ad oo1)), (1, .ref (ad oo2)), (3, .int zz4), (4, .int zz5), (8, .int zz17)] [.int zz57]) (fun zz57 σ58 => ?_) (fun KK59 hKK60 => ?_)
          · refine xr_istore (pc := 293) X (i := 7) (lv2 := [(0, .ref (ad oo1)), (1, .ref (ad oo2)), (3, .int zz4), (4, .int zz5), (7, .int zz57), (8, .int zz17)]) [1, 2, 3, 4, 0, 5] (Nat.le_of_ble_eq_true rfl) hnL rfl dL_there_293 ?_
            exact x_wid (by omega) (by omega) (hKK52 _ _)
          refine x_jn (fun (KK62 : xS → Option (Int32 × xS)) => ∀ σ61, xM Γ D ad N Sh (xQI Γ D ad N Sh 54 324) 39 234 (KK62 σ61) σ61 292 [(0, .ref (ad oo1)), (1, .ref (ad oo2)), (3, .int zz4), (4, .int zz5), (8, .int zz17)] []) (fun σ61 => ?_) (fun KK62 hKK63 => ?_)
          · refine xr_iconst (pc := 292) X dL_there_292 (v := 0) (by decide) ?_
            exact x_wid (by omega) (by omega) (hKK60 _ _)
          refine xr_if_ne (pc := 227) X 292 (by decide) dL_there_227 (fun _ => ?_) (fun _ => ?_)
          · exact x_sub [0, 1, 2, 3, 6] rfl (x_wid (by omega) (by omega) (hKK63  _))
          refine xr_aload_n (pc := 230) X (i := 1) 1 rfl rfl dL_there_230 ?_
          refine xr_bipush (pc := 231) X dL_there_231 (v := 14) (by decide) ?_
          refine xr_iconst (pc := 233) X dL_there_233 (v := 0) (by decide) ?_
          refine xr_iconst (pc := 234) X dL_there_234 (v := 0) (by decide) ?_
          refine xr_iconst (pc := 235) X dL_there_235 (v := 0) (by decide) ?_
          refine xr_callSI (na := 5) (pc := 236) X [.ref (ad oo2), .int 14, .int 0, .int 0, .int 0] (c_L_call Γ.2.1 hI hst oo2 hh2 14 0 0 0 σ55) (wG_S wm_5_23 wm_5_21 wm_5_22 wm_5_14) rfl rfl rfl (by decide +kernel) ⟨Nat.le_of_ble_eq_true rfl, Nat.le_of_ble_eq_true rfl⟩ rfl rfl (Nat.le_of_ble_eq_true rfl) ⟨(show _ ≤ 54 by omega), (show _ ≤ 324 by omega)⟩ dL_there_236 (fun zz65 σ64 => ?_)
          refine xr_callSI (na := 1) (pc := 239) X [.int zz65] (c_L_thrown Γ.2.1 hI zz65 σ64) (wG_S wm_23_20 wm_23_18 wm_23_19 wm_5_14) rfl rfl rfl (by decide +kernel) ⟨Nat.le_of_ble_eq_true rfl, Nat.le_of_ble_eq_true rfl⟩ rfl rfl (Nat.le_of_ble_eq_true rfl) ⟨(show _ ≤ 54 by omega), (show _ ≤ 324 by omega)⟩ dL_there_239 (fun zz67 σ66 => ?_)
          refine xr_if_ne (pc := 242) X 292 (by decide) dL_there_242 (fun _ => ?_) (fun _ => ?_)
          · exact x_sub [0, 1, 2, 3, 6] rfl (x_wid (by omega) (by omega) (hKK63  _))
          refine xr_aload_n (pc := 245) X (i := 0) 0 rfl rfl dL_there_245 ?_
          refine xr_bipush (pc := 246) X dL_there_246 (v := 12) (by decide) ?_
          refine xr_iload (pc := 248) X (i := 9) 7 rfl dL_there_248 ?_
          refine xr_iconst (pc := 250) X dL_there_250 (v := 1) (by decide) ?_
          refine xr_isub (pc := 251) X dL_there_251 ?_
          refine xr_iconst (pc := 252) X dL_there_252 (v := 0) (by decide) ?_
          refine xr_iconst (pc := 253) X dL_there_253 (v := 0) (by decide) ?_
          refine xr_callSI (na := 5) (pc := 254) X [.ref (ad oo1), .int 12, .int (zz18 - 1), .int 0, .int 0] (c_L_call Γ.2.1 hI hst oo1 hh1 12 (zz18 - 1) 0 0 σ66) (wG_S wm_5_23 wm_5_21 wm_5_22 wm_5_14) rfl rfl rfl (by decide +kernel) ⟨Nat.le_of_ble_eq_true rfl, Nat.le_of_ble_eq_true rfl⟩ rfl rfl (Nat.le_of_ble_eq_true rfl) ⟨(show _ ≤ 54 by omega), (show _ ≤ 324 by omega)⟩ dL_there_254 (fun zz69 σ68 => ?_)
          refine xr_if_lt (pc := 257) X 292 (by decide) dL_there_257 (fun _ => ?_) (fun _ => ?_)
          · exact x_sub [0, 1, 2, 3, 6] rfl (x_wid (by omega) (by omega) (hKK63  _))
          refine xr_aload_n (pc := 260) X (i := 1) 1 rfl rfl dL_there_260 ?_
          refine xr_bipush (pc := 261) X dL_there_261 (v := 12) (by decide) ?_
          refine xr_iload (pc := 263) X (i := 9) 7 rfl dL_there_263 ?_
          refine xr_iconst (pc := 265) X dL_there_265 (v := 1) (by decide) ?_
          refine xr_isub (pc := 266) X dL_there_266 ?_
          refine xr_iconst (pc := 267) X dL_there_267 (v := 0) (by decide) ?_
          refine xr_iconst (pc := 268) X dL_there_268 (v := 0) (by decide) ?_
          refine xr_callSI (na := 5) (pc := 269) X [.ref (ad oo2), .int 12, .int (zz18 - 1), .int 0, .int 0] (c_L_call Γ.2.1 hI hst oo2 hh2 12 (zz18 - 1) 0 0 σ68) (wG_S wm_5_23 wm_5_21 wm_5_22 wm_5_14) rfl rfl rfl (by decide +kernel) ⟨Nat.le_of_ble_eq_true rfl, Nat.le_of_ble_eq_true rfl⟩ rfl rfl (Nat.le_of_ble_eq_true rfl) ⟨(show _ ≤ 54 by omega), (show _ ≤ 324 by omega)⟩ dL_there_269 (fun zz71 σ70 => ?_)
          refine xr_if_lt (pc := 272) X 292 (by decide) dL_there_272 (fun _ => ?_) (fun _ => ?_)
          · exact x_sub [0, 1, 2, 3, 6] rfl (x_wid (by omega) (by omega) (hKK63  _))
          refine xr_aload_n (pc := 275) X (i := 0) 0 rfl rfl dL_there_275 ?_
          refine xr_iconst (pc := 276) X dL_there_276 (v := 4) (by decide) ?_
          refine xr_iload_n (pc := 277) X (i := 3) 2 rfl rfl dL_there_277 ?_
          refine xr_iconst (pc := 278) X dL_there_278 (v := 0) (by decide) ?_
          refine xr_iconst (pc := 279) X dL_there_279 (v := 0) (by decide) ?_
          refine xr_callSI (na := 5) (pc := 280) X [.ref (ad oo1), .int 4, .int zz4, .int 0, .int 0] (c_L_call Γ.2.1 hI hst oo1 hh1 4 zz4 0 0 σ70) (wG_S wm_5_23 wm_5_21 wm_5_22 wm_5_14) rfl rfl rfl (by decide +kernel) ⟨Nat.le_of_ble_eq_true rfl, Nat.le_of_ble_eq_true rfl⟩ rfl rfl (Nat.le_of_ble_eq_true rfl) ⟨(show _ ≤ 54 by omega), (show _ ≤ 324 by omega)⟩ dL_there_280 (fun zz73 σ72 => ?_)
          refine xr_iload (pc := 283) X (i := 8) 6 rfl dL_there_283 ?_
          refine xr_icmp_ge (pc := 285) X 292 (by decide) dL_there_285 (fun _ => ?_) (fun _ => ?_)
          · exact x_sub [0, 1, 2, 3, 6] rfl (x_wid (by omega) (by omega) (hKK63  _))
          refine xr_iconst (pc := 288) X dL_there_288 (v := 1) (by decide) ?_
          refine xr_goto (pc := 289) X 293 (by decide) dL_there_289 ?_
          exact x_sub [0, 1, 2, 3, 6] rfl (x_wid (by omega) (by omega) (hKK60 _ _))
        refine x_jn (fun (KK30 : xS → Option (Int32 × xS)) => ∀ σ29, xM Γ D ad N Sh (xQI Γ D ad N Sh 54 324) 24 144 (KK30 σ29) σ29 194 [(0, .ref (ad oo1)), (1, .ref (ad oo2)), (3, .int zz4), (4, .int zz5), (5, .int zz7), (8, .int zz17), (9, .int zz18)] []) (fun σ29 => ?_) (fun KK30 hKK31 => ?_)
        · refine xr_iconst (pc := 194) X dL_there_194 (v := 0) (by decide) ?_
          exact x_wid (by omega) (by omega) (hKK28 _ _)
        refine xr_if_eq (pc := 125) X 194 (by decide) dL_there_125 (fun _ => ?_) (fun _ => ?_)
        · exact x_sub [0, 1, 2, 3, 4, 6, 7] rfl (x_wid (by omega) (by omega) (hKK31  _))
        refine xr_aload_n (pc := 128) X (i := 0) 0 rfl rfl dL_there_128 ?_
        refine xr_bipush (pc := 129) X dL_there_129 (v := 12) (by decide) ?_
        refine xr_iload (pc := 131) X (i := 9) 7 rfl dL_there_131 ?_
        refine xr_iconst (pc := 133) X dL_there_133 (v := 0) (by decide) ?_
        refine xr_iconst (pc := 134) X dL_there_134 (v := 0) (by decide) ?_
        refine xr_callSI (na := 5) (pc := 135) X [.ref (ad oo1), .int 12, .int zz18, .int 0, .int 0] (c_L_call Γ.2.1 hI hst oo1 hh1 12 zz18 0 0 σ19) (wG_S wm_5_23 wm_5_21 wm_5_22 wm_5_14) rfl rfl rfl (by decide +kernel) ⟨Nat.le_of_ble_eq_true rfl, Nat.le_of_ble_eq_true rfl⟩ rfl rfl (Nat.le_of_ble_eq_true rfl) ⟨(show _ ≤ 54 by omega), (show _ ≤ 324 by omega)⟩ dL_there_135 (fun zz33 σ32 => ?_)
        refine xr_aload_n (pc := 138) X (i := 1) 1 rfl rfl dL_there_138 ?_
        refine xr_bipush (pc := 139) X dL_there_139 (v := 12) (by decide) ?_
        refine xr_iload (pc := 141) X (i := 9) 7 rfl dL_there_141 ?_
        refine xr_iconst (pc := 143) X dL_there_143 (v := 0) (by decide) ?_
        refine xr_iconst (pc := 144) X dL_there_144 (v := 0) (by decide) ?_
        refine xr_callSI (na := 5) (pc := 145) X [.ref (ad oo2), .int 12, .int zz18, .int 0, .int 0] (c_L_call Γ.2.1 hI hst oo2 hh2 12 zz18 0 0 σ32) (wG_S wm_5_23 wm_5_21 wm_5_22 wm_5_14) rfl rfl rfl (by decide +kernel) ⟨Nat.le_of_ble_eq_true rfl, Nat.le_of_ble_eq_true rfl⟩ rfl rfl (Nat.le_of_ble_eq_true rfl) ⟨(show _ ≤ 54 by omega), (show _ ≤ 324 by omega)⟩ dL_there_145 (fun zz35 σ34 => ?_)
        refine xr_icmp_ne (pc := 148) X 194 (by decide) dL_there_148 (fun _ => ?_) (fun _ => ?_)
        · exact x_sub [0, 1, 2, 3, 4, 6, 7] rfl (x_wid (by omega) (by omega) (hKK31  _))
        refine xr_aload_n (pc := 151) X (i := 0) 0 rfl rfl dL_there_151 ?_
        refine xr_iconst (pc := 152) X dL_there_152 (v := 4) (by decide) ?_
        refine xr_iload_n (pc := 153) X (i := 3) 2 rfl rfl dL_there_153 ?_
        refine xr_iconst (pc := 154) X dL_there_154 (v := 0) (by decide) ?_
        refine xr_iconst (pc := 155) X dL_there_155 (v := 0) (by decide) ?_
        refine xr_callSI (na := 5) (pc := 156) X [.ref (ad oo1), .int 4, .int zz4, .int 0, .int 0] (c_L_call Γ.2.1 hI hst oo1 hh1 4 zz4 0 0 σ34) (wG_S wm_5_23 wm_5_21 wm_5_22 wm_5_14) rfl rfl rfl (by decide +kernel) ⟨Nat.le_of_ble_eq_true rfl, Nat.le_of_ble_eq_true rfl⟩ rfl rfl (Nat.le_of_ble_eq_true rfl) ⟨(show _ ≤ 54 by omega), (show _ ≤ 324 by omega)⟩ dL_there_156 (fun zz37 σ36 => ?_)
        refine xr_iload (pc := 159) X (i := 8) 6 rfl dL_there_159 ?_
        refine x_jn (fun (KK40 : Int32 → xS → Option (Int32 × xS)) => ∀ zz38 σ39, xM Γ D ad N Sh (xQI Γ D ad N Sh 54 324) 24 144 (KK40 zz38 σ39) σ39 169 [(0, .ref (ad oo1)), (1, .ref (ad oo2)), (3, .int zz4), (4, .int zz5), (5, .int zz7), (8, .int zz17), (9, .int zz18)] [.int zz38]) (fun zz38 σ39 => ?_) (fun KK40 hKK41 => ?_)
        · refine xr_iload (pc := 169) X (i := 5) 4 rfl dL_there_169 ?_
          refine xr_iconst (pc := 171) X dL_there_171 (v := (-1)) (by decide) ?_
          refine x_jn (fun (KK44 : Int32 → xS → Option (Int32 × xS)) => ∀ zz42 σ43, xM Γ D ad N Sh (xQI Γ D ad N Sh 54 324) 24 144 (KK44 zz42 σ43) σ43 187 [(0, .ref (ad oo1)), (1, .ref (ad oo2)), (3, .int zz4), (4, .int zz5), (5, .int zz7), (8, .int zz17), (9, .int zz18)] [.int zz42, .int zz38]) (fun zz42 σ43 => ?_) (fun KK44 hKK45 => ?_)
          · refine xr_icmp_ne (pc := 187) X 194 (by decide) dL_there_187 (fun _ => ?_) (fun _ => ?_)
            · exact x_wid (by omega) (by omega) (hKK31  _)
            refine xr_iconst (pc := 190) X dL_there_190 (v := 1) (by decide) ?_
            refine xr_goto (pc := 191) X 195 (by decide) dL_there_191 ?_
            exact x_wid (by omega) (by omega) (hKK28 _ _)
          refine x_jn (fun (KK47 : xS → Option (Int32 × xS)) => ∀ σ46, xM Γ D ad N Sh (xQI Γ D ad N Sh 54 324) 24 144 (KK47 σ46) σ46 186 [(0, .ref (ad oo1)), (1, .ref (ad oo2)), (3, .int zz4), (4, .int zz5), (5, .int zz7), (8, .int zz17), (9, .int zz18)] [.int zz38]) (fun σ46 => ?_) (fun KK47 hKK48 => ?_)
          · refine xr_iconst (pc := 186) X dL_there_186 (v := 0) (by decide) ?_
            exact x_wid (by omega) (by omega) (hKK45 _ _)
          refine xr_icmp_eq (pc := 172) X 186 (by decide) dL_there_172 (fun _ => ?_) (fun _ => ?_)
          · exact x_wid (by omega) (by omega) (hKK48  _)
          refine xr_iload (pc := 175) X (i := 5) 4 rfl dL_there_175 ?_
          refine xr_iload (pc := 177) X (i := 9) 6 rfl dL_there_177 ?_
          refine xr_icmp_gt (pc := 179) X 186 (by decide) dL_there_179 (fun _ => ?_) (fun _ => ?_)
          · exact x_wid (by omega) (by omega) (hKK48  _)
          refine xr_iconst (pc := 182) X dL_there_182 (v := 1) (by decide) ?_
          refine xr_goto (pc := 183) X 187 (by decide) dL_there_183 ?_
          exact x_wid (by omega) (by omega) (hKK45 _ _)
        refine xr_icmp_lt (pc := 161) X 168 (by decide) dL_there_161 (fun _ => ?_) (fun _ => ?_)
        · refine xr_iconst (pc := 168) X dL_there_168 (v := 0) (by decide) ?_
          exact x_sub [0, 1, 2, 3, 4, 6, 7] rfl (x_wid (by omega) (by omega) (hKK41 _ _))
        refine xr_iconst (pc := 164) X dL_there_164 (v := 1) (by decide) ?_
        refine xr_goto (pc := 165) X 169 (by decide) dL_there_165 ?_
        exact x_sub [0, 1, 2, 3, 4, 6, 7] rfl (x_wid (by omega) (by omega) (hKK41 _ _))
      refine x_jn (fun (KK23 : xS → Option (Int32 × xS)) => ∀ σ22, xM Γ D ad N Sh (xQI Γ D ad N Sh 54 324) 15 90 (KK23 σ22) σ22 119 [(0, .ref (ad oo1)), (1, .ref (ad oo2)), (3, .int zz4), (4, .int zz5), (5, .int zz7), (7, .int zz12), (8, .int zz17)] []) (fun σ22 => ?_) (fun KK23 hKK24 => ?_)
      · refine xr_bipush (pc := 119) X dL_there_119 (v := 99) (by decide) ?_
        exact x_wid (by omega) (by omega) (hKK21 _ _)
      refine xr_icmp_eq (pc := 104) X 119 (by decide) dL_there_104 (fun _ => ?_) (fun _ => ?_)
      · exact x_wid (by omega) (by omega) (hKK24  _)
      refine xr_iload (pc := 107) X (i := 5) 4 rfl dL_there_107 ?_
      refine xr_bipush (pc := 109) X dL_there_109 (v := 100) (by decide) ?_
      refine xr_icmp_ge (pc := 111) X 119 (by decide) dL_there_111 (fun _ => ?_) (fun _ => ?_)
      · exact x_wid (by omega) (by omega) (hKK24  _)
      refine xr_iload (pc := 114) X (i := 5) 4 rfl dL_there_114 ?_
      refine xr_goto (pc := 116) X 121 (by decide) dL_there_116 ?_
      exact x_wid (by omega) (by omega) (hKK21 _ _)
    refine xr_iload (pc := 74) X (i := 7) 6 rfl dL_there_74 ?_
    refine xr_if_eq (pc := 76) X 89 (by decide) dL_there_76 (fun _ => ?_) (fun _ => ?_)
    · refine xr_iconst (pc := 89) X dL_there_89 (v := 0) (by decide) ?_
      exact xr_zret (pc := 90) X rfl (Nat.le_of_ble_eq_true rfl) (Nat.le_of_ble_eq_true rfl) dL_there_90
    refine xr_iload (pc := 79) X (i := 5) 4 rfl dL_there_79 ?_
    refine xr_iconst (pc := 81) X dL_there_81 (v := (-1)) (by decide) ?_
    refine xr_icmp_ne (pc := 82) X 89 (by decide) dL_there_82 (fun _ => ?_) (fun _ => ?_)
    · refine xr_iconst (pc := 89) X dL_there_89 (v := 0) (by decide) ?_
      exact xr_zret (pc := 90) X rfl (Nat.le_of_ble_eq_true rfl) (Nat.le_of_ble_eq_true rfl) dL_there_90
    refine xr_iconst (pc := 85) X dL_there_85 (v := 1) (by decide) ?_
    refine xr_goto (pc := 86) X 90 (by decide) dL_there_86 ?_
    exact xr_zret (pc := 90) X rfl (Nat.le_of_ble_eq_true rfl) (Nat.le_of_ble_eq_true rfl) dL_there_90
  refine xr_icmp_ne (pc := 57) X 64 (by decide) dL_there_57 (fun _ => ?_) (fun _ => ?_)
  · refine xr_iconst (pc := 64) X dL_there_64 (v := 0) (by decide) ?_
    exact x_wid (by omega) (by omega) (hKK15 _ _)
  refine xr_iconst (pc := 60) X dL_there_60 (v := 1) (by decide) ?_
  refine xr_goto (pc := 61) X 65 (by decide) dL_there_61 ?_
  exact x_wid (by omega) (by omega) (hKK15 _ _)
