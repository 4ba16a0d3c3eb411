def F_L_refuses (oo1 : Nat) (pp2 : Int32) (σ : xS) : Option (Int32 × xS) :=
  xbI (F_L_call oo1 2 0 0 0 σ) (fun (zz2 : Int32) (σ1 : xS) => xjn (fun (zz3 : Int32) (σ4 : xS) => xjn (fun (zz7 : Int32) (σ8 : xS) => xjn (fun (zz11 : Int32) (σ12 : xS) => xbI (F_L_call oo1 0 zz11 0 0 σ12) (fun (zz16 : Int32) (σ15 : xS) => if ¬ zz16 = ((-9999002)) then (some ((0 : Int32), σ15))
 else (xbI (F_L_call oo1 2 (9 + (pp2 - pp2 / 50 * 50)) 0 0 σ15) (fun (zz18 : Int32) (σ17 : xS) => if ¬ zz18 = ((-9999002)) then (some ((0 : Int32), σ17))
 else (xbI (F_L_call oo1 3 zz3 9 0 σ17) (fun (zz20 : Int32) (σ19 : xS) => if ¬ zz20 = ((-9999001)) then (some ((0 : Int32), σ19))
 else (if ¬ zz2 = 0 then (xbI (F_L_call oo1 3 (pp2 - pp2 / zz2 * zz2) (7 + (pp2 - pp2 / 9 * 9)) 0 σ19) (fun (zz23 : Int32) (σ22 : xS) => if ¬ zz23 = ((-9999002)) then (some ((0 : Int32), σ22))
 else (xbI (F_L_call oo1 4 zz3 9 0 σ22) (fun (zz25 : Int32) (σ24 : xS) => if ¬ zz25 = ((-9999001)) then (some ((0 : Int32), σ24))
 else (if ¬ zz2 = 0 then (xbI (F_L_call oo1 4 (pp2 - pp2 / zz2 * zz2) (6 + (pp2 - pp2 / 9 * 9)) 0 σ24) (fun (zz28 : Int32) (σ27 : xS) => if ¬ zz28 = ((-9999002)) then (some ((0 : Int32), σ27))
 else (xbI (F_L_call oo1 5 zz3 0 9 σ27) (fun (zz30 : Int32) (σ29 : xS) => if ¬ zz30 = ((-9999001)) then (some ((0 : Int32), σ29))
 else (xbI (F_L_call oo1 3 0 1 0 σ29) (fun (zz32 : Int32) (σ31 : xS) => xbI (F_L_call oo1 5 0 (zz32 + (pp2 - pp2 / 9 * 9)) 9 σ31) (fun (zz34 : Int32) (σ33 : xS) => if ¬ zz34 = ((-9999001)) then (some ((0 : Int32), σ33))
 else (xbI (F_L_call oo1 2 2 0 0 σ33) (fun (zz36 : Int32) (σ35 : xS) => xbI (F_L_call oo1 6 (zz36 + (pp2 - pp2 / 9 * 9)) 9 0 σ35) (fun (zz38 : Int32) (σ37 : xS) => if ¬ zz38 = ((-9999001)) then (some ((0 : Int32), σ37))
 else (xbI (F_L_call oo1 7 (4 + (pp2 - pp2 / 9 * 9)) 0 0 σ37) (fun (zz40 : Int32) (σ39 : xS) => if ¬ zz40 = ((-9999002)) then (some ((0 : Int32), σ39))
 else (xjn (fun (zz41 : Int32) (σ42 : xS) => xbI (F_L_call oo1 8 zz41 0 0 σ42) (fun (zz46 : Int32) (σ45 : xS) => if ¬ zz46 = ((-9999002)) then (some ((0 : Int32), σ45))
 else (xbI (F_L_call oo1 9 zz3 zz7 0 σ45) (fun (zz48 : Int32) (σ47 : xS) => if ¬ zz48 = ((-9999001)) then (some ((0 : Int32), σ47))
 else (if ¬ zz2 = 0 then (xbI (F_L_call oo1 9 (pp2 - pp2 / zz2 * zz2) zz7 0 σ47) (fun (zz51 : Int32) (σ50 : xS) => if ¬ zz51 = ((-9999002)) then (some ((0 : Int32), σ50))
 else (xbI (F_L_call oo1 10 0 zz3 5 σ50) (fun (zz53 : Int32) (σ52 : xS) => if ¬ zz53 = ((-9999001)) then (some ((0 : Int32), σ52))
 else (xjn (fun (zz54 : Int32) (σ55 : xS) => xbI (F_L_call oo1 10 zz54 0 5 σ55) (fun (zz59 : Int32) (σ58 : xS) => if ¬ zz59 = ((-9999002)) then (some ((0 : Int32), σ58))
 else (xbI (F_L_call oo1 10 5 0 zz7 σ58) (fun (zz61 : Int32) (σ60 : xS) => if ¬ zz61 = ((-9999002)) then (some ((0 : Int32), σ60))
 else (xbI (F_L_holds oo1 zz3 1 σ60) (fun (zz63 : Int32) (σ62 : xS) => if ¬ zz63 = ((-9999001)) then (some ((0 : Int32), σ62))
 else (xbI (F_L_call oo1 11 zz3 0 0 σ62) (fun (zz65 : Int32) (σ64 : xS) => if ¬ zz65 = ((-9999001)) then (some ((0 : Int32), σ64))
 else (xjn (fun (zz66 : Int32) (σ67 : xS) => xbI (F_L_call oo1 12 zz66 0 0 σ67) (fun (zz71 : Int32) (σ70 : xS) => if ¬ zz71 = ((-9999002)) then (some ((0 : Int32), σ70))
 else (xjn (fun (zz72 : Int32) (σ73 : xS) => xbI (F_L_call oo1 13 0 zz72 0 σ73) (fun (zz77 : Int32) (σ76 : xS) => if ¬ zz77 = ((-9999002)) then (some ((0 : Int32), σ76))
 else (xbI (F_L_call oo1 13 1 (21 + (pp2 - pp2 / 9 * 9)) 0 σ76) (fun (zz79 : Int32) (σ78 : xS) => if ¬ zz79 = ((-9999002)) then (some ((0 : Int32), σ78))
 else (xjn (fun (zz80 : Int32) (σ81 : xS) => xbI (F_L_call oo1 13 2 zz80 0 σ81) (fun (zz85 : Int32) (σ84 : xS) => if ¬ zz85 = ((-9999002)) then (some ((0 : Int32), σ84))
 else (xjn (fun (zz86 : Int32) (σ87 : xS) => xbI (F_L_call oo1 13 3 zz86 0 σ87) (fun (zz91 : Int32) (σ90 : xS) => if ¬ zz91 = ((-9999002)) then (some ((0 : Int32), σ90))
 else (xbI (F_L_call oo1 13 (4 + (pp2 - pp2 / 9 * 9)) 5 0 σ90) (fun (zz93 : Int32) (σ92 : xS) => if ¬ zz93 = ((-9999002)) then (some ((0 : Int32), σ92))
 else (xbI (F_L_call oo1 15 zz3 0 0 σ92) (fun (zz95 : Int32) (σ94 : xS) => if ¬ zz95 = ((-9999001)) then (some ((0 : Int32), σ94))
 else (xbI (F_L_call oo1 16 zz3 zz7 0 σ94) (fun (zz97 : Int32) (σ96 : xS) => if ¬ zz97 = ((-9999001)) then (some ((0 : Int32), σ96))
 else (if ¬ zz2 = 0 then (xbI (F_L_call oo1 16 (pp2 - pp2 / zz2 * zz2) zz7 0 σ96) (fun (zz100 : Int32) (σ99 : xS) => if ¬ zz100 = ((-9999002)) then (some ((0 : Int32), σ99))
 else (xbI (F_L_call oo1 17 zz3 9 0 σ99) (fun (zz102 : Int32) (σ101 : xS) => if ¬ zz102 = ((-9999001)) then (some ((0 : Int32), σ101))
 else (xbI (F_L_call oo1 17 0 (4 + (pp2 - pp2 / 9 * 9)) 0 σ101) (fun (zz104 : Int32) (σ103 : xS) => if ¬ zz104 = ((-9999002)) then (some ((0 : Int32), σ103))
 else (xbI (F_L_call oo1 18 9 zz3 0 σ103) (fun (zz106 : Int32) (σ105 : xS) => if ¬ zz106 = ((-9999001)) then (some ((0 : Int32), σ105))
 else (xjn (fun (zz107 : Int32) (σ108 : xS) => xbI (F_L_call oo1 18 zz107 0 0 σ108) (fun (zz112 : Int32) (σ111 : xS) => if ¬ zz112 = ((-9999002)) then (some ((0 : Int32), σ111))
 else (xbI (F_L_call oo1 19 (2 + (pp2 - pp2 / 50 * 50)) 0 0 σ111) (fun (zz114 : Int32) (σ113 : xS) => if ¬ zz114 = ((-9999001)) then (some ((0 : Int32), σ113))
 else (xbI (F_L_call oo1 20 (((-1)) - (pp2 - pp2 / 9 * 9)) 0 0 σ113) (fun (zz116 : Int32) (σ115 : xS) => if ¬ zz116 = ((-9999001)) then (some ((0 : Int32), σ115))
 else (xbI (F_L_doScript oo1 0 0 σ115) (fun (zz118 : Int32) (σ117 : xS) => if ¬ zz118 = ((-9999002)) then (some ((0 : Int32), σ117))
 else (xbI (F_L_doScript oo1 1 (100000 + pp2.toInt64) σ117) (fun (zz120 : Int32) (σ119 : xS) => if ¬ zz120 = ((-9999002)) then (some ((0 : Int32), σ119))
 else (xbI (F_L_doSimulate oo1 pp2.toInt64 (61 + (pp2 - pp2 / 9 * 9)) σ119) (fun (zz122 : Int32) (σ121 : xS) => if ¬ zz122 = ((-9999002)) then (some ((0 : Int32), σ121))
 else (some ((1 : Int32), σ121))))))))))))))
 (fun (KK109 : Int32 → xS → Option (Int32 × xS)) => if ¬ (pp2 - pp2 / 2 * 2) = 0 then (KK109 (3 + (pp2 - pp2 / 9 * 9)) σ105)
 else (KK109 0 σ105))))))))))) else none)))))))))
 (fun (KK88 : Int32 → xS → Option (Int32 × xS)) => if ¬ (pp2 - pp2 / 2 * 2) = 0 then (KK88 (7 + (pp2 - pp2 / 9 * 9)) σ84)
 else (KK88 0 σ84)))))
 (fun (KK82 : Int32 → xS → Option (Int32 × xS)) => if ¬ (pp2 - pp2 / 2 * 2) = 0 then (KK82 (100 + (pp2 - pp2 / 9 * 9)) σ78)
 else (KK82 (pp2 - pp2 / 4 * 4) σ78)))))))
 (fun (KK74 : Int32 → xS → Option (Int32 × xS)) => if ¬ (pp2 - pp2 / 2 * 2) = 0 then (KK74 (10 + (pp2 - pp2 / 9 * 9)) σ70)
 else (KK74 0 σ70)))))
 (fun (KK68 : Int32 → xS → Option (Int32 × xS)) => if ¬ (pp2 - pp2 / 2 * 2) = 0 then (KK68 (100 + (pp2 - pp2 / 9 * 9)) σ64)
 else (KK68 0 σ64)))))))))))
 (fun (KK56 : Int32 → xS → Option (Int32 × xS)) => if ¬ (pp2 - pp2 / 2 * 2) = 0 then (KK56 (100 + (pp2 - pp2 / 9 * 9)) σ52)
 else (KK56 0 σ52))))))) else none)))))
 (fun (KK43 : Int32 → xS → Option (Int32 × xS)) => if ¬ (pp2 - pp2 / 2 * 2) = 0 then (KK43 (5 + (pp2 - pp2 / 9 * 9)) σ39)
 else (KK43 (-(pp2 - pp2 / 9 * 9)) σ39))))))))))))))) else none))))) else none)))))))
 (fun (KK13 : Int32 → xS → Option (Int32 × xS)) => if ¬ (pp2 - pp2 / 2 * 2) = 0 then (KK13 (256 + (pp2 - pp2 / 9 * 9)) σ8)
 else (KK13 (((-1)) - (pp2 - pp2 / 9 * 9)) σ8)))
 (fun (KK9 : Int32 → xS → Option (Int32 × xS)) => if ¬ (pp2 - pp2 / 2 * 2) = 0 then (KK9 (501 + (pp2 - pp2 / 99 * 99)) σ4)
 else (KK9 (-(pp2 - pp2 / 99 * 99)) σ4)))
 (fun (KK5 : Int32 → xS → Option (Int32 × xS)) => if ¬ (pp2 - pp2 / 2 * 2) = 0 then (KK5 (zz2 + (pp2 - pp2 / 99 * 99)) σ1)
 else (KK5 (((-1)) - (pp2 - pp2 / 99 * 99)) σ1)))
abbrev rm_L_refuses : Room := { frames := 11, cells := 111, slots := 666, locals := 220 }
set_option maxHeartbeats 4000000 in
set_option maxRecDepth 100000 in
theorem c_L_refuses (l : Launch) {D : va_G} {ad : Nat → Nat} {N : Nat} {Sh : xSh} (hI : ∀ i j, i < N → j < N → ad i = ad j → i = j) (hst : l.stackTraces = false) (oo1 : Nat) (hh1 : xIs5 D ad N Sh oo1) (pp2 : Int32) (σ : xS) : xKI l yL_refuses (Cond.code yL_refuses cL_refuses 5 (some .boolean) :: wG) rm_L_refuses 111 666 D ad N Sh [.ref (ad oo1), .int pp2] σ (F_L_refuses oo1 pp2 σ) := by
  refine x_startI (own := RL) (maxL := 5) (by decide) rfl rfl (Nat.le_of_ble_eq_true rfl) rfl hI (fun Γ hl hnL X => ?_)
  subst hl
  unfold F_L_refuses
  refine xr_aload_n (pc := 0) X (i := 0) 0 rfl rfl dL_refuses_0 ?_
  refine xr_iconst (pc := 1) X dL_refuses_1 (v := 2) (by decide) ?_
  refine xr_iconst (pc := 2) X dL_refuses_2 (v := 0) (by decide) ?_
  refine xr_iconst (pc := 3) X dL_refuses_3 (v := 0) (by decide) ?_
  refine xr_iconst (pc := 4) X dL_refuses_4 (v := 0) (by decide) ?_
  refine xr_callSI (na := 5) (pc := 5) X [.ref (ad oo1), .int 2, .int 0, .int 0, .int 0] (c_L_call Γ.2.1 hI hst oo1 hh1 2 0 0 0 σ) (wG_S wm_5_23 wm_5_21 wm_5_22 wm_5_14) rfl rfl rfl (by decide +kernel) ⟨Nat.le_of_ble_eq_true rfl, Nat.le_of_ble_eq_true rfl⟩ rfl rfl (Nat.le_of_ble_eq_true rfl) ⟨(show _ ≤ 111 by omega), (show _ ≤ 666 by omega)⟩ dL_refuses_5 (fun zz2 σ1 => ?_)
  refine xr_istore_n (pc := 8) X (hf := rfl) (i := 2) (lv2 := [(0, .ref (ad oo1)), (1, .int pp2), (2, .int zz2)]) [1, 2, 0] (Nat.le_of_ble_eq_true rfl) hnL rfl dL_refuses_8 ?_
  refine xr_iload_n (pc := 9) X (i := 1) 1 rfl rfl dL_refuses_9 ?_
  refine xr_iconst (pc := 10) X dL_refuses_10 (v := 2) (by decide) ?_
  refine xr_irem (pc := 11) X (by decide) dL_refuses_11 ?_
  refine x_jn (fun (KK5 : Int32 → xS → Option (Int32 × xS)) => ∀ zz3 σ4, xM Γ D ad N Sh (xQI Γ D ad N Sh 111 666) 3 18 (KK5 zz3 σ4) σ4 30 [(0, .ref (ad oo1)), (1, .int pp2), (2, .int zz2)] [.int zz3]) (fun zz3 σ4 => ?_) (fun KK5 hKK6 => ?_)
  · refine xr_istore_n (pc := 30) X (hf := rfl) (i := 3) (lv2 := [(0, .ref (ad oo1)), (1, .int pp2), (2, .int zz2), (3, .int zz3)]) [1, 2, 3, 0] (Nat.le_of_ble_eq_true rfl) hnL rfl dL_refuses_30 ?_
    refine xr_iload_n (pc := 31) X (i := 1) 1 rfl rfl dL_refuses_31 ?_
    refine xr_iconst (pc := 32) X dL_refuses_32 (v := 2) (by decide) ?_
    refine xr_irem (pc := 33) X (by decide) dL_refuses_33 ?_
    refine x_jn (fun (KK9 : Int32 → xS → Option (Int32 × xS)) => ∀ zz7 σ8, xM Γ D ad N Sh (xQI Γ D ad N Sh 111 666) 3 18 (KK9 zz7 σ8) σ8 53 [(0, .ref (ad oo1)), (1, .int pp2), (2, .int zz2), (3, .int zz3)] [.int zz7]) (fun zz7 σ8 => ?_) (fun KK9 hKK10 => ?_)
    · refine xr_istore (pc := 53) X (i := 4) (lv2 := [(0, .ref (ad oo1)), (1, .int pp2), (2, .int zz2), (3, .int zz3), (4, .int zz7)]) [1, 2, 3, 4, 0] (Nat.le_of_ble_eq_true rfl) hnL rfl dL_refuses_53 ?_
      refine xr_aload_n (pc := 55) X (i := 0) 0 rfl rfl dL_refuses_55 ?_
      refine xr_iconst (pc := 56) X dL_refuses_56 (v := 0) (by decide) ?_
      refine xr_iload_n (pc := 57) X (i := 1) 1 rfl rfl dL_refuses_57 ?_
      refine xr_iconst (pc := 58) X dL_refuses_58 (v := 2) (by decide) ?_
      refine xr_irem (pc := 59) X (by decide) dL_refuses_59 ?_
      refine x_jn (fun (KK13 : Int32 → xS → Option (Int32 × xS)) => ∀ zz11 σ12, xM Γ D ad N Sh (xQI Γ D ad N Sh 111 666) 3 18 (KK13 zz11 σ12) σ12 80 [(0, .ref (ad oo1)), (1, .int pp2), (2, .int zz2), (3, .int zz3), (4, .int zz7)] [.int zz11, .int 0, .ref (ad oo1)]) (fun zz11 σ12 => ?_) (fun KK13 hKK14 => ?_)
      · refine xr_iconst (pc := 80) X dL_refuses_80 (v := 0) (by decide) ?_
        refine xr_iconst (pc := 81) X dL_refuses_81 (v := 0) (by decide) ?_
        refine xr_callSI (na := 5) (pc := 82) X [.ref (ad oo1), .int 0, .int zz11, .int 0, .int 0] (c_L_call Γ.2.1 hI hst oo1 hh1 0 zz11 0 0 σ12) (wG_S wm_5_23 wm_5_21 wm_5_22 wm_5_14) rfl rfl rfl (by decide +kernel) ⟨Nat.le_of_ble_eq_true rfl, Nat.le_of_ble_eq_true rfl⟩ rfl rfl (Nat.le_of_ble_eq_true rfl) ⟨(show _ ≤ 111 by omega), (show _ ≤ 666 by omega)⟩ dL_refuses_82 (fun zz16 σ15 => ?_)
        refine xr_ldc (pc := 85) X dL_refuses_85 (List.mem_cons_of_mem _ wm_6_5) ?_
        refine xr_icmp_ne (pc := 87) X 786 (by decide) dL_refuses_87 (fun _ => ?_) (fun _ => ?_)
        · refine xr_iconst (pc := 786) X dL_refuses_786 (v := 0) (by decide) ?_
          exact xr_zret (pc := 787) X rfl (Nat.le_of_ble_eq_true rfl) (Nat.le_of_ble_eq_true rfl) dL_refuses_787
        refine xr_aload_n (pc := 90) X (i := 0) 0 rfl rfl dL_refuses_90 ?_
        refine xr_iconst (pc := 91) X dL_refuses_91 (v := 2) (by decide) ?_
        refine xr_bipush (pc := 92) X dL_refuses_92 (v := 9) (by decide) ?_
        refine xr_iload_n (pc := 94) X (i := 1) 1 rfl rfl dL_refuses_94 ?_
        refine xr_bipush (pc := 95) X dL_refuses_95 (v := 50) (by decide) ?_
        refine xr_irem (pc := 97) X (by decide) dL_refuses_97 ?_
        refine xr_iadd (pc := 98) X dL_refuses_98 ?_
        refine xr_iconst (pc := 99) X dL_refuses_99 (v := 0) (by decide) ?_
        refine xr_iconst (pc := 100) X dL_refuses_100 (v := 0) (by decide) ?_
        refine xr_callSI (na := 5) (pc := 101) X [.ref (ad oo1), .int 2, .int (9 + (pp2 - pp2 / 50 * 50)), .int 0, .int 0] (c_L_call Γ.2.1 hI hst oo1 hh1 2 (9 + (pp2 - pp2 / 50 * 50)) 0 0 σ15) (wG_S wm_5_23 wm_5_21 wm_5_22 wm_5_14) rfl rfl rfl (by decide +kernel) ⟨Nat.le_of_ble_eq_true rfl, Nat.le_of_ble_eq_true rfl⟩ rfl rfl (Nat.le_of_ble_eq_true rfl) ⟨(show _ ≤ 111 by omega), (show _ ≤ 666 by omega)⟩ dL_refuses_101 (fun zz18 σ17 => ?_)
        refine xr_ldc (pc := 104) X dL_refuses_104 (List.mem_cons_of_mem _ wm_6_5) ?_
        refine xr_icmp_ne (pc := 106) X 786 (by decide) dL_refuses_106 (fun _ => ?_) (fun _ => ?_)
        · refine xr_iconst (pc := 786) X dL_refuses_786 (v := 0) (by decide) ?_
          exact xr_zret (pc := 787) X rfl (Nat.le_of_ble_eq_true rfl) (Nat.le_of_ble_eq_true rfl) dL_refuses_787
        refine xr_aload_n (pc := 109) X (i := 0) 0 rfl rfl dL_refuses_109 ?_
        refine xr_iconst (pc := 110) X dL_refuses_110 (v := 3) (by decide) ?_
        refine xr_iload_n (pc := 111) X (i := 3) 3 rfl rfl dL_refuses_111 ?_
        refine xr_bipush (pc := 112) X dL_refuses_112 (v := 9) (by decide) ?_
        refine xr_iconst (pc := 114) X dL_refuses_114 (v := 0) (by decide) ?_
        refine xr_callSI (na := 5) (pc := 115) X [.ref (ad oo1), .int 3, .int zz3, .int 9, .int 0] (c_L_call Γ.2.1 hI hst oo1 hh1 3 zz3 9 0 σ17) (wG_S wm_5_23 wm_5_21 wm_5_22 wm_5_14) rfl rfl rfl (by decide +kernel) ⟨Nat.le_of_ble_eq_true rfl, Nat.le_of_ble_eq_true rfl⟩ rfl rfl (Nat.le_of_ble_eq_true rfl) ⟨(show _ ≤ 111 by omega), (show _ ≤ 666 by omega)⟩ dL_refuses_115 (fun zz20 σ19 => ?_)
        refine xr_ldc (pc := 118) X dL_refuses_118 (List.mem_cons_of_mem _ wm_14_7) ?_
        refine xr_icmp_ne (pc := 120) X 786 (by decide) dL_refuses_120 (fun _ => ?_) (fun _ => ?_)
        · refine xr_iconst (pc := 786) X dL_refuses_786 (v := 0) (by decide) ?_
          exact xr_zret (pc := 787) X rfl (Nat.le_of_ble_eq_true rfl) (Nat.le_of_ble_eq_true rfl) dL_refuses_787
        refine xr_aload_n (pc := 123) X (i := 0) 0 rfl rfl dL_refuses_123 ?_
        refine xr_iconst (pc := 124) X dL_refuses_124 (v := 3) (by decide) ?_
        refine xr_iload_n (pc := 125) X (i := 1) 1 rfl rfl dL_refuses_125 ?_
        refine xr_iload_n (pc := 126) X (i := 2) 2 rfl rfl dL_refuses_126 ?_
        refine x_gd (fun hzz21 => ?_)
        refine xr_irem (pc := 127) X hzz21 dL_refuses_127 ?_
        refine xr_bipush (pc := 128) X dL_refuses_128 (v := 7) (by decide) ?_
        refine xr_iload_n (pc := 130) X (i := 1) 1 rfl rfl dL_refuses_130 ?_
        refine xr_bipush (pc := 131) X dL_refuses_131 (v := 9) (by decide) ?_
        refine xr_irem (pc := 133) X (by decide) dL_refuses_133 ?_
        refine xr_iadd (pc := 134) X dL_refuses_134 ?_
        refine xr_iconst (pc := 135) X dL_refuses_135 (v := 0) (by decide) ?_
        refine xr_callSI (na := 5) (pc := 136) X [.ref (ad oo1), .int 3, .int (pp2 - pp2 / zz2 * zz2), .int (7 + (pp2 - pp2 / 9 * 9)), .int 0] (c_L_call Γ.2.1 hI hst oo1 hh1 3 (pp2 - pp2 / zz2 * zz2) (7 + (pp2 - pp2 / 9 * 9)) 0 σ19) (wG_S wm_5_23 wm_5_21 wm_5_22 wm_5_14) rfl rfl rfl (by decide +kernel) ⟨Nat.le_of_ble_eq_true rfl, Nat.le_of_ble_eq_true rfl⟩ rfl rfl (Nat.le_of_ble_eq_true rfl) ⟨(show _ ≤ 111 by omega), (show _ ≤ 666 by omega)⟩ dL_refuses_136 (fun zz23 σ22 => ?_)
        refine xr_ldc (pc := 139) X dL_refuses_139 (List.mem_cons_of_mem _ wm_6_5) ?_
        refine xr_icmp_ne (pc := 141) X 786 (by decide) dL_refuses_141 (fun _ => ?_) (fun _ => ?_)
        · refine xr_iconst (pc := 786) X dL_refuses_786 (v := 0) (by decide) ?_
          exact xr_zret (pc := 787) X rfl (Nat.le_of_ble_eq_true rfl) (Nat.le_of_ble_eq_true rfl) dL_refuses_787
        refine xr_aload_n (pc := 144) X (i := 0) 0 rfl rfl dL_refuses_144 ?_
        refine xr_iconst (pc := 145) X dL_refuses_145 (v := 4) (by decide) ?_
        refine xr_iload_n (pc := 146) X (i := 3) 3 rfl rfl dL_refuses_146 ?_
        refine xr_bipush (pc := 147) X dL_refuses_147 (v := 9) (by decide) ?_
        refine xr_iconst (pc := 149) X dL_refuses_149 (v := 0) (by decide) ?_
        refine xr_callSI (na := 5) (pc := 150) X [.ref (ad oo1), .int 4, .int zz3, .int 9, .int 0] (c_L_call Γ.2.1 hI hst oo1 hh1 4 zz3 9 0 σ22) (wG_S wm_5_23 wm_5_21 wm_5_22 wm_5_14) rfl rfl rfl (by decide +kernel) ⟨Nat.le_of_ble_eq_true rfl, Nat.le_of_ble_eq_true rfl⟩ rfl rfl (Nat.le_of_ble_eq_true rfl) ⟨(show _ ≤ 111 by omega), (show _ ≤ 666 by omega)⟩ dL_refuses_150 (fun zz25 σ24 => ?_)
        refine xr_ldc (pc := 153) X dL_refuses_153 (List.mem_cons_of_mem _ wm_14_7) ?_
        refine xr_icmp_ne (pc := 155) X 786 (by decide) dL_refuses_155 (fun _ => ?_) (fun _ => ?_)
        · refine xr_iconst (pc := 786) X dL_refuses_786 (v := 0) (by decide) ?_
          exact xr_zret (pc := 787) X rfl (Nat.le_of_ble_eq_true rfl) (Nat.le_of_ble_eq_true rfl) dL_refuses_787
        refine xr_aload_n (pc := 158) X (i := 0) 0 rfl rfl dL_refuses_158 ?_
        refine xr_iconst (pc := 159) X dL_refuses_159 (v := 4) (by decide) ?_
        refine xr_iload_n (pc := 160) X (i := 1) 1 rfl rfl dL_refuses_160 ?_
        refine xr_iload_n (pc := 161) X (i := 2) 2 rfl rfl dL_refuses_161 ?_
        refine x_gd (fun hzz26 => ?_)
        refine xr_irem (pc := 162) X hzz26 dL_refuses_162 ?_
        refine xr_bipush (pc := 163) X dL_refuses_163 (v := 6) (by decide) ?_
        refine xr_iload_n (pc := 165) X (i := 1) 1 rfl rfl dL_refuses_165 ?_
        refine xr_bipush (pc := 166) X dL_refuses_166 (v := 9) (by decide) ?_
        refine xr_irem (pc := 168) X (by decide) dL_refuses_168 ?_
        refine xr_iadd (pc := 169) X dL_refuses_169 ?_
        refine xr_iconst (pc := 170) X dL_refuses_170 (v := 0) (by decide) ?_
        refine xr_callSI (na := 5) (pc := 171) X [.ref (ad oo1), .int 4, .int (pp2 - pp2 / zz2 * zz2), .int (6 + (pp2 - pp2 / 9 * 9)), .int 0] (c_L_call Γ.2.1 hI hst oo1 hh1 4 (pp2 - pp2 / zz2 * zz2) (6 + (pp2 - pp2 / 9 * 9)) 0 σ24) (wG_S wm_5_23 wm_5_21 wm_5_22 wm_5_14) rfl rfl rfl (by decide +kernel) ⟨Nat.le_of_ble_eq_true rfl, Nat.le_of_ble_eq_true rfl⟩ rfl rfl (Nat.le_of_ble_eq_true rfl) ⟨(show _ ≤ 111 by omega), (show _ ≤ 666 by omega)⟩ dL_refuses_171 (fun zz28 σ27 => ?_)
        refine xr_ldc (pc := 174) X dL_refuses_174 (List.mem_cons_of_mem _ wm_6_5) ?_
        refine xr_icmp_ne (pc := 176) X 786 (by decide) dL_refuses_176 (fun _ => ?_) (fun _ => ?_)
        · refine xr_iconst (pc := 786) X dL_refuses_786 (v := 0) (by decide) ?_
          exact xr_zret (pc := 787) X rfl (Nat.le_of_ble_eq_true rfl) (Nat.le_of_ble_eq_true rfl) dL_refuses_787
        refine xr_aload_n (pc := 179) X (i := 0) 0 rfl rfl dL_refuses_179 ?_
        refine xr_iconst (pc := 180) X dL_refuses_180 (v := 5) (by decide) ?_
        refine xr_iload_n (pc := 181) X (i := 3) 3 rfl rfl dL_refuses_181 ?_
        refine xr_iconst (pc := 182) X dL_refuses_182 (v := 0) (by decide) ?_
        refine xr_bipush (pc := 183) X dL_refuses_183 (v := 9) (by decide) ?_
        refine xr_callSI (na := 5) (pc := 185) X [.ref (ad oo1), .int 5, .int zz3, .int 0, .int 9] (c_L_call Γ.2.1 hI hst oo1 hh1 5 zz3 0 9 σ27) (wG_S wm_5_23 wm_5_21 wm_5_22 wm_5_14) rfl rfl rfl (by decide +kernel) ⟨Nat.le_of_ble_eq_true rfl, Nat.le_of_ble_eq_true rfl⟩ rfl rfl (Nat.le_of_ble_eq_true rfl) ⟨(show _ ≤ 111 by omega), (show _ ≤ 666 by omega)⟩ dL_refuses_185 (fun zz30 σ29 => ?_)
        refine xr_ldc (pc := 188) X dL_refuses_188 (List.mem_cons_of_mem _ wm_14_7) ?_
        refine xr_icmp_ne (pc := 190) X 786 (by decide) dL_refuses_190 (fun _ => ?_) (fun _ => ?_)
        · refine xr_iconst (pc := 786) X dL_refuses_786 (v := 0) (by decide) ?_
          exact xr_zret (pc := 787) X rfl (Nat.le_of_ble_eq_true rfl) (Nat.le_of_ble_eq_true rfl) dL_refuses_787
        refine xr_aload_n (pc := 193) X (i := 0) 0 rfl rfl dL_refuses_193 ?_
        refine xr_iconst (pc := 194) X dL_refuses_194 (v := 5) (by decide) ?_
        refine xr_iconst (pc := 195) X dL_refuses_195 (v := 0) (by decide) ?_
        refine xr_aload_n (pc := 196) X (i := 0) 0 rfl rfl dL_refuses_196 ?_
        refine xr_iconst (pc := 197) X dL_refuses_197 (v := 3) (by decide) ?_
        refine xr_iconst (pc := 198) X dL_refuses_198 (v := 0) (by decide) ?_
        refine xr_iconst (pc := 199) X dL_refuses_199 (v := 1) (by decide) ?_
        refine xr_iconst (pc := 200) X dL_refuses_200 (v := 0) (by decide) ?_
        refine xr_callSI (na := 5) (pc := 201) X [.ref (ad oo1), .int 3, .int 0, .int 1, .int 0] (c_L_call Γ.2.1 hI hst oo1 hh1 3 0 1 0 σ29) (wG_S wm_5_23 wm_5_21 wm_5_22 wm_5_14) rfl rfl rfl (by decide +kernel) ⟨Nat.le_of_ble_eq_true rfl, Nat.le_of_ble_eq_true rfl⟩ rfl rfl (Nat.le_of_ble_eq_true rfl) ⟨(show _ ≤ 111 by omega), (show _ ≤ 666 by omega)⟩ dL_refuses_201 (fun zz32 σ31 => ?_)
        refine xr_iload_n (pc := 204) X (i := 1) 1 rfl rfl dL_refuses_204 ?_
        refine xr_bipush (pc := 205) X dL_refuses_205 (v := 9) (by decide) ?_
        refine xr_irem (pc := 207) X (by decide) dL_refuses_207 ?_
        refine xr_iadd (pc := 208) X dL_refuses_208 ?_
        refine xr_bipush (pc := 209) X dL_refuses_209 (v := 9) (by decide) ?_
        refine xr_callSI (na := 5) (pc := 211) X [.ref (ad oo1), .int 5, .int 0, .int (zz32 + (pp2 - pp2 / 9 * 9)), .int 9] (c_L_call Γ.2.1 hI hst oo1 hh1 5 0 (zz32 + (pp2 - pp2 / 9 * 9)) 9 σ31) (wG_S wm_5_23 wm_5_21 wm_5_22 wm_5_14) rfl rfl rfl (by decide +kernel) ⟨Nat.le_of_ble_eq_true rfl, Nat.le_of_ble_eq_true rfl⟩ rfl rfl (Nat.le_of_ble_eq_true rfl) ⟨(show _ ≤ 111 by omega), (show _ ≤ 666 by omega)⟩ dL_refuses_211 (fun zz34 σ33 => ?_)
        refine xr_ldc (pc := 214) X dL_refuses_214 (List.mem_cons_of_mem _ wm_14_7) ?_
        refine xr_icmp_ne (pc := 216) X 786 (by decide) dL_refuses_216 (fun _ => ?_) (fun _ => ?_)
        · refine xr_iconst (pc := 786) X dL_refuses_786 (v := 0) (by decide) ?_
          exact xr_zret (pc := 787) X rfl (Nat.le_of_ble_eq_true rfl) (Nat.le_of_ble_eq_true rfl) dL_refuses_787
        refine xr_aload_n (pc := 219) X (i := 0) 0 rfl rfl dL_refuses_219 ?_
        refine xr_bipush (pc := 220) X dL_refuses_220 (v := 6) (by decide) ?_
        refine xr_aload_n (pc := 222) X (i := 0) 0 rfl rfl dL_refuses_222 ?_
        refine xr_iconst (pc := 223) X dL_refuses_223 (v := 2) (by decide) ?_
        refine xr_iconst (pc := 224) X dL_refuses_224 (v := 2) (by decide) ?_
        refine xr_iconst (pc := 225) X dL_refuses_225 (v := 0) (by decide) ?_
        refine xr_iconst (pc := 226) X dL_refuses_226 (v := 0) (by decide) ?_
        refine xr_callSI (na := 5) (pc := 227) X [.ref (ad oo1), .int 2, .int 2, .int 0, .int 0] (c_L_call Γ.2.1 hI hst oo1 hh1 2 2 0 0 σ33) (wG_S wm_5_23 wm_5_21 wm_5_22 wm_5_14) rfl rfl rfl (by decide +kernel) ⟨Nat.le_of_ble_eq_true rfl, Nat.le_of_ble_eq_true rfl⟩ rfl rfl (Nat.le_of_ble_eq_true rfl) ⟨(show _ ≤ 111 by omega), (show _ ≤ 666 by omega)⟩ dL_refuses_227 (fun zz36 σ35 => ?_)
        refine xr_iload_n (pc := 230) X (i := 1) 1 rfl rfl dL_refuses_230 ?_
        refine xr_bipush (pc := 231) X dL_refuses_231 (v := 9) (by decide) ?_
        refine xr_irem (pc := 233) X (by decide) dL_refuses_233 ?_
        refine xr_iadd (pc := 234) X dL_refuses_234 ?_
        refine xr_bipush (pc := 235) X dL_refuses_235 (v := 9) (by decide) ?_
        refine xr_iconst (pc := 237) X dL_refuses_237 (v := 0) (by decide) ?_
        refine xr_callSI (na := 5) (pc := 238) X [.ref (ad oo1), .int 6, .int (zz36 + (pp2 - pp2 / 9 * 9)), .int 9, .int 0] (c_L_call Γ.2.1 hI hst oo1 hh1 6 (zz36 + (pp2 - pp2 / 9 * 9)) 9 0 σ35) (wG_S wm_5_23 wm_5_21 wm_5_22 wm_5_14) rfl rfl rfl (by decide +kernel) ⟨Nat.le_of_ble_eq_true rfl, Nat.le_of_ble_eq_true rfl⟩ rfl rfl (Nat.le_of_ble_eq_true rfl) ⟨(show _ ≤ 111 by omega), (show _ ≤ 666 by omega)⟩ dL_refuses_238 (fun zz38 σ37 => ?_)
        refine xr_ldc (pc := 241) X dL_refuses_241 (List.mem_cons_of_mem _ wm_14_7) ?_
        refine xr_icmp_ne (pc := 243) X 786 (by decide) dL_refuses_243 (fun _ => ?_) (fun _ => ?_)
        · refine xr_iconst (pc := 786) X dL_refuses_786 (v := 0) (by decide) ?_
          exact xr_zret (pc := 787) X rfl (Nat.le_of_ble_eq_true rfl) (Nat.le_of_ble_eq_true rfl) dL_refuses_787
        refine xr_aload_n (pc := 246) X (i := 0) 0 rfl rfl dL_refuses_246 ?_
        refine xr_bipush (pc := 247) X dL_refuses_247 (v := 7) (by decide) ?_
        refine xr_iconst (pc := 249) X dL_refuses_249 (v := 4) (by decide) ?_
        refine xr_iload_n (pc := 250) X (i := 1) 1 rfl rfl dL_refuses_250 ?_
        refine xr_bipush (pc := 251) X dL_refuses_251 (v := 9) (by decide) ?_
        refine xr_irem (pc := 253) X (by decide) dL_refuses_253 ?_
        refine xr_iadd (pc := 254) X dL_refuses_254 ?_
        refine xr_iconst (pc := 255) X dL_refuses_255 (v := 0) (by decide) ?_
        refine xr_iconst (pc := 256) X dL_refuses_256 (v := 0) (by decide) ?_
        refine xr_callSI (na := 5) (pc := 257) X [.ref (ad oo1), .int 7, .int (4 + (pp2 - pp2 / 9 * 9)), .int 0, .int 0] (c_L_call Γ.2.1 hI hst oo1 hh1 7 (4 + (pp2 - pp2 / 9 * 9)) 0 0 σ37) (wG_S wm_5_23 wm_5_21 wm_5_22 wm_5_14) rfl rfl rfl (by decide +kernel) ⟨Nat.le_of_ble_eq_true rfl, Nat.le_of_ble_eq_true rfl⟩ rfl rfl (Nat.le_of_ble_eq_true rfl) ⟨(show _ ≤ 111 by omega), (show _ ≤ 666 by omega)⟩ dL_refuses_257 (fun zz40 σ39 => ?_)
        refine xr_ldc (pc := 260) X dL_refuses_260 (List.mem_cons_of_mem _ wm_6_5) ?_
        refine xr_icmp_ne (pc := 262) X 786 (by decide) dL_refuses_262 (fun _ => ?_) (fun _ => ?_)
        · refine xr_iconst (pc := 786) X dL_refuses_786 (v := 0) (by decide) ?_
          exact xr_zret (pc := 787) X rfl (Nat.le_of_ble_eq_true rfl) (Nat.le_of_ble_eq_true rfl) dL_refuses_787
        refine xr_aload_n (pc := 265) X (i := 0) 0 rfl rfl dL_refuses_265 ?_
        refine xr_bipush (pc := 266) X dL_refuses_266 (v := 8) (by decide) ?_
        refine xr_iload_n (pc := 268) X (i := 1) 1 rfl rfl dL_refuses_268 ?_
        refine xr_iconst (pc := 269) X dL_refuses_269 (v := 2) (by decide) ?_
        refine xr_irem (pc := 270) X (by decide) dL_refuses_270 ?_
        refine x_jn (fun (KK43 : Int32 → xS → Option (Int32 × xS)) => ∀ zz41 σ42, xM Γ D ad N Sh (xQI Γ D ad N Sh 111 666) 39 234 (KK43 zz41 σ42) σ42 288 [(0, .ref (ad oo1)), (1, .int pp2), (2, .int zz2), (3, .int zz3), (4, .int zz7)] [.int zz41, .int 8, .ref (ad oo1)]) (fun zz41 σ42 => ?_) (fun KK43 hKK44 => ?_)
        · refine xr_iconst (pc := 288) X dL_refuses_288 (v := 0) (by decide) ?_
          refine xr_iconst (pc := 289) X dL_refuses_289 (v := 0) (by decide) ?_
          refine xr_callSI (na := 5) (pc := 290) X [.ref (ad oo1), .int 8, .int zz41, .int 0, .int 0] (c_L_call Γ.2.1 hI hst oo1 hh1 8 zz41 0 0 σ42) (wG_S wm_5_23 wm_5_21 wm_5_22 wm_5_14) rfl rfl rfl (by decide +kernel) ⟨Nat.le_of_ble_eq_true rfl, Nat.le_of_ble_eq_true rfl⟩ rfl rfl (Nat.le_of_ble_eq_true rfl) ⟨(show _ ≤ 111 by omega), (show _ ≤ 666 by omega)⟩ dL_refuses_290 (fun zz46 σ45 => ?_)
          refine xr_ldc (pc := 293) X dL_refuses_293 (List.mem_cons_of_mem _ wm_6_5) ?_
          refine xr_icmp_ne (pc := 295) X 786 (by decide) dL_refuses_295 (fun _ => ?_) (fun _ => ?_)
          · refine xr_iconst (pc := 786) X dL_refuses_786 (v := 0) (by decide) ?_
            exact xr_zret (pc := 787) X rfl (Nat.le_of_ble_eq_true rfl) (Nat.le_of_ble_eq_true rfl) dL_refuses_787
          refine xr_aload_n (pc := 298) X (i := 0) 0 rfl rfl dL_refuses_298 ?_
          refine xr_bipush (pc := 299) X dL_refuses_299 (v := 9) (by decide) ?_
          refine xr_iload_n (pc := 301) X (i := 3) 3 rfl rfl dL_refuses_301 ?_
          refine xr_iload (pc := 302) X (i := 4) 4 rfl dL_refuses_302 ?_
          refine xr_iconst (pc := 304) X dL_refuses_304 (v := 0) (by decide) ?_
          refine xr_callSI (na := 5) (pc := 305) X [.ref (ad oo1), .int 9, .int zz3, .int zz7, .int 0] (c_L_call Γ.2.1 hI hst oo1 hh1 9 zz3 zz7 0 σ45) (wG_S wm_5_23 wm_5_21 wm_5_22 wm_5_14) rfl rfl rfl (by decide +kernel) ⟨Nat.le_of_ble_eq_true rfl, Nat.le_of_ble_eq_true rfl⟩ rfl rfl (Nat.le_of_ble_eq_true rfl) ⟨(show _ ≤ 111 by omega), (show _ ≤ 666 by omega)⟩ dL_refuses_305 (fun zz48 σ47 => ?_)
          refine xr_ldc (pc := 308) X dL_refuses_308 (List.mem_cons_of_mem _ wm_14_7) ?_
          refine xr_icmp_ne (pc := 310) X 786 (by decide) dL_refuses_310 (fun _ => ?_) (fun _ => ?_)
          · refine xr_iconst (pc := 786) X dL_refuses_786 (v := 0) (by decide) ?_
            exact xr_zret (pc := 787) X rfl (Nat.le_of_ble_eq_true rfl) (Nat.le_of_ble_eq_true rfl) dL_refuses_787
          refine xr_aload_n (pc := 313) X (i := 0) 0 rfl rfl dL_refuses_313 ?_
          refine xr_bipush (pc := 314) X dL_refuses_314 (v := 9) (by decide) ?_
          refine xr_iload_n (pc := 316) X (i := 1) 1 rfl rfl dL_refuses_316 ?_
          refine xr_iload_n (pc := 317) X (i := 2) 2 rfl rfl dL_refuses_317 ?_
          refine x_gd (fun hzz49 => ?_)
          refine xr_irem (pc := 318) X hzz49 dL_refuses_318 ?_
          refine xr_iload (pc := 319) X (i := 4) 4 rfl dL_refuses_319 ?_
          refine xr_iconst (pc := 321) X dL_refuses_321 (v := 0) (by decide) ?_
          refine xr_callSI (na := 5) (pc := 322) X [.ref (ad oo1), .int 9, .int (pp2 - pp2 / zz2 * zz2), .int zz7, .int 0] (c_L_call Γ.2.1 hI hst oo1 hh1 9 (pp2 - pp2 / zz2 * zz2) zz7 0 σ47) (wG_S wm_5_23 wm_5_21 wm_5_22 wm_5_14) rfl rfl rfl (by decide +kernel) ⟨Nat.le_of_ble_eq_true rfl, Nat.le_of_ble_eq_true rfl⟩ rfl rfl (Nat.le_of_ble_eq_true rfl) ⟨(show _ ≤ 111 by omega), (show _ ≤ 666 by omega)⟩ dL_refuses_322 (fun zz51 σ50 => ?_)
          refine xr_ldc (pc := 325) X dL_refuses_325 (List.mem_cons_of_mem _ wm_6_5) ?_
          refine xr_icmp_ne (pc := 327) X 786 (by decide) dL_refuses_327 (fun _ => ?_) (fun _ => ?_)
          · refine xr_iconst (pc := 786) X dL_refuses_786 (v := 0) (by decide) ?_
            exact xr_zret (pc := 787) X rfl (Nat.le_of_ble_eq_true rfl) (Nat.le_of_ble_eq_true rfl) dL_refuses_787
          refine xr_aload_n (pc := 330) X (i := 0) 0 rfl rfl dL_refuses_330 ?_
          refine xr_bipush (pc := 331) X dL_refuses_331 (v := 10) (by decide) ?_
          refine xr_iconst (pc := 333) X dL_refuses_333 (v := 0) (by decide) ?_
          refine xr_iload_n (pc := 334) X (i := 3) 3 rfl rfl dL_refuses_334 ?_
          refine xr_iconst (pc := 335) X dL_refuses_335 (v := 5) (by decide) ?_
          refine xr_callSI (na := 5) (pc := 336) X [.ref (ad oo1), .int 10, .int 0, .int zz3, .int 5] (c_L_call Γ.2.1 hI hst oo1 hh1 10 0 zz3 5 σ50) (wG_S wm_5_23 wm_5_21 wm_5_22 wm_5_14) rfl rfl rfl (by decide +kernel) ⟨Nat.le_of_ble_eq_true rfl, Nat.le_of_ble_eq_true rfl⟩ rfl rfl (Nat.le_of_ble_eq_true rfl) ⟨(show _ ≤ 111 by omega), (show _ ≤ 666 by omega)⟩ dL_refuses_336 (fun zz53 σ52 => ?_)
          refine xr_ldc (pc := 339) X dL_refuses_339 (List.mem_cons_of_mem _ wm_14_7) ?_
          refine xr_icmp_ne (pc := 341) X 786 (by decide) dL_refuses_341 (fun _ => ?_) (fun _ => ?_)
          · refine xr_iconst (pc := 786) X dL_refuses_786 (v := 0) (by decide) ?_
            exact xr_zret (pc := 787) X rfl (Nat.le_of_ble_eq_true rfl) (Nat.le_of_ble_eq_true rfl) dL_refuses_787
          refine xr_aload_n (pc := 344) X (i := 0) 0 rfl rfl dL_refuses_344 ?_
          refine xr_bipush (pc := 345) X dL_refuses_345 (v := 10) (by decide) ?_
          refine xr_iload_n (pc := 347) X (i := 1) 1 rfl rfl dL_refuses_347 ?_
          refine xr_iconst (pc := 348) X dL_refuses_348 (v := 2) (by decide) ?_
          refine xr_irem (pc := 349) X (by decide) dL_refuses_349 ?_
          refine x_jn (fun (KK56 : Int32 → xS → Option (Int32 × xS)) => ∀ zz54 σ55, xM Γ D ad N Sh (xQI Γ D ad N Sh 111 666) 51 306 (KK56 zz54 σ55) σ55 364 [(0, .ref (ad oo1)), (1, .int pp2), (2, .int zz2), (3, .int zz3), (4, .int zz7)] [.int zz54, .int 10, .ref (ad oo1)]) (fun zz54 σ55 => ?_) (fun KK56 hKK57 => ?_)
          · refine xr_iconst (pc := 364) X dL_refuses_364 (v := 0) (by decide) ?_
            refine xr_iconst (pc := 365) X dL_refuses_365 (v := 5) (by decide) ?_
            refine xr_callSI (na := 5) (pc := 366) X [.ref (ad oo1), .int 10, .int zz54, .int 0, .int 5] (c_L_call Γ.2.1 hI hst oo1 hh1 10 zz54 0 5 σ55) (wG_S wm_5_23 wm_5_21 wm_5_22 wm_5_14) rfl rfl rfl (by decide +kernel) ⟨Nat.le_of_ble_eq_true rfl, Nat.le_of_ble_eq_true rfl⟩ rfl rfl (Nat.le_of_ble_eq_true rfl) ⟨(show _ ≤ 111 by omega), (show _ ≤ 666 by omega)⟩ dL_refuses_366 (fun zz59 σ58 => ?_)
            refine xr_ldc (pc := 369) X dL_refuses_369 (List.mem_cons_of_mem _ wm_6_5) ?_
            refine xr_icmp_ne (pc := 371) X 786 (by decide) dL_refuses_371 (fun _ => ?_) (fun _ => ?_)
            · refine xr_iconst (pc := 786) X dL_refuses_786 (v := 0) (by decide) ?_
              exact xr_zret (pc := 787) X rfl (Nat.le_of_ble_eq_true rfl) (Nat.le_of_ble_eq_true rfl) dL_refuses_787
            refine xr_aload_n (pc := 374) X (i := 0) 0 rfl rfl dL_refuses_374 ?_
            refine xr_bipush (pc := 375) X dL_refuses_375 (v := 10) (by decide) ?_
            refine xr_iconst (pc := 377) X dL_refuses_377 (v := 5) (by decide) ?_
            refine xr_iconst (pc := 378) X dL_refuses_378 (v := 0) (by decide) ?_
            refine xr_iload (pc := 379) X (i := 4) 4 rfl dL_refuses_379 ?_
            refine xr_callSI (na := 5) (pc := 381) X [.ref (ad oo1), .int 10, .int 5, .int 0, .int zz7] (c_L_call Γ.2.1 hI hst oo1 hh1 10 5 0 zz7 σ58) (wG_S wm_5_23 wm_5_21 wm_5_22 wm_5_14) rfl rfl rfl (by decide +kernel) ⟨Nat.le_of_ble_eq_true rfl, Nat.le_of_ble_eq_true rfl⟩ rfl rfl (Nat.le_of_ble_eq_true rfl) ⟨(show _ ≤ 111 by omega), (show _ ≤ 666 by omega)⟩ dL_refuses_381 (fun zz61 σ60 => ?_)
            refine xr_ldc (pc := 384) X dL_refuses_384 (List.mem_cons_of_mem _ wm_6_5) ?_
            refine xr_icmp_ne (pc := 386) X 786 (by decide) dL_refuses_386 (fun _ => ?_) (fun _ => ?_)
            · refine xr_iconst (pc := 786) X dL_refuses_786 (v := 0) (by decide) ?_
              exact xr_zret (pc := 787) X rfl (Nat.le_of_ble_eq_true rfl) (Nat.le_of_ble_eq_true rfl) dL_refuses_787
            refine xr_aload_n (pc := 389) X (i := 0) 0 rfl rfl dL_refuses_389 ?_
            refine xr_iload_n (pc := 390) X (i := 3) 3 rfl rfl dL_refuses_390 ?_
            refine xr_iconst (pc := 391) X dL_refuses_391 (v := 1) (by decide) ?_
            refine xr_callSWI (na := 3) (pc := 392) X [.ref (ad oo1), .int zz3, .int 1] (c_L_holds Γ.2.1 hI hst oo1 hh1 zz3 1 σ60) (wG_SW wm_21_22 wm_21_20 wm_21_21 wm_5_14) rfl rfl rfl (by decide +kernel) ⟨Nat.le_of_ble_eq_true rfl, Nat.le_of_ble_eq_true rfl⟩ rfl rfl (Nat.le_of_ble_eq_true rfl) ⟨(show _ ≤ 111 by omega), (show _ ≤ 666 by omega)⟩ dL_refuses_392 (fun zz63 σ62 => ?_)
            refine xr_ldc (pc := 395) X dL_refuses_395 (List.mem_cons_of_mem _ wm_14_7) ?_
            refine xr_icmp_ne (pc := 397) X 786 (by decide) dL_refuses_397 (fun _ => ?_) (fun _ => ?_)
            · refine xr_iconst (pc := 786) X dL_refuses_786 (v := 0) (by decide) ?_
              exact xr_zret (pc := 787) X rfl (Nat.le_of_ble_eq_true rfl) (Nat.le_of_ble_eq_true rfl) dL_refuses_787
            refine xr_aload_n (pc := 400) X (i := 0) 0 rfl rfl dL_refuses_400 ?_
            refine xr_bipush (pc := 401) X dL_refuses_401 (v := 11) (by decide) ?_
            refine xr_iload_n (pc := 403) X (i := 3) 3 rfl rfl dL_refuses_403 ?_
            refine xr_iconst (pc := 404) X dL_refuses_404 (v := 0) (by decide) ?_
            refine xr_iconst (pc := 405) X dL_refuses_405 (v := 0) (by decide) ?_
            refine xr_callSI (na := 5) (pc := 406) X [.ref (ad oo1), .int 11, .int zz3, .int 0, .int 0] (c_L_call Γ.2.1 hI hst oo1 hh1 11 zz3 0 0 σ62) (wG_S wm_5_23 wm_5_21 wm_5_22 wm_5_14) rfl rfl rfl (by decide +kernel) ⟨Nat.le_of_ble_eq_true rfl, Nat.le_of_ble_eq_true rfl⟩ rfl rfl (Nat.le_of_ble_eq_true rfl) ⟨(show _ ≤ 111 by omega), (show _ ≤ 666 by omega)⟩ dL_refuses_406 (fun zz65 σ64 => ?_)
            refine xr_ldc (pc := 409) X dL_refuses_409 (List.mem_cons_of_mem _ wm_14_7) ?_
            refine xr_icmp_ne (pc := 411) X 786 (by decide) dL_refuses_411 (fun _ => ?_) (fun _ => ?_)
            · refine xr_iconst (pc := 786) X dL_refuses_786 (v := 0) (by decide) ?_
              exact xr_zret (pc := 787) X rfl (Nat.le_of_ble_eq_true rfl) (Nat.le_of_ble_eq_true rfl) dL_refuses_787
            refine xr_aload_n (pc := 414) X (i := 0) 0 rfl rfl dL_refuses_414 ?_
            refine xr_bipush (pc := 415) X dL_refuses_415 (v := 12) (by decide) ?_
            refine xr_iload_n (pc := 417) X (i := 1) 1 rfl rfl dL_refuses_417 ?_
            refine xr_iconst (pc := 418) X dL_refuses_418 (v := 2) (by decide) ?_
            refine xr_irem (pc := 419) X (by decide) dL_refuses_419 ?_
            refine x_jn (fun (KK68 : Int32 → xS → Option (Int32 × xS)) => ∀ zz66 σ67, xM Γ D ad N Sh (xQI Γ D ad N Sh 111 666) 61 366 (KK68 zz66 σ67) σ67 434 [(0, .ref (ad oo1)), (1, .int pp2), (2, .int zz2), (3, .int zz3), (4, .int zz7)] [.int zz66, .int 12, .ref (ad oo1)]) (fun zz66 σ67 => ?_) (fun KK68 hKK69 => ?_)
            · refine xr_iconst (pc := 434) X dL_refuses_434 (v := 0) (by decide) ?_
              refine xr_iconst (pc := 435) X dL_refuses_435 (v := 0) (by decide) ?_
              refine xr_callSI (na := 5) (pc := 436) X [.ref (ad oo1), .int 12, .int zz66, .int 0, .int 0] (c_L_call Γ.2.1 hI hst oo1 hh1 12 zz66 0 0 σ67) (wG_S wm_5_23 wm_5_21 wm_5_22 wm_5_14) rfl rfl rfl (by decide +kernel) ⟨Nat.le_of_ble_eq_true rfl, Nat.le_of_ble_eq_true rfl⟩ rfl rfl (Nat.le_of_ble_eq_true rfl) ⟨(show _ ≤ 111 by omega), (show _ ≤ 666 by omega)⟩ dL_refuses_436 (fun zz71 σ70 => ?_)
              refine xr_ldc (pc := 439) X dL_refuses_439 (List.mem_cons_of_mem _ wm_6_5) ?_
              refine xr_icmp_ne (pc := 441) X 786 (by decide) dL_refuses_441 (fun _ => ?_) (fun _ => ?_)
              · refine xr_iconst (pc := 786) X dL_refuses_786 (v := 0) (by decide) ?_
                exact xr_zret (pc := 787) X rfl (Nat.le_of_ble_eq_true rfl) (Nat.le_of_ble_eq_true rfl) dL_refuses_787
              refine xr_aload_n (pc := 444) X (i := 0) 0 rfl rfl dL_refuses_444 ?_
              refine xr_bipush (pc := 445) X dL_refuses_445 (v := 13) (by decide) ?_
              refine xr_iconst (pc := 447) X dL_refuses_447 (v := 0) (by decide) ?_
              refine xr_iload_n (pc := 448) X (i := 1) 1 rfl rfl dL_refuses_448 ?_
              refine xr_iconst (pc := 449) X dL_refuses_449 (v := 2) (by decide) ?_
              refine xr_irem (pc := 450) X (by decide) dL_refuses_450 ?_
              refine x_jn (fun (KK74 : Int32 → xS → Option (Int32 × xS)) => ∀ zz72 σ73, xM Γ D ad N Sh (xQI Γ D ad N Sh 111 666) 64 384 (KK74 zz72 σ73) σ73 465 [(0, .ref (ad oo1)), (1, .int pp2), (2, .int zz2), (3, .int zz3), (4, .int zz7)] [.int zz72, .int 0, .int 13, .ref (ad oo1)]) (fun zz72 σ73 => ?_) (fun KK74 hKK75 => ?_)
              · refine xr_iconst (pc := 465) X dL_refuses_465 (v := 0) (by decide) ?_
                refine xr_callSI (na := 5) (pc := 466) X [.ref (ad oo1), .int 13, .int 0, .int zz72, .int 0] (c_L_call Γ.2.1 hI hst oo1 hh1 13 0 zz72 0 σ73) (wG_S wm_5_23 wm_5_21 wm_5_22 wm_5_14) rfl rfl rfl (by decide +kernel) ⟨Nat.le_of_ble_eq_true rfl, Nat.le_of_ble_eq_true rfl⟩ rfl rfl (Nat.le_of_ble_eq_true rfl) ⟨(show _ ≤ 111 by omega), (show _ ≤ 666 by omega)⟩ dL_refuses_466 (fun zz77 σ76 => ?_)
                refine xr_ldc (pc := 469) X dL_refuses_469 (List.mem_cons_of_mem _ wm_6_5) ?_
                refine xr_icmp_ne (pc := 471) X 786 (by decide) dL_refuses_471 (fun _ => ?_) (fun _ => ?_)
                · refine xr_iconst (pc := 786) X dL_refuses_786 (v := 0) (by decide) ?_
                  exact xr_zret (pc := 787) X rfl (Nat.le_of_ble_eq_true rfl) (Nat.le_of_ble_eq_true rfl) dL_refuses_787
                refine xr_aload_n (pc := 474) X (i := 0) 0 rfl rfl dL_refuses_474 ?_
                refine xr_bipush (pc := 475) X dL_refuses_475 (v := 13) (by decide) ?_
                refine xr_iconst (pc := 477) X dL_refuses_477 (v := 1) (by decide) ?_
                refine xr_bipush (pc := 478) X dL_refuses_478 (v := 21) (by decide) ?_
                refine xr_iload_n (pc := 480) X (i := 1) 1 rfl rfl dL_refuses_480 ?_
                refine xr_bipush (pc := 481) X dL_refuses_481 (v := 9) (by decide) ?_
                refine xr_irem (pc := 483) X (by decide) dL_refuses_483 ?_
                refine xr_iadd (pc := 484) X dL_refuses_484 ?_
                refine xr_iconst (pc := 485) X dL_refuses_485 (v := 0) (by decide) ?_
                refine xr_callSI (na := 5) (pc := 486) X [.ref (ad oo1), .int 13, .int 1, .int (21 + (pp2 - pp2 / 9 * 9)), .int 0] (c_L_call Γ.2.1 hI hst oo1 hh1 13 1 (21 + (pp2 - pp2 / 9 * 9)) 0 σ76) (wG_S wm_5_23 wm_5_21 wm_5_22 wm_5_14) rfl rfl rfl (by decide +kernel) ⟨Nat.le_of_ble_eq_true rfl, Nat.le_of_ble_eq_true rfl⟩ rfl rfl (Nat.le_of_ble_eq_true rfl) ⟨(show _ ≤ 111 by omega), (show _ ≤ 666 by omega)⟩ dL_refuses_486 (fun zz79 σ78 => ?_)
                refine xr_ldc (pc := 489) X dL_refuses_489 (List.mem_cons_of_mem _ wm_6_5) ?_
                refine xr_icmp_ne (pc := 491) X 786 (by decide) dL_refuses_491 (fun _ => ?_) (fun _ => ?_)
                · refine xr_iconst (pc := 786) X dL_refuses_786 (v := 0) (by decide) ?_
                  exact xr_zret (pc := 787) X rfl (Nat.le_of_ble_eq_true rfl) (Nat.le_of_ble_eq_true rfl) dL_refuses_787
                refine xr_aload_n (pc := 494) X (i := 0) 0 rfl rfl dL_refuses_494 ?_
                refine xr_bipush (pc := 495) X dL_refuses_495 (v := 13) (by decide) ?_
                refine xr_iconst (pc := 497) X dL_refuses_497 (v := 2) (by decide) ?_
                refine xr_iload_n (pc := 498) X (i := 1) 1 rfl rfl dL_refuses_498 ?_
                refine xr_iconst (pc := 499) X dL_refuses_499 (v := 2) (by decide) ?_
                refine xr_irem (pc := 500) X (by decide) dL_refuses_500 ?_
                refine x_jn (fun (KK82 : Int32 → xS → Option (Int32 × xS)) => ∀ zz80 σ81, xM Γ D ad N Sh (xQI Γ D ad N Sh 111 666) 70 420 (KK82 zz80 σ81) σ81 517 [(0, .ref (ad oo1)), (1, .int pp2), (2, .int zz2), (3, .int zz3), (4, .int zz7)] [.int zz80, .int 2, .int 13, .ref (ad oo1)]) (fun zz80 σ81 => ?_) (fun KK82 hKK83 => ?_)
                · refine xr_iconst (pc := 517) X dL_refuses_517 (v := 0) (by decide) ?_
                  refine xr_callSI (na := 5) (pc := 518) X [.ref (ad oo1), .int 13, .int 2, .int zz80, .int 0] (c_L_call Γ.2.1 hI hst oo1 hh1 13 2 zz80 0 σ81) (wG_S wm_5_23 wm_5_21 wm_5_22 wm_5_14) rfl rfl rfl (by decide +kernel) ⟨Nat.le_of_ble_eq_true rfl, Nat.le_of_ble_eq_true rfl⟩ rfl rfl (Nat.le_of_ble_eq_true rfl) ⟨(show _ ≤ 111 by omega), (show _ ≤ 666 by omega)⟩ dL_refuses_518 (fun zz85 σ84 => ?_)
                  refine xr_ldc (pc := 521) X dL_refuses_521 (List.mem_cons_of_mem _ wm_6_5) ?_
                  refine xr_icmp_ne (pc := 523) X 786 (by decide) dL_refuses_523 (fun _ => ?_) (fun _ => ?_)
                  · refine xr_iconst (pc := 786) X dL_refuses_786 (v := 0) (by decide) ?_
                    exact xr_zret (pc := 787) X rfl (Nat.le_of_ble_eq_true rfl) (Nat.le_of_ble_eq_true rfl) dL_refuses_787
                  refine xr_aload_n (pc := 526) X (i := 0) 0 rfl rfl dL_refuses_526 ?_
                  refine xr_bipush (pc := 527) X dL_refuses_527 (v := 13) (by decide) ?_
                  refine xr_iconst (pc := 529) X dL_refuses_529 (v := 3) (by decide) ?_
                  refine xr_iload_n (pc := 530) X (i := 1) 1 rfl rfl dL_refuses_530 ?_
                  refine xr_iconst (pc := 531) X dL_refuses_531 (v := 2) (by decide) ?_
                  refine xr_irem (pc := 532) X (by decide) dL_refuses_532 ?_
                  refine x_jn (fun (KK88 : Int32 → xS → Option (Int32 × xS)) => ∀ zz86 σ87, xM Γ D ad N Sh (xQI Γ D ad N Sh 111 666) 73 438 (KK88 zz86 σ87) σ87 547 [(0, .ref (ad oo1)), (1, .int pp2), (2, .int zz2), (3, .int zz3), (4, .int zz7)] [.int zz86, .int 3, .int 13, .ref (ad oo1)]) (fun zz86 σ87 => ?_) (fun KK88 hKK89 => ?_)
                  · refine xr_iconst (pc := 547) X dL_refuses_547 (v := 0) (by decide) ?_
                    refine xr_callSI (na := 5) (pc := 548) X [.ref (ad oo1), .int 13, .int 3, .int zz86, .int 0] (c_L_call Γ.2.1 hI hst oo1 hh1 13 3 zz86 0 σ87) (wG_S wm_5_23 wm_5_21 wm_5_22 wm_5_14) rfl rfl rfl (by decide +kernel) ⟨Nat.le_of_ble_eq_true rfl, Nat.le_of_ble_eq_true rfl⟩ rfl rfl (Nat.le_of_ble_eq_true rfl) ⟨(show _ ≤ 111 by omega), (show _ ≤ 666 by omega)⟩ dL_refuses_548 (fun zz91 σ90 => ?_)
                    refine xr_ldc (pc := 551) X dL_refuses_551 (List.mem_cons_of_mem _ wm_6_5) ?_
                    refine xr_icmp_ne (pc := 553) X 786 (by decide) dL_refuses_553 (fun _ => ?_) (fun _ => ?_)
                    · refine xr_iconst (pc := 786) X dL_refuses_786 (v := 0) (by decide) ?_
                      exact xr_zret (pc := 787) X rfl (Nat.le_of_ble_eq_true rfl) (Nat.le_of_ble_eq_true rfl) dL_refuses_787
                    refine xr_aload_n (pc := 556) X (i := 0) 0 rfl rfl dL_refuses_556 ?_
                    refine xr_bipush (pc := 557) X dL_refuses_557 (v := 13) (by decide) ?_
                    refine xr_iconst (pc := 559) X dL_refuses_559 (v := 4) (by decide) ?_
                    refine xr_iload_n (pc := 560) X (i := 1) 1 rfl rfl dL_refuses_560 ?_
                    refine xr_bipush (pc := 561) X dL_refuses_561 (v := 9) (by decide) ?_
                    refine xr_irem (pc := 563) X (by decide) dL_refuses_563 ?_
                    refine xr_iadd (pc := 564) X dL_refuses_564 ?_
                    refine xr_iconst (pc := 565) X dL_refuses_565 (v := 5) (by decide) ?_
                    refine xr_iconst (pc := 566) X dL_refuses_566 (v := 0) (by decide) ?_
                    refine xr_callSI (na := 5) (pc := 567) X [.ref (ad oo1), .int 13, .int (4 + (pp2 - pp2 / 9 * 9)), .int 5, .int 0] (c_L_call Γ.2.1 hI hst oo1 hh1 13 (4 + (pp2 - pp2 / 9 * 9)) 5 0 σ90) (wG_S wm_5_23 wm_5_21 wm_5_22 wm_5_14) rfl rfl rfl (by decide +kernel) ⟨Nat.le_of_ble_eq_true rfl, Nat.le_of_ble_eq_true rfl⟩ rfl rfl (Nat.le_of_ble_eq_true rfl) ⟨(show _ ≤ 111 by omega), (show _ ≤ 666 by omega)⟩ dL_refuses_567 (fun zz93 σ92 => ?_)
                    refine xr_ldc (pc := 570) X dL_refuses_570 (List.mem_cons_of_mem _ wm_6_5) ?_
                    refine xr_icmp_ne (pc := 572) X 786 (by decide) dL_refuses_572 (fun _ => ?_) (fun _ => ?_)
                    · refine xr_iconst (pc := 786) X dL_refuses_786 (v := 0) (by decide) ?_
                      exact xr_zret (pc := 787) X rfl (Nat.le_of_ble_eq_true rfl) (Nat.le_of_ble_eq_true rfl) dL_refuses_787
                    refine xr_aload_n (pc := 575) X (i := 0) 0 rfl rfl dL_refuses_575 ?_
                    refine xr_bipush (pc := 576) X dL_refuses_576 (v := 15) (by decide) ?_
                    refine xr_iload_n (pc := 578) X (i := 3) 3 rfl rfl dL_refuses_578 ?_
                    refine xr_iconst (pc := 579) X dL_refuses_579 (v := 0) (by decide) ?_
                    refine xr_iconst (pc := 580) X dL_refuses_580 (v := 0) (by decide) ?_
                    refine xr_callSI (na := 5) (pc := 581) X [.ref (ad oo1), .int 15, .int zz3, .int 0, .int 0] (c_L_call Γ.2.1 hI hst oo1 hh1 15 zz3 0 0 σ92) (wG_S wm_5_23 wm_5_21 wm_5_22 wm_5_14) rfl rfl rfl (by decide +kernel) ⟨Nat.le_of_ble_eq_true rfl, Nat.le_of_ble_eq_true rfl⟩ rfl rfl (Nat.le_of_ble_eq_true rfl) ⟨(show _ ≤ 111 by omega), (show _ ≤ 666 by omega)⟩ dL_refuses_581 (fun zz95 σ94 => ?_)
                    refine xr_ldc (pc := 584) X dL_refuses_584 (List.mem_cons_of_mem _ wm_14_7) ?_
                    refine xr_icmp_ne (pc := 586) X 786 (by decide) dL_refuses_586 (fun _ => ?_) (fun _ => ?_)
                    · refine xr_iconst (pc := 786) X dL_refuses_786 (v := 0) (by decide) ?_
                      exact xr_zret (pc := 787) X rfl (Nat.le_of_ble_eq_true rfl) (Nat.le_of_ble_eq_true rfl) dL_refuses_787
                    refine xr_aload_n (pc := 589) X (i := 0) 0 rfl rfl dL_refuses_589 ?_
                    refine xr_bipush (pc := 590) X dL_refuses_590 (v := 16) (by decide) ?_
                    refine xr_iload_n (pc := 592) X (i := 3) 3 rfl rfl dL_refuses_592 ?_
                    refine xr_iload (pc := 593) X (i := 4) 4 rfl dL_refuses_593 ?_
                    refine xr_iconst (pc := 595) X dL_refuses_595 (v := 0) (by decide) ?_
                    refine xr_callSI (na := 5) (pc := 596) X [.ref (ad oo1), .int 16, .int zz3, .int zz7, .int 0] (c_L_call Γ.2.1 hI hst oo1 hh1 16 zz3 zz7 0 σ94) (wG_S wm_5_23 wm_5_21 wm_5_22 wm_5_14) rfl rfl rfl (by decide +kernel) ⟨Nat.le_of_ble_eq_true rfl, Nat.le_of_ble_eq_true rfl⟩ rfl rfl (Nat.le_of_ble_eq_true rfl) ⟨(show _ ≤ 111 by omega), (show _ ≤ 666 by omega)⟩ dL_refuses_596 (fun zz97 σ96 => ?_)
                    refine xr_ldc (pc := 599) X dL_refuses_599 (List.mem_cons_of_mem _ wm_14_7) ?_
                    refine xr_icmp_ne (pc := 601) X 786 (by decide) dL_refuses_601 (fun _ => ?_) (fun _ => ?_)
                    · refine xr_iconst (pc := 786) X dL_refuses_786 (v := 0) (by decide) ?_
                      exact xr_zret (pc := 787) X rfl (Nat.le_of_ble_eq_true rfl) (Nat.le_of_ble_eq_true rfl) dL_refuses_787
                    refine xr_aload_n (pc := 604) X (i := 0) 0 rfl rfl dL_refuses_604 ?_
                    refine xr_bipush (pc := 605) X dL_refuses_605 (v := 16) (by decide) ?_
                    refine xr_iload_n (pc := 607) X (i := 1) 1 rfl rfl dL_refuses_607 ?_
                    refine xr_iload_n (pc := 608) X (i := 2) 2 rfl rfl dL_refuses_608 ?_
                    refine x_gd (fun hzz98 => ?_)
                    refine xr_irem (pc := 609) X hzz98 dL_refuses_609 ?_
                    refine xr_iload (pc := 610) X (i := 4) 4 rfl dL_refuses_610 ?_
                    refine xr_iconst (pc := 612) X dL_refuses_612 (v := 0) (by decide) ?_
                    refine xr_callSI (na := 5) (pc := 613) X [.ref (ad oo1), .int 16, .int (pp2 - pp2 / zz2 * zz2), .int zz7, .int 0] (c_L_call Γ.2.1 hI hst oo1 hh1 16 (pp2 - pp2 / zz2 * zz2) zz7 0 σ96) (wG_S wm_5_23 wm_5_21 wm_5_22 wm_5_14) rfl rfl rfl (by decide +kernel) ⟨Nat.le_of_ble_eq_true rfl, Nat.le_of_ble_eq_true rfl⟩ rfl rfl (Nat.le_of_ble_eq_true rfl) ⟨(show _ ≤ 111 by omega), (show _ ≤ 666 by omega)⟩ dL_refuses_613 (fun zz100 σ99 => ?_)
                    refine xr_ldc (pc := 616) X dL_refuses_616 (List.mem_cons_of_mem _ wm_6_5) ?_
                    refine xr_icmp_ne (pc := 618) X 786 (by decide) dL_refuses_618 (fun _ => ?_) (fun _ => ?_)
                    · refine xr_iconst (pc := 786) X dL_refuses_786 (v := 0) (by decide) ?_
                      exact xr_zret (pc := 787) X rfl (Nat.le_of_ble_eq_true rfl) (Nat.le_of_ble_eq_true rfl) dL_refuses_787
                    refine xr_aload_n (pc := 621) X (i := 0) 0 rfl rfl dL_refuses_621 ?_
                    refine xr_bipush (pc := 622) X dL_refuses_622 (v := 17) (by decide) ?_
                    refine xr_iload_n (pc := 624) X (i := 3) 3 rfl rfl dL_refuses_624 ?_
                    refine xr_bipush (pc := 625) X dL_refuses_625 (v := 9) (by decide) ?_
                    refine xr_iconst (pc := 627) X dL_refuses_627 (v := 0) (by decide) ?_
                    refine xr_callSI (na := 5) (pc := 628) X [.ref (ad oo1), .int 17, .int zz3, .int 9, .int 0] (c_L_call Γ.2.1 hI hst oo1 hh1 17 zz3 9 0 σ99) (wG_S wm_5_23 wm_5_21 wm_5_22 wm_5_14) rfl rfl rfl (by decide +kernel) ⟨Nat.le_of_ble_eq_true rfl, Nat.le_of_ble_eq_true rfl⟩ rfl rfl (Nat.le_of_ble_eq_true rfl) ⟨(show _ ≤ 111 by omega), (show _ ≤ 666 by omega)⟩ dL_refuses_628 (fun zz102 σ101 => ?_)
                    refine xr_ldc (pc := 631) X dL_refuses_631 (List.mem_cons_of_mem _ wm_14_7) ?_
                    refine xr_icmp_ne (pc := 633) X 786 (by decide) dL_refuses_633 (fun _ => ?_) (fun _ => ?_)
                    · refine xr_iconst (pc := 786) X dL_refuses_786 (v := 0) (by decide) ?_
                      exact xr_zret (pc := 787) X rfl (Nat.le_of_ble_eq_true rfl) (Nat.le_of_ble_eq_true rfl) dL_refuses_787
                    refine xr_aload_n (pc := 636) X (i := 0) 0 rfl rfl dL_refuses_636 ?_
                    refine xr_bipush (pc := 637) X dL_refuses_637 (v := 17) (by decide) ?_
                    refine xr_iconst (pc := 639) X dL_refuses_639 (v := 0) (by decide) ?_
                    refine xr_iconst (pc := 640) X dL_refuses_640 (v := 4) (by decide) ?_
                    refine xr_iload_n (pc := 641) X (i := 1) 1 rfl rfl dL_refuses_641 ?_
                    refine xr_bipush (pc := 642) X dL_refuses_642 (v := 9) (by decide) ?_
                    refine xr_irem (pc := 644) X (by decide) dL_refuses_644 ?_
                    refine xr_iadd (pc := 645) X dL_refuses_645 ?_
                    refine xr_iconst (pc := 646) X dL_refuses_646 (v := 0) (by decide) ?_
                    refine xr_callSI (na := 5) (pc := 647) X [.ref (ad oo1), .int 17, .int 0, .int (4 + (pp2 - pp2 / 9 * 9)), .int 0] (c_L_call Γ.2.1 hI hst oo1 hh1 17 0 (4 + (pp2 - pp2 / 9 * 9)) 0 σ101) (wG_S wm_5_23 wm_5_21 wm_5_22 wm_5_14) rfl rfl rfl (by decide +kernel) ⟨Nat.le_of_ble_eq_true rfl, Nat.le_of_ble_eq_true rfl⟩ rfl rfl (Nat.le_of_ble_eq_true rfl) ⟨(show _ ≤ 111 by omega), (show _ ≤ 666 by omega)⟩ dL_refuses_647 (fun zz104 σ103 => ?_)
                    refine xr_ldc (pc := 650) X dL_refuses_650 (List.mem_cons_of_mem _ wm_6_5) ?_
                    refine xr_icmp_ne (pc := 652) X 786 (by decide) dL_refuses_652 (fun _ => ?_) (fun _ => ?_)
                    · refine xr_iconst (pc := 786) X dL_refuses_786 (v := 0) (by decide) ?_
                      exact xr_zret (pc := 787) X rfl (Nat.le_of_ble_eq_true rfl) (Nat.le_of_ble_eq_true rfl) dL_refuses_787
                    refine xr_aload_n (pc := 655) X (i := 0) 0 rfl rfl dL_refuses_655 ?_
                    refine xr_bipush (pc := 656) X dL_refuses_656 (v := 18) (by decide) ?_
                    refine xr_bipush (pc := 658) X dL_refuses_658 (v := 9) (by decide) ?_
                    refine xr_iload_n (pc := 660) X (i := 3) 3 rfl rfl dL_refuses_660 ?_
                    refine xr_iconst (pc := 661) X dL_refuses_661 (v := 0) (by decide) ?_
                    refine xr_callSI (na := 5) (pc := 662) X [.ref (ad oo1), .int 18, .int 9, .int zz3, .int 0] (c_L_call Γ.2.1 hI hst oo1 hh1 18 9 zz3 0 σ103) (wG_S wm_5_23 wm_5_21 wm_5_22 wm_5_14) rfl rfl rfl (by decide +kernel) ⟨Nat.le_of_ble_eq_true rfl, Nat.le_of_ble_eq_true rfl⟩ rfl rfl (Nat.le_of_ble_eq_true rfl) ⟨(show _ ≤ 111 by omega), (show _ ≤ 666 by omega)⟩ dL_refuses_662 (fun zz106 σ105 => ?_)
                    refine xr_ldc (pc := 665) X dL_refuses_665 (List.mem_cons_of_mem _ wm_14_7) ?_
                    refine xr_icmp_ne (pc := 667) X 786 (by decide) dL_refuses_667 (fun _ => ?_) (fun _ => ?_)
                    · refine xr_iconst (pc := 786) X dL_refuses_786 (v := 0) (by decide) ?_
                      exact xr_zret (pc := 787) X rfl (Nat.le_of_ble_eq_true rfl) (Nat.le_of_ble_eq_true rfl) dL_refuses_787
                    refine xr_aload_n (pc := 670) X (i := 0) 0 rfl rfl dL_refuses_670 ?_
                    refine xr_bipush (pc := 671) X dL_refuses_671 (v := 18) (by decide) ?_
                    refine xr_iload_n (pc := 673) X (i := 1) 1 rfl rfl dL_refuses_673 ?_
                    refine xr_iconst (pc := 674) X dL_refuses_674 (v := 2) (by decide) ?_
                    refine xr_irem (pc := 675) X (by decide) dL_refuses_675 ?_
                    refine x_jn (fun (KK109 : Int32 → xS → Option (Int32 × xS)) => ∀ zz107 σ108, xM Γ D ad N Sh (xQI Γ D ad N Sh 111 666) 97 582 (KK109 zz107 σ108) σ108 689 [(0, .ref (ad oo1)), (1, .int pp2)] [.int zz107, .int 18, .ref (ad oo1)]) (fun zz107 σ108 => ?_) (fun KK109 hKK110 => ?_)
                    · refine xr_iconst (pc := 689) X dL_refuses_689 (v := 0) (by decide) ?_
                      refine xr_iconst (pc := 690) X dL_refuses_690 (v := 0) (by decide) ?_
                      refine xr_callSI (na := 5) (pc := 691) X [.ref (ad oo1), .int 18, .int zz107, .int 0, .int 0] (c_L_call Γ.2.1 hI hst oo1 hh1 18 zz107 0 0 σ108) (wG_S wm_5_23 wm_5_21 wm_5_22 wm_5_14) rfl rfl rfl (by decide +kernel) ⟨Nat.le_of_ble_eq_true rfl, Nat.le_of_ble_eq_true rfl⟩ rfl rfl (Nat.le_of_ble_eq_true rfl) ⟨(show _ ≤ 111 by omega), (show _ ≤ 666 by omega)⟩ dL_refuses_691 (fun zz112 σ111 => ?_)
                      refine xr_ldc (pc := 694) X dL_refuses_694 (List.mem_cons_of_mem _ wm_6_5) ?_
                      refine xr_icmp_ne (pc := 696) X 786 (by decide) dL_refuses_696 (fun _ => ?_) (fun _ => ?_)
                      · refine xr_iconst (pc := 786) X dL_refuses_786 (v := 0) (by decide) ?_
                        exact xr_zret (pc := 787) X rfl (Nat.le_of_ble_eq_true rfl) (Nat.le_of_ble_eq_true rfl) dL_refuses_787
                      refine xr_aload_n (pc := 699) X (i := 0) 0 rfl rfl dL_refuses_699 ?_
                      refine xr_bipush (pc := 700) X dL_refuses_700 (v := 19) (by decide) ?_
                      refine xr_iconst (pc := 702) X dL_refuses_702 (v := 2) (by decide) ?_
                      refine xr_iload_n (pc := 703) X (i := 1) 1 rfl rfl dL_refuses_703 ?_
                      refine xr_bipush (pc := 704) X dL_refuses_704 (v := 50) (by decide) ?_
                      refine xr_irem (pc := 706) X (by decide) dL_refuses_706 ?_
                      refine xr_iadd (pc := 707) X dL_refuses_707 ?_
                      refine xr_iconst (pc := 708) X dL_refuses_708 (v := 0) (by decide) ?_
                      refine xr_iconst (pc := 709) X dL_refuses_709 (v := 0) (by decide) ?_
                      refine xr_callSI (na := 5) (pc := 710) X [.ref (ad oo1), .int 19, .int (2 + (pp2 - pp2 / 50 * 50)), .int 0, .int 0] (c_L_call Γ.2.1 hI hst oo1 hh1 19 (2 + (pp2 - pp2 / 50 * 50)) 0 0 σ111) (wG_S wm_5_23 wm_5_21 wm_5_22 wm_5_14) rfl rfl rfl (by decide +kernel) ⟨Nat.le_of_ble_eq_true rfl, Nat.le_of_ble_eq_true rfl⟩ rfl rfl (Nat.le_of_ble_eq_true rfl) ⟨(show _ ≤ 111 by omega), (show _ ≤ 666 by omega)⟩ dL_refuses_710 (fun zz114 σ113 => ?_)
                      refine xr_ldc (pc := 713) X dL_refuses_713 (List.mem_cons_of_mem _ wm_14_7) ?_
                      refine xr_icmp_ne (pc := 715) X 786 (by decide) dL_refuses_715 (fun _ => ?_) (fun _ => ?_)
                      · refine xr_iconst (pc := 786) X dL_refuses_786 (v := 0) (by decide) ?_
                        exact xr_zret (pc := 787) X rfl (Nat.le_of_ble_eq_true rfl) (Nat.le_of_ble_eq_true rfl) dL_refuses_787
                      refine xr_aload_n (pc := 718) X (i := 0) 0 rfl rfl dL_refuses_718 ?_
                      refine xr_bipush (pc := 719) X dL_refuses_719 (v := 20) (by decide) ?_
                      refine xr_iconst (pc := 721) X dL_refuses_721 (v := (-1)) (by decide) ?_
                      refine xr_iload_n (pc := 722) X (i := 1) 1 rfl rfl dL_refuses_722 ?_
                      refine xr_bipush (pc := 723) X dL_refuses_723 (v := 9) (by decide) ?_
                      refine xr_irem (pc := 725) X (by decide) dL_refuses_725 ?_
                      refine xr_isub (pc := 726) X dL_refuses_726 ?_
                      refine xr_iconst (pc := 727) X dL_refuses_727 (v := 0) (by decide) ?_
                      refine xr_iconst (pc := 728) X dL_refuses_728 (v := 0) (by decide) ?_
                      refine xr_callSI (na := 5) (pc := 729) X [.ref (ad oo1), .int 20, .int (((-1)) - (pp2 - pp2 / 9 * 9)), .int 0, .int 0] (c_L_call Γ.2.1 hI hst oo1 hh1 20 (((-1)) - (pp2 - pp2 / 9 * 9)) 0 0 σ113) (wG_S wm_5_23 wm_5_21 wm_5_22 wm_5_14) rfl rfl rfl (by decide +kernel) ⟨Nat.le_of_ble_eq_true rfl, Nat.le_of_ble_eq_true rfl⟩ rfl rfl (Nat.le_of_ble_eq_true rfl) ⟨(show _ ≤ 111 by omega), (show _ ≤ 666 by omega)⟩ dL_refuses_729 (fun zz116 σ115 => ?_)
                      refine xr_ldc (pc := 732) X dL_refuses_732 (List.mem_cons_of_mem _ wm_14_7) ?_
                      refine xr_icmp_ne (pc := 734) X 786 (by decide) dL_refuses_734 (fun _ => ?_) (fun _ => ?_)
                      · refine xr_iconst (pc := 786) X dL_refuses_786 (v := 0) (by decide) ?_
                        exact xr_zret (pc := 787) X rfl (Nat.le_of_ble_eq_true rfl) (Nat.le_of_ble_eq_true rfl) dL_refuses_787
                      refine xr_aload_n (pc := 737) X (i := 0) 0 rfl rfl dL_refuses_737 ?_
                      refine xr_iconst (pc := 738) X dL_refuses_738 (v := 0) (by decide) ?_
                      refine xr_lconst (pc := 739) X dL_refuses_739 (v := 0) rfl ?_
                      refine xr_callSWI (na := 3) (pc := 740) X [.ref (ad oo1), .int 0, .long 0] (c_L_doScript Γ.2.1 hI hst oo1 hh1 0 0 σ115) (wG_SW wm_22_9 wm_22_7 wm_22_8 wm_5_14) rfl rfl rfl (by decide +kernel) ⟨Nat.le_of_ble_eq_true rfl, Nat.le_of_ble_eq_true rfl⟩ rfl rfl (Nat.le_of_ble_eq_true rfl) ⟨(show _ ≤ 111 by omega), (show _ ≤ 666 by omega)⟩ dL_refuses_740 (fun zz118 σ117 => ?_)
                      refine xr_ldc (pc := 743) X dL_refuses_743 (List.mem_cons_of_mem _ wm_6_5) ?_
                      refine xr_icmp_ne (pc := 745) X 786 (by decide) dL_refuses_745 (fun _ => ?_) (fun _ => ?_)
                      · refine xr_iconst (pc := 786) X dL_refuses_786 (v := 0) (by decide) ?_
                        exact xr_zret (pc := 787) X rfl (Nat.le_of_ble_eq_true rfl) (Nat.le_of_ble_eq_true rfl) dL_refuses_787
                      refine xr_aload_n (pc := 748) X (i := 0) 0 rfl rfl dL_refuses_748 ?_
                      refine xr_iconst (pc := 749) X dL_refuses_749 (v := 1) (by decide) ?_
                      refine xr_ldc2 (pc := 750) X dL_refuses_750 (List.mem_cons_of_mem _ wm_22_6) ?_
                      refine xr_iload_n (pc := 753) X (i := 1) 1 rfl rfl dL_refuses_753 ?_
                      refine xr_i2l (pc := 754) X dL_refuses_754 ?_
                      refine xr_ladd (pc := 755) X dL_refuses_755 ?_
                      refine xr_callSWI (na := 3) (pc := 756) X [.ref (ad oo1), .int 1, .long (100000 + pp2.toInt64)] (c_L_doScript Γ.2.1 hI hst oo1 hh1 1 (100000 + pp2.toInt64) σ117) (wG_SW wm_22_9 wm_22_7 wm_22_8 wm_5_14) rfl rfl rfl (by decide +kernel) ⟨Nat.le_of_ble_eq_true rfl, Nat.le_of_ble_eq_true rfl⟩ rfl rfl (Nat.le_of_ble_eq_true rfl) ⟨(show _ ≤ 111 by omega), (show _ ≤ 666 by omega)⟩ dL_refuses_756 (fun zz120 σ119 => ?_)
                      refine xr_ldc (pc := 759) X dL_refuses_759 (List.mem_cons_of_mem _ wm_6_5) ?_
                      refine xr_icmp_ne (pc := 761) X 786 (by decide) dL_refuses_761 (fun _ => ?_) (fun _ => ?_)
                      · refine xr_iconst (pc := 786) X dL_refuses_786 (v := 0) (by decide) ?_
                        exact xr_zret (pc := 787) X rfl (Nat.le_of_ble_eq_true rfl) (Nat.le_of_ble_eq_true rfl) dL_refuses_787
                      refine xr_aload_n (pc := 764) X (i := 0) 0 rfl rfl dL_refuses_764 ?_
                      refine xr_iload_n (pc := 765) X (i := 1) 1 rfl rfl dL_refuses_765 ?_
                      refine xr_i2l (pc := 766) X dL_refuses_766 ?_
                      refine xr_bipush (pc := 767) X dL_refuses_767 (v := 61) (by decide) ?_
                      refine xr_iload_n (pc := 769) X (i := 1) 1 rfl rfl dL_refuses_769 ?_
                      refine xr_bipush (pc := 770) X dL_refuses_770 (v := 9) (by decide) ?_
                      refine xr_irem (pc := 772) X (by decide) dL_refuses_772 ?_
                      refine xr_iadd (pc := 773) X dL_refuses_773 ?_
                      refine xr_callSWI (na := 3) (pc := 774) X [.ref (ad oo1), .long pp2.toInt64, .int (61 + (pp2 - pp2 / 9 * 9))] (c_L_doSimulate Γ.2.1 hI hst oo1 hh1 pp2.toInt64 (61 + (pp2 - pp2 / 9 * 9)) σ119) (wG_SW wm_22_22 wm_22_20 wm_22_21 wm_5_14) rfl rfl rfl (by decide +kernel) ⟨Nat.le_of_ble_eq_true rfl, Nat.le_of_ble_eq_true rfl⟩ rfl rfl (Nat.le_of_ble_eq_true rfl) ⟨(show _ ≤ 111 by omega), (show _ ≤ 666 by omega)⟩ dL_refuses_774 (fun zz122 σ121 => ?_)
                      refine xr_ldc (pc := 777) X dL_refuses_777 (List.mem_cons_of_mem _ wm_6_5) ?_
                      refine xr_icmp_ne (pc := 779) X 786 (by decide) dL_refuses_779 (fun _ => ?_) (fun _ => ?_)
                      · refine xr_iconst (pc := 786) X dL_refuses_786 (v := 0) (by decide) ?_
                        exact xr_zret (pc := 787) X rfl (Nat.le_of_ble_eq_true rfl) (Nat.le_of_ble_eq_true rfl) dL_refuses_787
                      refine xr_iconst (pc := 782) X dL_refuses_782 (v := 1) (by decide) ?_
                      refine xr_goto (pc := 783) X 787 (by decide) dL_refuses_783 ?_
                      exact xr_zret (pc := 787) X rfl (Nat.le_of_ble_eq_true rfl) (Nat.le_of_ble_eq_true rfl) dL_refuses_787
                    refine xr_if_ne (pc := 676) X 683 (by decide) dL_refuses_676 (fun _ => ?_) (fun _ => ?_)
                    · refine xr_iconst (pc := 683) X dL_refuses_683 (v := 3) (by decide) ?_
                      refine xr_iload_n (pc := 684) X (i := 1) 1 rfl rfl dL_refuses_684 ?_
                      refine xr_bipush (pc := 685) X dL_refuses_685 (v := 9) (by decide) ?_
                      refine xr_irem (pc := 687) X (by decide) dL_refuses_687 ?_
                      refine xr_iadd (pc := 688) X dL_refuses_688 ?_
                      exact x_sub [0, 1] rfl (x_wid (by omega) (by omega) (hKK110 _ _))
                    refine xr_iconst (pc := 679) X dL_refuses_679 (v := 0) (by decide) ?_
                    refine xr_goto (pc := 680) X 689 (by decide) dL_refuses_680 ?_
                    exact x_sub [0, 1] rfl (x_wid (by omega) (by omega) (hKK110 _ _))
                  refine xr_if_ne (pc := 533) X 540 (by decide) dL_refuses_533 (fun _ => ?_) (fun _ => ?_)
                  · refine xr_bipush (pc := 540) X dL_refuses_540 (v := 7) (by decide) ?_
                    refine xr_iload_n (pc := 542) X (i := 1) 1 rfl rfl dL_refuses_542 ?_
                    refine xr_bipush (pc := 543) X dL_refuses_543 (v := 9) (by decide) ?_
                    refine xr_irem (pc := 545) X (by decide) dL_refuses_545 ?_
                    refine xr_iadd (pc := 546) X dL_refuses_546 ?_
                    exact x_wid (by omega) (by omega) (hKK89 _ _)
                  refine xr_iconst (pc := 536) X dL_refuses_536 (v := 0) (by decide) ?_
                  refine xr_goto (pc := 537) X 547 (by decide) dL_refuses_537 ?_
                  exact x_wid (by omega) (by omega) (hKK89 _ _)
                refine xr_if_ne (pc := 501) X 510 (by decide) dL_refuses_501 (fun _ => ?_) (fun _ => ?_)
                · refine xr_bipush (pc := 510) X dL_refuses_510 (v := 100) (by decide) ?_
                  refine xr_iload_n (pc := 512) X (i := 1) 1 rfl rfl dL_refuses_512 ?_
                  refine xr_bipush (pc := 513) X dL_refuses_513 (v := 9) (by decide) ?_
                  refine xr_irem (pc := 515) X (by decide) dL_refuses_515 ?_
                  refine xr_iadd (pc := 516) X dL_refuses_516 ?_
                  exact x_wid (by omega) (by omega) (hKK83 _ _)
                refine xr_iload_n (pc := 504) X (i := 1) 1 rfl rfl dL_refuses_504 ?_
                refine xr_iconst (pc := 505) X dL_refuses_505 (v := 4) (by decide) ?_
                refine xr_irem (pc := 506) X (by decide) dL_refuses_506 ?_
                refine xr_goto (pc := 507) X 517 (by decide) dL_refuses_507 ?_
                exact x_wid (by omega) (by omega) (hKK83 _ _)
              refine xr_if_ne (pc := 451) X 458 (by decide) dL_refuses_451 (fun _ => ?_) (fun _ => ?_)
              · refine xr_bipush (pc := 458) X dL_refuses_458 (v := 10) (by decide) ?_
                refine xr_iload_n (pc := 460) X (i := 1) 1 rfl rfl dL_refuses_460 ?_
                refine xr_bipush (pc := 461) X dL_refuses_461 (v := 9) (by decide) ?_
                refine xr_irem (pc := 463) X (by decide) dL_refuses_463 ?_
                refine xr_iadd (pc := 464) X dL_refuses_464 ?_
                exact x_wid (by omega) (by omega) (hKK75 _ _)
              refine xr_iconst (pc := 454) X dL_refuses_454 (v := 0) (by decide) ?_
              refine xr_goto (pc := 455) X 465 (by decide) dL_refuses_455 ?_
              exact x_wid (by omega) (by omega) (hKK75 _ _)
            refine xr_if_ne (pc := 420) X 427 (by decide) dL_refuses_420 (fun _ => ?_) (fun _ => ?_)
            · refine xr_bipush (pc := 427) X dL_refuses_427 (v := 100) (by decide) ?_
              refine xr_iload_n (pc := 429) X (i := 1) 1 rfl rfl dL_refuses_429 ?_
              refine xr_bipush (pc := 430) X dL_refuses_430 (v := 9) (by decide) ?_
              refine xr_irem (pc := 432) X (by decide) dL_refuses_432 ?_
              refine xr_iadd (pc := 433) X dL_refuses_433 ?_
              exact x_wid (by omega) (by omega) (hKK69 _ _)
            refine xr_iconst (pc := 423) X dL_refuses_423 (v := 0) (by decide) ?_
            refine xr_goto (pc := 424) X 434 (by decide) dL_refuses_424 ?_
            exact x_wid (by omega) (by omega) (hKK69 _ _)
          refine xr_if_ne (pc := 350) X 357 (by decide) dL_refuses_350 (fun _ => ?_) (fun _ => ?_)
          · refine xr_bipush (pc := 357) X dL_refuses_357 (v := 100) (by decide) ?_
            refine xr_iload_n (pc := 359) X (i := 1) 1 rfl rfl dL_refuses_359 ?_
            refine xr_bipush (pc := 360) X dL_refuses_360 (v := 9) (by decide) ?_
            refine xr_irem (pc := 362) X (by decide) dL_refuses_362 ?_
            refine xr_iadd (pc := 363) X dL_refuses_363 ?_
            exact x_wid (by omega) (by omega) (hKK57 _ _)
          refine xr_iconst (pc := 353) X dL_refuses_353 (v := 0) (by decide) ?_
          refine xr_goto (pc := 354) X 364 (by decide) dL_refuses_354 ?_
          exact x_wid (by omega) (by omega) (hKK57 _ _)
        refine xr_if_ne (pc := 271) X 282 (by decide) dL_refuses_271 (fun _ => ?_) (fun _ => ?_)
        · refine xr_iconst (pc := 282) X dL_refuses_282 (v := 5) (by decide) ?_
          refine xr_iload_n (pc := 283) X (i := 1) 1 rfl rfl dL_refuses_283 ?_
          refine xr_bipush (pc := 284) X dL_refuses_284 (v := 9) (by decide) ?_
          refine xr_irem (pc := 286) X (by decide) dL_refuses_286 ?_
          refine xr_iadd (pc := 287) X dL_refuses_287 ?_
          exact x_wid (by omega) (by omega) (hKK44 _ _)
        refine xr_iload_n (pc := 274) X (i := 1) 1 rfl rfl dL_refuses_274 ?_
        refine xr_bipush (pc := 275) X dL_refuses_275 (v := 9) (by decide) ?_
        refine xr_irem (pc := 277) X (by decide) dL_refuses_277 ?_
        refine xr_ineg (pc := 278) X dL_refuses_278 ?_
        refine xr_goto (pc := 279) X 288 (by decide) dL_refuses_279 ?_
        exact x_wid (by omega) (by omega) (hKK44 _ _)
      refine xr_if_ne (pc := 60) X 72 (by decide) dL_refuses_60 (fun _ => ?_) (fun _ => ?_)
      · refine xr_sipush (pc := 72) X dL_refuses_72 (v := 256) (by decide) ?_
        refine xr_iload_n (pc := 75) X (i := 1) 1 rfl rfl dL_refuses_75 ?_
        refine xr_bipush (pc := 76) X dL_refuses_76 (v := 9) (by decide) ?_
        refine xr_irem (pc := 78) X (by decide) dL_refuses_78 ?_
        refine xr_iadd (pc := 79) X dL_refuses_79 ?_
        exact x_wid (by omega) (by omega) (hKK14 _ _)
      refine xr_iconst (pc := 63) X dL_refuses_63 (v := (-1)) (by decide) ?_
      refine xr_iload_n (pc := 64) X (i := 1) 1 rfl rfl dL_refuses_64 ?_
      refine xr_bipush (pc := 65) X dL_refuses_65 (v := 9) (by decide) ?_
      refine xr_irem (pc := 67) X (by decide) dL_refuses_67 ?_
      refine xr_isub (pc := 68) X dL_refuses_68 ?_
      refine xr_goto (pc := 69) X 80 (by decide) dL_refuses_69 ?_
      exact x_wid (by omega) (by omega) (hKK14 _ _)
    refine xr_if_ne (pc := 34) X 45 (by decide) dL_refuses_34 (fun _ => ?_) (fun _ => ?_)
    · refine xr_sipush (pc := 45) X dL_refuses_45 (v := 501) (by decide) ?_
      refine xr_iload_n (pc := 48) X (i := 1) 1 rfl rfl dL_refuses_48 ?_
      refine xr_bipush (pc := 49) X dL_refuses_49 (v := 99) (by decide) ?_
      refine xr_irem (pc := 51) X (by decide) dL_refuses_51 ?_
      refine xr_iadd (pc := 52) X dL_refuses_52 ?_
      exact x_wid (by omega) (by omega) (hKK10 _ _)
    refine xr_iload_n (pc := 37) X (i := 1) 1 rfl rfl dL_refuses_37 ?_
    refine xr_bipush (pc := 38) X dL_refuses_38 (v := 99) (by decide) ?_
    refine xr_irem (pc := 40) X (by decide) dL_refuses_40 ?_
    refine xr_ineg (pc := 41) X dL_refuses_41 ?_
    refine xr_goto (pc := 42) X 53 (by decide) dL_refuses_42 ?_
    exact x_wid (by omega) (by omega) (hKK10 _ _)
  refine xr_if_ne (pc := 12) X 24 (by decide) dL_refuses_12 (fun _ => ?_) (fun _ => ?_)
  · refine xr_iload_n (pc := 24) X (i := 2) 2 rfl rfl dL_refuses_24 ?_
    refine xr_iload_n (pc := 25) X (i := 1) 1 rfl rfl dL_refuses_25 ?_
    refine xr_bipush (pc := 26) X dL_refuses_26 (v := 99) (by decide) ?_
    refine xr_irem (pc := 28) X (by decide) dL_refuses_28 ?_
    refine xr_iadd (pc := 29) X dL_refuses_29 ?_
    exact x_wid (by omega) (by omega) (hKK6 _ _)
  refine xr_iconst (pc := 15) X dL_refuses_15 (v := (-1)) (by decide) ?_
  refine xr_iload_n (pc := 16) X (i := 1) 1 rfl rfl dL_refuses_16 ?_
  refine xr_bipush (pc := 17) X dL_refuses_17 (v := 99) (by decide) ?_
  refine xr_irem (pc := 19) X (by decide) dL_refuses_19 ?_
  refine xr_isub (pc := 20) X dL_refuses_20 ?_
  refine xr_goto (pc := 21) X 30 (by decide) dL_refuses_21 ?_
  exact x_wid (by omega) (by omega) (hKK6 _ _)
def F_L_act (oo1 : Nat) (pp2 : Int32) (σ : xS) : Option (Int32 × xS) :=
  xlet (pp2 / 16) (fun (zz1 : Int32) => xbI (F_L_call oo1 2 0 0 0 σ) (fun (zz3 : Int32) (σ2 : xS) => if ¬ zz3 = 0 then (xlet (zz1 - zz1 / zz3 * zz3) (fun (zz5 : Int32) => if (pp2 - pp2 / 16 * 16) = 0 then (if ¬ (zz1 - zz1 / 5 * 5) = 0 then (xbI (F_L_call oo1 9 zz5 (1 + ((zz1 / 4) - (zz1 / 4) / 300 * 300)) 0 σ2) (fun (zz7 : Int32) (σ6 : xS) => some (zz7, σ6)))
 else (xbI (F_L_call oo1 8 (1 + ((zz1 / 5) - (zz1 / 5) / 4 * 4)) 0 0 σ2) (fun (zz9 : Int32) (σ8 : xS) => some (zz9, σ8))))
 else (if (pp2 - pp2 / 16 * 16) = 1 ∨ (pp2 - pp2 / 16 * 16) = 2 ∨ (pp2 - pp2 / 16 * 16) = 3 ∨ (pp2 - pp2 / 16 * 16) = 4 then (xbI (F_L_call oo1 9 zz5 (1 + ((zz1 / 4) - (zz1 / 4) / 50 * 50)) 0 σ2) (fun (zz12 : Int32) (σ11 : xS) => some (zz12, σ11)))
 else (if (pp2 - pp2 / 16 * 16) = 5 ∨ (pp2 - pp2 / 16 * 16) = 6 then (xbI (F_L_call oo1 10 (1 + ((zz1 / 4) - (zz1 / 4) / 25 * 25)) zz5 (1 + ((zz1 / 100) - (zz1 / 100) / 60 * 60)) σ2) (fun (zz15 : Int32) (σ14 : xS) => some (zz15, σ14)))
 else (if (pp2 - pp2 / 16 * 16) = 7 then (if ¬ ((zz1 / 4) - (zz1 / 4) / 2 * 2) = 1 then (xbI (F_L_holds oo1 zz5 0 σ2) (fun (zz18 : Int32) (σ17 : xS) => some (zz18, σ17)))
 else (xbI (F_L_holds oo1 zz5 1 σ2) (fun (zz20 : Int32) (σ19 : xS) => some (zz20, σ19))))
 else (if (pp2 - pp2 / 16 * 16) = 8 then (xbI (F_L_call oo1 11 zz5 0 0 σ2) (fun (zz23 : Int32) (σ22 : xS) => some (zz23, σ22)))
 else (if (pp2 - pp2 / 16 * 16) = 9 ∨ (pp2 - pp2 / 16 * 16) = 10 then (xbI (F_L_call oo1 13 (zz1 - zz1 / 4 * 4) ((zz1 / 4) - (zz1 / 4) / 22 * 22) 0 σ2) (fun (zz26 : Int32) (σ25 : xS) => some (zz26, σ25)))
 else (if (pp2 - pp2 / 16 * 16) = 11 then (xbI (F_L_call oo1 2 1 0 0 σ2) (fun (zz29 : Int32) (σ28 : xS) => if 3 ≤ zz29 then (xbI (F_L_call oo1 14 0 0 0 σ28) (fun (zz31 : Int32) (σ30 : xS) => some (zz31, σ30)))
 else (some ((-1 : Int32), σ28))))
 else (if (pp2 - pp2 / 16 * 16) = 12 then (if ¬ (zz1 - zz1 / 2 * 2) = 0 then (xbI (F_L_call oo1 20 ((zz1 / 2) - (zz1 / 2) / 2 * 2) 0 0 σ2) (fun (zz34 : Int32) (σ33 : xS) => some (zz34, σ33)))
 else (xbI (F_L_call oo1 19 ((zz1 / 2) - (zz1 / 2) / 2 * 2) 0 0 σ2) (fun (zz36 : Int32) (σ35 : xS) => some (zz36, σ35))))
 else (xbI (F_L_call oo1 12 (1 + (zz1 - zz1 / 12 * 12)) 0 0 σ2) (fun (zz39 : Int32) (σ38 : xS) => some (zz39, σ38)))))))))))) else none))
abbrev rm_L_act : Room := { frames := 11, cells := 9, slots := 54, locals := 220 }
set_option maxHeartbeats 4000000 in
set_option maxRecDepth 100000 in
theorem c_L_act (l : Launch) {D : va_G} {ad : Nat → Nat} {N : Nat} {Sh : xSh} (hI : ∀ i j, i < N → j < N → ad i = ad j → i = j) (hst : l.stackTraces = false) (oo1 : Nat) (hh1 : xIs5 D ad N Sh oo1) (pp2 : Int32) (σ : xS) : xKI l yL_act (Cond.code yL_act cL_act 5 (some .int) :: wG) rm_L_act 9 54 D ad N Sh [.ref (ad oo1), .int pp2] σ (F_L_act oo1 pp2 σ) := by
  refine x_startI (own := RL) (maxL := 5) (by decide) rfl rfl (Nat.le_of_ble_eq_true rfl) rfl hI (fun Γ hl hnL X => ?_)
  subst hl
  unfold F_L_act
  refine xr_iload_n (pc := 0) X (i := 1) 1 rfl rfl dL_act_0 ?_
  refine xr_bipush (pc := 1) X dL_act_1 (v := 16) (by decide) ?_
  refine xr_idiv (pc := 3) X (by decide) dL_act_3 ?_
  refine x_leti (fun zz1 => ?_)
  refine xr_istore_n (pc := 4) X (hf := rfl) (i := 2) (lv2 := [(0, .ref (ad oo1)), (1, .int pp2), (2, .int zz1)]) [1, 2, 0] (Nat.le_of_ble_eq_true rfl) hnL rfl dL_act_4 ?_
  refine xr_aload_n (pc := 5) X (i := 0) 0 rfl rfl dL_act_5 ?_
  refine xr_iconst (pc := 6) X dL_act_6 (v := 2) (by decide) ?_
  refine xr_iconst (pc := 7) X dL_act_7 (v := 0) (by decide) ?_
  refine xr_iconst (pc := 8) X dL_act_8 (v := 0) (by decide) ?_
  refine xr_iconst (pc := 9) X dL_act_9 (v := 0) (by decide) ?_
  refine xr_callSI (na := 5) (pc := 10) X [.ref (ad oo1), .int 2, .int 0, .int 0, .int 0] (c_L_call Γ.2.1 hI hst oo1 hh1 2 0 0 0 σ) (wG_S wm_5_23 wm_5_21 wm_5_22 wm_5_14) rfl rfl rfl (by decide +kernel) ⟨Nat.le_of_ble_eq_true rfl, Nat.le_of_ble_eq_true rfl⟩ rfl rfl (Nat.le_of_ble_eq_true rfl) ⟨(show _ ≤ 9 by omega), (show _ ≤ 54 by omega)⟩ dL_act_10 (fun zz3 σ2 => ?_)
  refine xr_istore_n (pc := 13) X (hf := rfl) (i := 3) (lv2 := [(0, .ref (ad oo1)), (1, .int pp2), (2, .int zz1), (3, .int zz3)]) [1, 2, 3, 0] (Nat.le_of_ble_eq_true rfl) hnL rfl dL_act_13 ?_
  refine xr_iload_n (pc := 14) X (i := 2) 2 rfl rfl dL_act_14 ?_
  refine xr_iload_n (pc := 15) X (i := 3) 3 rfl rfl dL_act_15 ?_
  refine x_gd (fun hzz4 => ?_)
  refine xr_irem (pc := 16) X hzz4 dL_act_16 ?_
  refine x_leti (fun zz5 => ?_)
  refine xr_istore (pc := 17) X (i := 4) (lv2 := [(0, .ref (ad oo1)), (1, .int pp2), (2, .int zz1), (4, .int zz5)]) [1, 2, 3, 0] (Nat.le_of_ble_eq_true rfl) hnL rfl dL_act_17 ?_
  refine xr_iload_n (pc := 19) X (i := 1) 1 rfl rfl dL_act_19 ?_
  refine xr_bipush (pc := 20) X dL_act_20 (v := 16) (by decide) ?_
  refine xr_irem (pc := 22) X (by decide) dL_act_22 ?_
  refine x_if (fun hcc10 => ?_) (fun hcc10 => ?_)
  · refine xr_tin (off := 65) (pc := 23) X 88 dL_act_23 (by rw [hcc10]; decide) (by rw [hcc10]; decide) (by rw [hcc10]; rfl) (by decide) ?_
    refine xr_iload_n (pc := 88) X (i := 2) 2 rfl rfl dL_act_88 ?_
    refine xr_iconst (pc := 89) X dL_act_89 (v := 5) (by decide) ?_
    refine xr_irem (pc := 90) X (by decide) dL_act_90 ?_
    refine xr_if_ne (pc := 91) X 112 (by decide) dL_act_91 (fun _ => ?_) (fun _ => ?_)
    · refine xr_aload_n (pc := 112) X (i := 0) 0 rfl rfl dL_act_112 ?_
      refine xr_bipush (pc := 113) X dL_act_113 (v := 9) (by decide) ?_
      refine xr_iload (pc := 115) X (i := 4) 3 rfl dL_act_115 ?_
      refine xr_iconst (pc := 117) X dL_act_117 (v := 1) (by decide) ?_
      refine xr_iload_n (pc := 118) X (i := 2) 2 rfl rfl dL_act_118 ?_
      refine xr_iconst (pc := 119) X dL_act_119 (v := 4) (by decide) ?_
      refine xr_idiv (pc := 120) X (by decide) dL_act_120 ?_
      refine xr_sipush (pc := 121) X dL_act_121 (v := 300) (by decide) ?_
      refine xr_irem (pc := 124) X (by decide) dL_act_124 ?_
      refine xr_iadd (pc := 125) X dL_act_125 ?_
      refine xr_iconst (pc := 126) X dL_act_126 (v := 0) (by decide) ?_
      refine xr_callSI (na := 5) (pc := 127) X [.ref (ad oo1), .int 9, .int zz5, .int (1 + ((zz1 / 4) - (zz1 / 4) / 300 * 300)), .int 0] (c_L_call Γ.2.1 hI hst oo1 hh1 9 zz5 (1 + ((zz1 / 4) - (zz1 / 4) / 300 * 300)) 0 σ2) (wG_S wm_5_23 wm_5_21 wm_5_22 wm_5_14) rfl rfl rfl (by decide +kernel) ⟨Nat.le_of_ble_eq_true rfl, Nat.le_of_ble_eq_true rfl⟩ rfl rfl (Nat.le_of_ble_eq_true rfl) ⟨(show _ ≤ 9 by omega), (show _ ≤ 54 by omega)⟩ dL_act_127 (fun zz7 σ6 => ?_)
      exact xr_iret (pc := 130) X (Nat.le_of_ble_eq_true rfl) (Nat.le_of_ble_eq_true rfl) dL_act_130
    refine xr_aload_n (pc := 94) X (i := 0) 0 rfl rfl dL_act_94 ?_
    refine xr_bipush (pc := 95) X dL_act_95 (v := 8) (by decide) ?_
    refine xr_iconst (pc := 97) X dL_act_97 (v := 1) (by decide) ?_
    refine xr_iload_n (pc := 98) X (i := 2) 2 rfl rfl dL_act_98 ?_
    refine xr_iconst (pc := 99) X dL_act_99 (v := 5) (by decide) ?_
    refine xr_idiv (pc := 100) X (by decide) dL_act_100 ?_
    refine xr_iconst (pc := 101) X dL_act_101 (v := 4) (by decide) ?_
    refine xr_irem (pc := 102) X (by decide) dL_act_102 ?_
    refine xr_iadd (pc := 103) X dL_act_103 ?_
    refine xr_iconst (pc := 104) X dL_act_104 (v := 0) (by decide) ?_
    refine xr_iconst (pc := 105) X dL_act_105 (v := 0) (by decide) ?_
    refine xr_callSI (na := 5) (pc := 106) X [.ref (ad oo1), .int 8, .int (1 + ((zz1 / 5) - (zz1 / 5) / 4 * 4)), .int 0, .int 0] (c_L_call Γ.2.1 hI hst oo1 hh1 8 (1 + ((zz1 / 5) - (zz1 / 5) / 4 * 4)) 0 0 σ2) (wG_S wm_5_23 wm_5_21 wm_5_22 wm_5_14) rfl rfl rfl (by decide +kernel) ⟨Nat.le_of_ble_eq_true rfl, Nat.le_of_ble_eq_true rfl⟩ rfl rfl (Nat.le_of_ble_eq_true rfl) ⟨(show _ ≤ 9 by omega), (show _ ≤ 54 by omega)⟩ dL_act_106 (fun zz9 σ8 => ?_)
    refine xr_goto (pc := 109) X 130 (by decide) dL_act_109 ?_
    exact xr_iret (pc := 130) X (Nat.le_of_ble_eq_true rfl) (Nat.le_of_ble_eq_true rfl) dL_act_130
  refine x_if (fun hcc13 => ?_) (fun hcc13 => ?_)
  · refine xr_tin (off := 108) (pc := 23) X 131 dL_act_23 (by rcases hcc13 with hq9 | hq9 | hq9 | hq9 <;> (rw [hq9]; decide)) (by rcases hcc13 with hq9 | hq9 | hq9 | hq9 <;> (rw [hq9]; decide)) (by rcases hcc13 with hq9 | hq9 | hq9 | hq9 <;> (rw [hq9]; rfl)) (by decide) ?_
    refine xr_aload_n (pc := 131) X (i := 0) 0 rfl rfl dL_act_131 ?_
    refine xr_bipush (pc := 132) X dL_act_132 (v := 9) (by decide) ?_
    refine xr_iload (pc := 134) X (i := 4) 3 rfl dL_act_134 ?_
    refine xr_iconst (pc := 136) X dL_act_136 (v := 1) (by decide) ?_
    refine xr_iload_n (pc := 137) X (i := 2) 2 rfl rfl dL_act_137 ?_
    refine xr_iconst (pc := 138) X dL_act_138 (v := 4) (by decide) ?_
    refine xr_idiv (pc := 139) X (by decide) dL_act_139 ?_
    refine xr_bipush (pc := 140) X dL_act_140 (v := 50) (by decide) ?_
    refine xr_irem (pc := 142) X (by decide) dL_act_142 ?_
    refine xr_iadd (pc := 143) X dL_act_143 ?_
    refine xr_iconst (pc := 144) X dL_act_144 (v := 0) (by decide) ?_
    refine xr_callSI (na := 5) (pc := 145) X [.ref (ad oo1), .int 9, .int zz5, .int (1 + ((zz1 / 4) - (zz1 / 4) / 50 * 50)), .int 0] (c_L_call Γ.2.1 hI hst oo1 hh1 9 zz5 (1 + ((zz1 / 4) - (zz1 / 4) / 50 * 50)) 0 σ2) (wG_S wm_5_23 wm_5_21 wm_5_22 wm_5_14) rfl rfl rfl (by decide +kernel) ⟨Nat.le_of_ble_eq_true rfl, Nat.le_of_ble_eq_true rfl⟩ rfl rfl (Nat.le_of_ble_eq_true rfl) ⟨(show _ ≤ 9 by omega), (show _ ≤ 54 by omega)⟩ dL_act_145 (fun zz12 σ11 => ?_)
    exact xr_iret (pc := 148) X (Nat.le_of_ble_eq_true rfl) (Nat.le_of_ble_eq_true rfl) dL_act_148
  refine x_if (fun hcc16 => ?_) (fun hcc16 => ?_)
  · refine xr_tin (off := 126) (pc := 23) X 149 dL_act_23 (by rcases hcc16 with hq9 | hq9 <;> (rw [hq9]; decide)) (by rcases hcc16 with hq9 | hq9 <;> (rw [hq9]; decide)) (by rcases hcc16 with hq9 | hq9 <;> (rw [hq9]; rfl)) (by decide) ?_
    refine xr_aload_n (pc := 149) X (i := 0) 0 rfl rfl dL_act_149 ?_
    refine xr_bipush (pc := 150) X dL_act_150 (v := 10) (by decide) ?_
    refine xr_iconst (pc := 152) X dL_act_152 (v := 1) (by decide) ?_
    refine xr_iload_n (pc := 153) X (i := 2) 2 rfl rfl dL_act_153 ?_
    refine xr_iconst (pc := 154) X dL_act_154 (v := 4) (by decide) ?_
    refine xr_idiv (pc := 155) X (by decide) dL_act_155 ?_
    refine xr_bipush (pc := 156) X dL_act_156 (v := 25) (by decide) ?_
    refine xr_irem (pc := 158) X (by decide) dL_act_158 ?_
    refine xr_iadd (pc := 159) X dL_act_159 ?_
    refine xr_iload (pc := 160) X (i := 4) 3 rfl dL_act_160 ?_
    refine xr_iconst (pc := 162) X dL_act_162 (v := 1) (by decide) ?_
    refine xr_iload_n (pc := 163) X (i := 2) 2 rfl rfl dL_act_163 ?_
    refine xr_bipush (pc := 164) X dL_act_164 (v := 100) (by decide) ?_
    refine xr_idiv (pc := 166) X (by decide) dL_act_166 ?_
    refine xr_bipush (pc := 167) X dL_act_167 (v := 60) (by decide) ?_
    refine xr_irem (pc := 169) X (by decide) dL_act_169 ?_
    refine xr_iadd (pc := 170) X dL_act_170 ?_
    refine xr_callSI (na := 5) (pc := 171) X [.ref (ad oo1), .int 10, .int (1 + ((zz1 / 4) - (zz1 / 4) / 25 * 25)), .int zz5, .int (1 + ((zz1 / 100) - (zz1 / 100) / 60 * 60))] (c_L_call Γ.2.1 hI hst oo1 hh1 10 (1 + ((zz1 / 4) - (zz1 / 4) / 25 * 25)) zz5 (1 + ((zz1 / 100) - (zz1 / 100) / 60 * 60)) σ2) (wG_S wm_5_23 wm_5_21 wm_5_22 wm_5_14) rfl rfl rfl (by decide +kernel) ⟨Nat.le_of_ble_eq_true rfl, Nat.le_of_ble_eq_true rfl⟩ rfl rfl (Nat.le_of_ble_eq_true rfl) ⟨(show _ ≤ 9 by omega), (show _ ≤ 54 by omega)⟩ dL_act_171 (fun zz15 σ14 => ?_)
    exact xr_iret (pc := 174) X (Nat.le_of_ble_eq_true rfl) (Nat.le_of_ble_eq_true rfl) dL_act_174
  refine x_if (fun hcc21 => ?_) (fun hcc21 => ?_)
  · refine xr_tin (off := 152) (pc := 23) X 175 dL_act_23 (by rw [hcc21]; decide) (by rw [hcc21]; decide) (by rw [hcc21]; rfl) (by decide) ?_
    refine xr_aload_n (pc := 175) X (i := 0) 0 rfl rfl dL_act_175 ?_
    refine xr_iload (pc := 176) X (i := 4) 3 rfl dL_act_176 ?_
    refine xr_iload_n (pc := 178) X (i := 2) 2 rfl rfl dL_act_178 ?_
    refine xr_iconst (pc := 179) X dL_act_179 (v := 4) (by decide) ?_
    refine xr_idiv (pc := 180) X (by decide) dL_act_180 ?_
    refine xr_iconst (pc := 181) X dL_act_181 (v := 2) (by decide) ?_
    refine xr_irem (pc := 182) X (by decide) dL_act_182 ?_
    refine xr_iconst (pc := 183) X dL_act_183 (v := 1) (by decide) ?_
    refine xr_icmp_ne (pc := 184) X 191 (by decide) dL_act_184 (fun _ => ?_) (fun _ => ?_)
    · refine xr_iconst (pc := 191) X dL_act_191 (v := 0) (by decide) ?_
      refine xr_callSWI (na := 3) (pc := 192) X [.ref (ad oo1), .int zz5, .int 0] (c_L_holds Γ.2.1 hI hst oo1 hh1 zz5 0 σ2) (wG_SW wm_21_22 wm_21_20 wm_21_21 wm_5_14) rfl rfl rfl (by decide +kernel) ⟨Nat.le_of_ble_eq_true rfl, Nat.le_of_ble_eq_true rfl⟩ rfl rfl (Nat.le_of_ble_eq_true rfl) ⟨(show _ ≤ 9 by omega), (show _ ≤ 54 by omega)⟩ dL_act_192 (fun zz18 σ17 => ?_)
      exact xr_iret (pc := 195) X (Nat.le_of_ble_eq_true rfl) (Nat.le_of_ble_eq_true rfl) dL_act_195
    refine xr_iconst (pc := 187) X dL_act_187 (v := 1) (by decide) ?_
    refine xr_goto (pc := 188) X 192 (by decide) dL_act_188 ?_
    refine xr_callSWI (na := 3) (pc := 192) X [.ref (ad oo1), .int zz5, .int 1] (c_L_holds Γ.2.1 hI hst oo1 hh1 zz5 1 σ2) (wG_SW wm_21_22 wm_21_20 wm_21_21 wm_5_14) rfl rfl rfl (by decide +kernel) ⟨Nat.le_of_ble_eq_true rfl, Nat.le_of_ble_eq_true rfl⟩ rfl rfl (Nat.le_of_ble_eq_true rfl) ⟨(show _ ≤ 9 by omega), (show _ ≤ 54 by omega)⟩ dL_act_192 (fun zz20 σ19 => ?_)
    exact xr_iret (pc := 195) X (Nat.le_of_ble_eq_true rfl) (Nat.le_of_ble_eq_true rfl) dL_act_195
  refine x_if (fun hcc24 => ?_) (fun hcc24 => ?_)
  · refine xr_tin (off := 173) (pc := 23) X 196 dL_act_23 (by rw [hcc24]; decide) (by rw [hcc24]; decide) (by rw [hcc24]; rfl) (by decide) ?_
    refine xr_aload_n (pc := 196) X (i := 0) 0 rfl rfl dL_act_196 ?_
    refine xr_bipush (pc := 197) X dL_act_197 (v := 11) (by decide) ?_
    refine xr_iload (pc := 199) X (i := 4) 3 rfl dL_act_199 ?_
    refine xr_iconst (pc := 201) X dL_act_201 (v := 0) (by decide) ?_
    refine xr_iconst (pc := 202) X dL_act_202 (v := 0) (by decide) ?_
    refine xr_callSI (na := 5) (pc := 203) X [.ref (ad oo1), .int 11, .int zz5, .int 0, .int 0] (c_L_call Γ.2.1 hI hst oo1 hh1 11 zz5 0 0 σ2) (wG_S wm_5_23 wm_5_21 wm_5_22 wm_5_14) rfl rfl rfl (by decide +kernel) ⟨Nat.le_of_ble_eq_true rfl, Nat.le_of_ble_eq_true rfl⟩ rfl rfl (Nat.le_of_ble_eq_true rfl) ⟨(show _ ≤ 9 by omega), (show _ ≤ 54 by omega)⟩ dL_act_203 (fun zz23 σ22 => ?_)
    exact xr_iret (pc := 206) X (Nat.le_of_ble_eq_true rfl) (Nat.le_of_ble_eq_true rfl) dL_act_206
  refine x_if (fun hcc27 => ?_) (fun hcc27 => ?_)
  · refine xr_tin (off := 184) (pc := 23) X 207 dL_act_23 (by rcases hcc27 with hq9 | hq9 <;> (rw [hq9]; decide)) (by rcases hcc27 with hq9 | hq9 <;> (rw [hq9]; decide)) (by rcases hcc27 with hq9 | hq9 <;> (rw [hq9]; rfl)) (by decide) ?_
    refine xr_aload_n (pc := 207) X (i := 0) 0 rfl rfl dL_act_207 ?_
    refine xr_bipush (pc := 208) X dL_act_208 (v := 13) (by decide) ?_
    refine xr_iload_n (pc := 210) X (i := 2) 2 rfl rfl dL_act_210 ?_
    refine xr_iconst (pc := 211) X dL_act_211 (v := 4) (by decide) ?_
    refine xr_irem (pc := 212) X (by decide) dL_act_212 ?_
    refine xr_iload_n (pc := 213) X (i := 2) 2 rfl rfl dL_act_213 ?_
    refine xr_iconst (pc := 214) X dL_act_214 (v := 4) (by decide) ?_
    refine xr_idiv (pc := 215) X (by decide) dL_act_215 ?_
    refine xr_bipush (pc := 216) X dL_act_216 (v := 22) (by decide) ?_
    refine xr_irem (pc := 218) X (by decide) dL_act_218 ?_
    refine xr_iconst (pc := 219) X dL_act_219 (v := 0) (by decide) ?_
    refine xr_callSI (na := 5) (pc := 220) X [.ref (ad oo1), .int 13, .int (zz1 - zz1 / 4 * 4), .int ((zz1 / 4) - (zz1 / 4) / 22 * 22), .int 0] (c_L_call Γ.2.1 hI hst oo1 hh1 13 (zz1 - zz1 / 4 * 4) ((zz1 / 4) - (zz1 / 4) / 22 * 22) 0 σ2) (wG_S wm_5_23 wm_5_21 wm_5_22 wm_5_14) rfl rfl rfl (by decide +kernel) ⟨Nat.le_of_ble_eq_true rfl, Nat.le_of_ble_eq_true rfl⟩ rfl rfl (Nat.le_of_ble_eq_true rfl) ⟨(show _ ≤ 9 by omega), (show _ ≤ 54 by omega)⟩ dL_act_220 (fun zz26 σ25 => ?_)
    exact xr_iret (pc := 223) X (Nat.le_of_ble_eq_true rfl) (Nat.le_of_ble_eq_true rfl) dL_act_223
  refine x_if (fun hcc32 => ?_) (fun hcc32 => ?_)
  · refine xr_tin (off := 201) (pc := 23) X 224 dL_act_23 (by rw [hcc32]; decide) (by rw [hcc32]; decide) (by rw [hcc32]; rfl) (by decide) ?_
    refine xr_aload_n (pc := 224) X (i := 0) 0 rfl rfl dL_act_224 ?_
    refine xr_iconst (pc := 225) X dL_act_225 (v := 2) (by decide) ?_
    refine xr_iconst (pc := 226) X dL_act_226 (v := 1) (by decide) ?_
    refine xr_iconst (pc := 227) X dL_act_227 (v := 0) (by decide) ?_
    refine xr_iconst (pc := 228) X dL_act_228 (v := 0) (by decide) ?_
    refine xr_callSI (na := 5) (pc := 229) X [.ref (ad oo1), .int 2, .int 1, .int 0, .int 0] (c_L_call Γ.2.1 hI hst oo1 hh1 2 1 0 0 σ2) (wG_S wm_5_23 wm_5_21 wm_5_22 wm_5_14) rfl rfl rfl (by decide +kernel) ⟨Nat.le_of_ble_eq_true rfl, Nat.le_of_ble_eq_true rfl⟩ rfl rfl (Nat.le_of_ble_eq_true rfl) ⟨(show _ ≤ 9 by omega), (show _ ≤ 54 by omega)⟩ dL_act_229 (fun zz29 σ28 => ?_)
    refine xr_iconst (pc := 232) X dL_act_232 (v := 3) (by decide) ?_
    refine xr_icmp_ge (pc := 233) X 240 (by decide) dL_act_233 (fun _ => ?_) (fun _ => ?_)
    · refine xr_aload_n (pc := 240) X (i := 0) 0 rfl rfl dL_act_240 ?_
      refine xr_bipush (pc := 241) X dL_act_241 (v := 14) (by decide) ?_
      refine xr_iconst (pc := 243) X dL_act_243 (v := 0) (by decide) ?_
      refine xr_iconst (pc := 244) X dL_act_244 (v := 0) (by decide) ?_
      refine xr_iconst (pc := 245) X dL_act_245 (v := 0) (by decide) ?_
      refine xr_callSI (na := 5) (pc := 246) X [.ref (ad oo1), .int 14, .int 0, .int 0, .int 0] (c_L_call Γ.2.1 hI hst oo1 hh1 14 0 0 0 σ28) (wG_S wm_5_23 wm_5_21 wm_5_22 wm_5_14) rfl rfl rfl (by decide +kernel) ⟨Nat.le_of_ble_eq_true rfl, Nat.le_of_ble_eq_true rfl⟩ rfl rfl (Nat.le_of_ble_eq_true rfl) ⟨(show _ ≤ 9 by omega), (show _ ≤ 54 by omega)⟩ dL_act_246 (fun zz31 σ30 => ?_)
      exact xr_iret (pc := 249) X (Nat.le_of_ble_eq_true rfl) (Nat.le_of_ble_eq_true rfl) dL_act_249
    refine xr_iconst (pc := 236) X dL_act_236 (v := (-1)) (by decide) ?_
    refine xr_goto (pc := 237) X 249 (by decide) dL_act_237 ?_
    exact xr_iret (pc := 249) X (Nat.le_of_ble_eq_true rfl) (Nat.le_of_ble_eq_true rfl) dL_act_249
  refine x_if (fun hcc37 => ?_) (fun hcc37 => ?_)
  · refine xr_tin (off := 227) (pc := 23) X 250 dL_act_23 (by rw [hcc37]; decide) (by rw [hcc37]; decide) (by rw [hcc37]; rfl) (by decide) ?_
    refine xr_iload_n (pc := 250) X (i := 2) 2 rfl rfl dL_act_250 ?_
    refine xr_iconst (pc := 251) X dL_act_251 (v := 2) (by decide) ?_
    refine xr_irem (pc := 252) X (by decide) dL_act_252 ?_
    refine xr_if_ne (pc := 253) X 272 (by decide) dL_act_253 (fun _ => ?_) (fun _ => ?_)
    · refine xr_aload_n (pc := 272) X (i := 0) 0 rfl rfl dL_act_272 ?_
      refine xr_bipush (pc := 273) X dL_act_273 (v := 20) (by decide) ?_
      refine xr_iload_n (pc := 275) X (i := 2) 2 rfl rfl dL_act_275 ?_
      refine xr_iconst (pc := 276) X dL_act_276 (v := 2) (by decide) ?_
      refine xr_idiv (pc := 277) X (by decide) dL_act_277 ?_
      refine xr_iconst (pc := 278) X dL_act_278 (v := 2) (by decide) ?_
      refine xr_irem (pc := 279) X (by decide) dL_act_279 ?_
      refine xr_iconst (pc := 280) X dL_act_280 (v := 0) (by decide) ?_
      refine xr_iconst (pc := 281) X dL_act_281 (v := 0) (by decide) ?_
      refine xr_callSI (na := 5) (pc := 282) X [.ref (ad oo1), .int 20, .int ((zz1 / 2) - (zz1 / 2) / 2 * 2), .int 0, .int 0] (c_L_call Γ.2.1 hI hst oo1 hh1 20 ((zz1 / 2) - (zz1 / 2) / 2 * 2) 0 0 σ2) (wG_S wm_5_23 wm_5_21 wm_5_22 wm_5_14) rfl rfl rfl (by decide +kernel) ⟨Nat.le_of_ble_eq_true rfl, Nat.le_of_ble_eq_true rfl⟩ rfl rfl (Nat.le_of_ble_eq_true rfl) ⟨(show _ ≤ 9 by omega), (show _ ≤ 54 by omega)⟩ dL_act_282 (fun zz34 σ33 => ?_)
      exact xr_iret (pc := 285) X (Nat.le_of_ble_eq_true rfl) (Nat.le_of_ble_eq_true rfl) dL_act_285
    refine xr_aload_n (pc := 256) X (i := 0) 0 rfl rfl dL_act_256 ?_
    refine xr_bipush (pc := 257) X dL_act_257 (v := 19) (by decide) ?_
    refine xr_iload_n (pc := 259) X (i := 2) 2 rfl rfl dL_act_259 ?_
    refine xr_iconst (pc := 260) X dL_act_260 (v := 2) (by decide) ?_
    refine xr_idiv (pc := 261) X (by decide) dL_act_261 ?_
    refine xr_iconst (pc := 262) X dL_act_262 (v := 2) (by decide) ?_
    refine xr_irem (pc := 263) X (by decide) dL_act_263 ?_
    refine xr_iconst (pc := 264) X dL_act_264 (v := 0) (by decide) ?_
    refine xr_iconst (pc := 265) X dL_act_265 (v := 0) (by decide) ?_
    refine xr_callSI (na := 5) (pc := 266) X [.ref (ad oo1), .int 19, .int ((zz1 / 2) - (zz1 / 2) / 2 * 2), .int 0, .int 0] (c_L_call Γ.2.1 hI hst oo1 hh1 19 ((zz1 / 2) - (zz1 / 2) / 2 * 2) 0 0 σ2) (wG_S wm_5_23 wm_5_21 wm_5_22 wm_5_14) rfl rfl rfl (by decide +kernel) ⟨Nat.le_of_ble_eq_true rfl, Nat.le_of_ble_eq_true rfl⟩ rfl rfl (Nat.le_of_ble_eq_true rfl) ⟨(show _ ≤ 9 by omega), (show _ ≤ 54 by omega)⟩ dL_act_266 (fun zz36 σ35 => ?_)
    refine xr_goto (pc := 269) X 285 (by decide) dL_act_269 ?_
    exact xr_iret (pc := 285) X (Nat.le_of_ble_eq_true rfl) (Nat.le_of_ble_eq_true rfl) dL_act_285
  refine xr_tout (pc := 23) X 286 dL_act_23 (by have g0 := xne hcc10 (j := 0) (by decide); have g1 := xne (fun e => hcc13 (Or.inl e)) (j := 1) (by decide); have g2 := xne (fun e => hcc13 (Or.inr (Or.inl e))) (j := 2) (by decide); have g3 := xne (fun e => hcc13 (Or.inr (Or.inr (Or.inl e)))) (j := 3) (by decide); have g4 := xne (fun e => hcc13 (Or.inr (Or.inr (Or.inr (e))))) (j := 4) (by decide); have g5 := xne (fun e => hcc16 (Or.inl e)) (j := 5) (by decide); have g6 := xne (fun e => hcc16 (Or.inr (e))) (j := 6) (by decide); have g7 := xne hcc21 (j := 7) (by decide); have g8 := xne hcc24 (j := 8) (by decide); have g9 := xne (fun e => hcc27 (Or.inl e)) (j := 9) (by decide); have g10 := xne (fun e => hcc27 (Or.inr (e))) (j := 10) (by decide); have g11 := xne hcc32 (j := 11) (by decide); have g12 := xne hcc37 (j := 12) (by decide); omega) (by decide) ?_
  refine xr_aload_n (pc := 286) X (i := 0) 0 rfl rfl dL_act_286 ?_
  refine xr_bipush (pc := 287) X dL_act_287 (v := 12) (by decide) ?_
  refine xr_iconst (pc := 289) X dL_act_289 (v := 1) (by decide) ?_
  refine xr_iload_n (pc := 290) X (i := 2) 2 rfl rfl dL_act_290 ?_
  refine xr_bipush (pc := 291) X dL_act_291 (v := 12) (by decide) ?_
  refine xr_irem (pc := 293) X (by decide) dL_act_293 ?_
  refine xr_iadd (pc := 294) X dL_act_294 ?_
  refine xr_iconst (pc := 295) X dL_act_295 (v := 0) (by decide) ?_
  refine xr_iconst (pc := 296) X dL_act_296 (v := 0) (by decide) ?_
  refine xr_callSI (na := 5) (pc := 297) X [.ref (ad oo1), .int 12, .int (1 + (zz1 - zz1 / 12 * 12)), .int 0, .int 0] (c_L_call Γ.2.1 hI hst oo1 hh1 12 (1 + (zz1 - zz1 / 12 * 12)) 0 0 σ2) (wG_S wm_5_23 wm_5_21 wm_5_22 wm_5_14) rfl rfl rfl (by decide +kernel) ⟨Nat.le_of_ble_eq_true rfl, Nat.le_of_ble_eq_true rfl⟩ rfl rfl (Nat.le_of_ble_eq_true rfl) ⟨(show _ ≤ 9 by omega), (show _ ≤ 54 by omega)⟩ dL_act_297 (fun zz39 σ38 => ?_)
  exact xr_iret (pc := 300) X (Nat.le_of_ble_eq_true rfl) (Nat.le_of_ble_eq_true rfl) dL_act_300
