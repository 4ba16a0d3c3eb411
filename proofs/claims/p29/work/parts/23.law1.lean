def L_law (oo1 oo2 LL : Nat) (xs : Nat → Int32) (tt : Int32) : Nat → Int32 → Int32 → xS → Option (Int32 × xS)
  | 0, _, _, _ => none
  | nn + 1, zz, zw, σ => if tt ≤ zw then (if zz = 1 then (some ((1 : Int32), σ)) else none)
 else (if zz = 0 then (if zz = 1 then (some ((1 : Int32), σ)) else none)
 else (xbI (F_L_cell LL xs ((1 + zw)) σ) (fun (zz4 : Int32) (σ3 : xS) => xbI (F_L_act oo1 zz4 σ3) (fun (zz6 : Int32) (σ5 : xS) => xbI (F_L_refuses oo2 (zz4 - zz4 / 100000 * 100000) σ5) (fun (zz8 : Int32) (σ7 : xS) => if zz8 = 0 then (xlet (zw + 1) (fun (zz9 : Int32) => L_law oo1 oo2 LL xs tt nn 0 zz9 σ7))
 else (xbI (F_L_act oo2 zz4 σ7) (fun (zz11 : Int32) (σ10 : xS) => if ¬ zz11 = zz6 then (xlet (zw + 1) (fun (zz12 : Int32) => L_law oo1 oo2 LL xs tt nn 0 zz12 σ10))
 else (xbI (F_L_refuses oo2 (zz4 - zz4 / 1000 * 1000) σ10) (fun (zz14 : Int32) (σ13 : xS) => if zz14 = 0 then (xlet (zw + 1) (fun (zz15 : Int32) => L_law oo1 oo2 LL xs tt nn 0 zz15 σ13))
 else (xbI (F_L_alike oo1 oo2 (zz4 - zz4 / 5000 * 5000) σ13) (fun (zz17 : Int32) (σ16 : xS) => if zz17 = 0 then (xlet (zw + 1) (fun (zz18 : Int32) => L_law oo1 oo2 LL xs tt nn 0 zz18 σ16))
 else (xjn (fun (σ19 : xS) => xbI (F_L_done oo1 oo2 (zz4 / 7) σ19) (fun (zz29 : Int32) (σ28 : xS) => if zz29 = 0 then (xlet (zw + 1) (fun (zz30 : Int32) => L_law oo1 oo2 LL xs tt nn 0 zz30 σ28))
 else (xbI (F_L_there oo1 oo2 (zz4 / 11) σ28) (fun (zz32 : Int32) (σ31 : xS) => if zz32 = 0 then (xlet (zw + 1) (fun (zz33 : Int32) => L_law oo1 oo2 LL xs tt nn 0 zz33 σ31))
 else (xlet (zw + 1) (fun (zz34 : Int32) => L_law oo1 oo2 LL xs tt nn 1 zz34 σ31))))))
 (fun (KK20 : xS → Option (Int32 × xS)) => if ¬ (zw - zw / 2 * 2) = 0 then (xbI (F_L_sound oo2 σ16) (fun (zz23 : Int32) (σ22 : xS) => if zz23 = 0 then (xlet (zw + 1) (fun (zz24 : Int32) => L_law oo1 oo2 LL xs tt nn 0 zz24 σ22))
 else (KK20 σ22)))
 else (xbI (F_L_sound oo1 σ16) (fun (zz26 : Int32) (σ25 : xS) => if zz26 = 0 then (xlet (zw + 1) (fun (zz27 : Int32) => L_law oo1 oo2 LL xs tt nn 0 zz27 σ25))
 else (KK20 σ25))))))))))))))))
set_option maxHeartbeats 40000000 in
set_option maxRecDepth 100000 in
theorem c_law (Γ : xG) {D : va_G} {ad : Nat → Nat} {N : Nat} {Sh : xSh} {c0 : Cond} {rm : Room} (hst : Γ.2.1.stackTraces = false) (hI : ∀ i j, i < N → j < N → ad i = ad j → i = j) (hnL : Γ.2.2.2.2.2.2.2.2.2.2.1 = 8) (hrm : rm = room_1) (X : xC Γ cL_law (c0 :: wG) RL (some .boolean) rm D ad N) (bb LL : Nat) (xs : Nat → Int32) (hSC : xSC Γ bb LL xs) (hEnd : xEnd Γ bb) (oo1 : Nat) (hh1 : xIs5 D ad N Sh oo1) (oo2 : Nat) (hh2 : xIs5 D ad N Sh oo2) (tt : Int32) :
  ∀ (nn : Nat) (zz zw : Int32) (σ : xS) (kk0 nn0 : Nat), kk0 + 1769 * nn ≤ 670000 → nn0 + 10614 * nn ≤ 7000000 → xM Γ D ad N Sh (xQL Γ) kk0 nn0 (L_law oo1 oo2 LL xs tt nn zz zw σ) σ 34 [(0, .ref bb), (1, .ref (ad oo1)), (2, .ref (ad oo2)), (3, .int tt), (4, .int zz), (5, .int zw)] [] := by
  subst hrm
  intro nn
  induction nn with
  | zero => intro zz zw σ kk0 nn0 _ _; exact xM_none
  | succ nn ihh =>
    intro zz zw σ kk0 nn0 hb1 hb2
    rw [L_law]
    refine xr_iload (pc := 34) X (i := 5) 5 rfl dL_law_34 ?_
    refine xr_iload_n (pc := 36) X (i := 3) 3 rfl rfl dL_law_36 ?_
    refine xr_icmp_ge (pc := 37) X 176 (by decide) dL_law_37 (fun _ => ?_) (fun _ => ?_)
    · refine xr_iload (pc := 176) X (i := 4) 4 rfl dL_law_176 ?_
      refine x_gd (fun hzz1 => ?_)
      subst hzz1
      exact xr_lawret X hEnd (by omega) (by omega) dL_law_178
    refine xr_iload (pc := 40) X (i := 4) 4 rfl dL_law_40 ?_
    refine xr_if_eq (pc := 42) X 176 (by decide) dL_law_42 (fun _ => ?_) (fun _ => ?_)
    · refine xr_iload (pc := 176) X (i := 4) 4 rfl dL_law_176 ?_
      refine x_gd (fun hzz2 => ?_)
      subst hzz2
      exact xr_lawret X hEnd (by omega) (by omega) dL_law_178
    refine xr_aload_n (pc := 45) X (i := 0) 0 rfl rfl dL_law_45 ?_
    refine xr_iconst (pc := 46) X dL_law_46 (v := 1) (by decide) ?_
    refine xr_iload (pc := 47) X (i := 5) 5 rfl dL_law_47 ?_
    refine xr_iadd (pc := 49) X dL_law_49 ?_
    refine xr_callSS (na := 2) (pc := 50) X hSC [.ref bb, .int (1 + zw)] (c_L_cell Γ.2.1 hI bb LL xs (1 + zw) σ) (wG_S wm_5_15 wm_5_12 wm_5_13 wm_5_14) rfl rfl rfl (by decide +kernel) ⟨Nat.le_of_ble_eq_true rfl, Nat.le_of_ble_eq_true rfl⟩ rfl rfl (Nat.le_of_ble_eq_true rfl) ⟨(show _ ≤ 680937 by omega), (show _ ≤ 7058658 by omega)⟩ dL_law_50 (fun zz4 σ3 => ?_)
    refine xr_istore (pc := 53) X (i := 6) (lv2 := [(0, .ref bb), (1, .ref (ad oo1)), (2, .ref (ad oo2)), (3, .int tt), (5, .int zw), (6, .int zz4)]) [1, 2, 3, 4, 6, 0] (Nat.le_of_ble_eq_true rfl) hnL rfl dL_law_53 ?_
    refine xr_aload_n (pc := 55) X (i := 1) 1 rfl rfl dL_law_55 ?_
    refine xr_iload (pc := 56) X (i := 6) 5 rfl dL_law_56 ?_
    refine xr_callSI (na := 2) (pc := 58) X [.ref (ad oo1), .int zz4] (c_L_act Γ.2.1 hI hst oo1 hh1 zz4 σ3) (wG_S wm_5_20 wm_5_18 wm_5_19 wm_5_14) rfl rfl rfl (by decide +kernel) ⟨Nat.le_of_ble_eq_true rfl, Nat.le_of_ble_eq_true rfl⟩ rfl rfl (Nat.le_of_ble_eq_true rfl) ⟨(show _ ≤ 680937 by omega), (show _ ≤ 7058658 by omega)⟩ dL_law_58 (fun zz6 σ5 => ?_)
    refine xr_istore (pc := 61) X (i := 7) (lv2 := [(0, .ref bb), (1, .ref (ad oo1)), (2, .ref (ad oo2)), (3, .int tt), (5, .int zw), (6, .int zz4), (7, .int zz6)]) [1, 2, 3, 4, 5, 6, 0] (Nat.le_of_ble_eq_true rfl) hnL rfl dL_law_61 ?_
    refine xr_aload_n (pc := 63) X (i := 2) 2 rfl rfl dL_law_63 ?_
    refine xr_iload (pc := 64) X (i := 6) 5 rfl dL_law_64 ?_
    refine xr_ldc (pc := 66) X dL_law_66 (List.mem_cons_of_mem _ wm_1_3) ?_
    refine xr_irem (pc := 68) X (by decide) dL_law_68 ?_
    refine xr_callSI (na := 2) (pc := 69) X [.ref (ad oo2), .int (zz4 - zz4 / 100000 * 100000)] (c_L_refuses Γ.2.1 hI hst oo2 hh2 (zz4 - zz4 / 100000 * 100000) σ5) (wG_S wm_22_5 wm_22_3 wm_22_4 wm_5_14) rfl rfl rfl (by decide +kernel) ⟨Nat.le_of_ble_eq_true rfl, Nat.le_of_ble_eq_true rfl⟩ rfl rfl (Nat.le_of_ble_eq_true rfl) ⟨(show _ ≤ 680937 by omega), (show _ ≤ 7058658 by omega)⟩ dL_law_69 (fun zz8 σ7 => ?_)
    refine xr_if_eq (pc := 72) X 167 (by decide) dL_law_72 (fun _ => ?_) (fun _ => ?_)
    · refine xr_iconst (pc := 167) X dL_law_167 (v := 0) (by decide) ?_
      refine xr_istore (pc := 168) X (i := 4) (lv2 := [(0, .ref bb), (1, .ref (ad oo1)), (2, .ref (ad oo2)), (3, .int tt), (4, .int 0), (5, .int zw)]) [1, 2, 3, 4, 0, 5] (Nat.le_of_ble_eq_true rfl) hnL rfl dL_law_168 ?_
      refine xr_iinc (pc := 170) X (i := 5) (j := 5) [1, 2, 3, 4, 5, 0] (Nat.le_of_ble_eq_true rfl) hnL rfl rfl (fun zz9 => [(0, .ref bb), (1, .ref (ad oo1)), (2, .ref (ad oo2)), (3, .int tt), (4, .int 0), (5, .int zz9)]) (fun _ => rfl) dL_law_170 (fun zz9 => ?_)
      refine xr_goto (pc := 173) X 34 (by decide) dL_law_173 ?_
      exact x_wid (k2 := (kk0 + 120)) (n2 := (nn0 + 720)) (by omega) (by omega) (ihh _ _ _ (kk0 + 120) (nn0 + 720) (by omega) (by omega))
    refine xr_aload_n (pc := 75) X (i := 2) 2 rfl rfl dL_law_75 ?_
    refine xr_iload (pc := 76) X (i := 6) 5 rfl dL_law_76 ?_
    refine xr_callSI (na := 2) (pc := 78) X [.ref (ad oo2), .int zz4] (c_L_act Γ.2.1 hI hst oo2 hh2 zz4 σ7) (wG_S wm_5_20 wm_5_18 wm_5_19 wm_5_14) rfl rfl rfl (by decide +kernel) ⟨Nat.le_of_ble_eq_true rfl, Nat.le_of_ble_eq_true rfl⟩ rfl rfl (Nat.le_of_ble_eq_true rfl) ⟨(show _ ≤ 680937 by omega), (show _ ≤ 7058658 by omega)⟩ dL_law_78 (fun zz11 σ10 => ?_)
    refine xr_iload (pc := 81) X (i := 7) 6 rfl dL_law_81 ?_
    refine xr_icmp_ne (pc := 83) X 167 (by decide) dL_law_83 (fun _ => ?_) (fun _ => ?_)
    · refine xr_iconst (pc := 167) X dL_law_167 (v := 0) (by decide) ?_
      refine xr_istore (pc := 168) X (i := 4) (lv2 := [(0, .ref bb), (1, .ref (ad oo1)), (2, .ref (ad oo2)), (3, .int tt), (4, .int 0), (5, .int zw)]) [1, 2, 3, 4, 0, 5] (Nat.le_of_ble_eq_true rfl) hnL rfl dL_law_168 ?_
      refine xr_iinc (pc := 170) X (i := 5) (j := 5) [1, 2, 3, 4, 5, 0] (Nat.le_of_ble_eq_true rfl) hnL rfl rfl (fun zz12 => [(0, .ref bb), (1, .ref (ad oo1)), (2, .ref (ad oo2)), (3, .int tt), (4, .int 0), (5, .int zz12)]) (fun _ => rfl) dL_law_170 (fun zz12 => ?_)
      refine xr_goto (pc := 173) X 34 (by decide) dL_law_173 ?_
      exact x_wid (k2 := (kk0 + 129)) (n2 := (nn0 + 774)) (by omega) (by omega) (ihh _ _ _ (kk0 + 129) (nn0 + 774) (by omega) (by omega))
    refine xr_aload_n (pc := 86) X (i := 2) 2 rfl rfl dL_law_86 ?_
    refine xr_iload (pc := 87) X (i := 6) 5 rfl dL_law_87 ?_
    refine xr_sipush (pc := 89) X dL_law_89 (v := 1000) (by decide) ?_
    refine xr_irem (pc := 92) X (by decide) dL_law_92 ?_
    refine xr_callSI (na := 2) (pc := 93) X [.ref (ad oo2), .int (zz4 - zz4 / 1000 * 1000)] (c_L_refuses Γ.2.1 hI hst oo2 hh2 (zz4 - zz4 / 1000 * 1000) σ10) (wG_S wm_22_5 wm_22_3 wm_22_4 wm_5_14) rfl rfl rfl (by decide +kernel) ⟨Nat.le_of_ble_eq_true rfl, Nat.le_of_ble_eq_true rfl⟩ rfl rfl (Nat.le_of_ble_eq_true rfl) ⟨(show _ ≤ 680937 by omega), (show _ ≤ 7058658 by omega)⟩ dL_law_93 (fun zz14 σ13 => ?_)
    refine xr_if_eq (pc := 96) X 167 (by decide) dL_law_96 (fun _ => ?_) (fun _ => ?_)
    · refine xr_iconst (pc := 167) X dL_law_167 (v := 0) (by decide) ?_
      refine xr_istore (pc := 168) X (i := 4) (lv2 := [(0, .ref bb), (1, .ref (ad oo1)), (2, .ref (ad oo2)), (3, .int tt), (4, .int 0), (5, .int zw)]) [1, 2, 3, 4, 0, 5] (Nat.le_of_ble_eq_true rfl) hnL rfl dL_law_168 ?_
      refine xr_iinc (pc := 170) X (i := 5) (j := 5) [1, 2, 3, 4, 5, 0] (Nat.le_of_ble_eq_true rfl) hnL rfl rfl (fun zz15 => [(0, .ref bb), (1, .ref (ad oo1)), (2, .ref (ad oo2)), (3, .int tt), (4, .int 0), (5, .int zz15)]) (fun _ => rfl) dL_law_170 (fun zz15 => ?_)
      refine xr_goto (pc := 173) X 34 (by decide) dL_law_173 ?_
      exact x_wid (k2 := (kk0 + 240)) (n2 := (nn0 + 1440)) (by omega) (by omega) (ihh _ _ _ (kk0 + 240) (nn0 + 1440) (by omega) (by omega))
    refine xr_aload_n (pc := 99) X (i := 1) 1 rfl rfl dL_law_99 ?_
    refine xr_aload_n (pc := 100) X (i := 2) 2 rfl rfl dL_law_100 ?_
    refine xr_iload (pc := 101) X (i := 6) 5 rfl dL_law_101 ?_
    refine xr_sipush (pc := 103) X dL_law_103 (v := 5000) (by decide) ?_
    refine xr_irem (pc := 106) X (by decide) dL_law_106 ?_
    refine xr_callSI (na := 3) (pc := 107) X [.ref (ad oo1), .ref (ad oo2), .int (zz4 - zz4 / 5000 * 5000)] (c_L_alike Γ.2.1 hI hst oo1 hh1 oo2 hh2 (zz4 - zz4 / 5000 * 5000) σ13) (wG_S wm_23_11 wm_23_9 wm_23_10 wm_5_14) rfl rfl rfl (by decide +kernel) ⟨Nat.le_of_ble_eq_true rfl, Nat.le_of_ble_eq_true rfl⟩ rfl rfl (Nat.le_of_ble_eq_true rfl) ⟨(show _ ≤ 680937 by omega), (show _ ≤ 7058658 by omega)⟩ dL_law_107 (fun zz17 σ16 => ?_)
    refine xr_if_eq (pc := 110) X 167 (by decide) dL_law_110 (fun _ => ?_) (fun _ => ?_)
    · refine xr_iconst (pc := 167) X dL_law_167 (v := 0) (by decide) ?_
      refine xr_istore (pc := 168) X (i := 4) (lv2 := [(0, .ref bb), (1, .ref (ad oo1)), (2, .ref (ad oo2)), (3, .int tt), (4, .int 0), (5, .int zw)]) [1, 2, 3, 4, 0, 5] (Nat.le_of_ble_eq_true rfl) hnL rfl dL_law_168 ?_
      refine xr_iinc (pc := 170) X (i := 5) (j := 5) [1, 2, 3, 4, 5, 0] (Nat.le_of_ble_eq_true rfl) hnL rfl rfl (fun zz18 => [(0, .ref bb), (1, .ref (ad oo1)), (2, .ref (ad oo2)), (3, .int tt), (4, .int 0), (5, .int zz18)]) (fun _ => rfl) dL_law_170 (fun zz18 => ?_)
      refine xr_goto (pc := 173) X 34 (by decide) dL_law_173 ?_
      exact x_wid (k2 := (kk0 + 638)) (n2 := (nn0 + 3828)) (by omega) (by omega) (ihh _ _ _ (kk0 + 638) (nn0 + 3828) (by omega) (by omega))
    refine xr_iload (pc := 113) X (i := 5) 4 rfl dL_law_113 ?_
    refine xr_iconst (pc := 115) X dL_law_115 (v := 2) (by decide) ?_
    refine xr_irem (pc := 116) X (by decide) dL_law_116 ?_
    refine x_jn (fun (KK20 : xS → Option (Int32 × xS)) => ∀ σ19, xM Γ D ad N Sh (xQL Γ) (kk0 + 1667) (nn0 + 10002) (KK20 σ19) σ19 137 [(0, .ref bb), (1, .ref (ad oo1)), (2, .ref (ad oo2)), (3, .int tt), (5, .int zw), (6, .int zz4)] []) (fun σ19 => ?_) (fun KK20 hKK21 => ?_)
    · refine xr_aload_n (pc := 137) X (i := 1) 1 rfl rfl dL_law_137 ?_
      refine xr_aload_n (pc := 138) X (i := 2) 2 rfl rfl dL_law_138 ?_
      refine xr_iload (pc := 139) X (i := 6) 5 rfl dL_law_139 ?_
      refine xr_bipush (pc := 141) X dL_law_141 (v := 7) (by decide) ?_
      refine xr_idiv (pc := 143) X (by decide) dL_law_143 ?_
      refine xr_callSI (na := 3) (pc := 144) X [.ref (ad oo1), .ref (ad oo2), .int (zz4 / 7)] (c_L_done Γ.2.1 hI hst oo1 hh1 oo2 hh2 (zz4 / 7) σ19) (wG_S wm_23_17 wm_23_15 wm_23_16 wm_5_14) rfl rfl rfl (by decide +kernel) ⟨Nat.le_of_ble_eq_true rfl, Nat.le_of_ble_eq_true rfl⟩ rfl rfl (Nat.le_of_ble_eq_true rfl) ⟨(show _ ≤ 680937 by omega), (show _ ≤ 7058658 by omega)⟩ dL_law_144 (fun zz29 σ28 => ?_)
      refine xr_if_eq (pc := 147) X 167 (by decide) dL_law_147 (fun _ => ?_) (fun _ => ?_)
      · refine xr_iconst (pc := 167) X dL_law_167 (v := 0) (by decide) ?_
        refine xr_istore (pc := 168) X (i := 4) (lv2 := [(0, .ref bb), (1, .ref (ad oo1)), (2, .ref (ad oo2)), (3, .int tt), (4, .int 0), (5, .int zw)]) [1, 2, 3, 4, 0, 5] (Nat.le_of_ble_eq_true rfl) hnL rfl dL_law_168 ?_
        refine xr_iinc (pc := 170) X (i := 5) (j := 5) [1, 2, 3, 4, 5, 0] (Nat.le_of_ble_eq_true rfl) hnL rfl rfl (fun zz30 => [(0, .ref bb), (1, .ref (ad oo1)), (2, .ref (ad oo2)), (3, .int tt), (4, .int 0), (5, .int zz30)]) (fun _ => rfl) dL_law_170 (fun zz30 => ?_)
        refine xr_goto (pc := 173) X 34 (by decide) dL_law_173 ?_
        exact x_wid (k2 := (kk0 + 1715)) (n2 := (nn0 + 10290)) (by omega) (by omega) (ihh _ _ _ (kk0 + 1715) (nn0 + 10290) (by omega) (by omega))
      refine xr_aload_n (pc := 150) X (i := 1) 1 rfl rfl dL_law_150 ?_
      refine xr_aload_n (pc := 151) X (i := 2) 2 rfl rfl dL_law_151 ?_
      refine xr_iload (pc := 152) X (i := 6) 5 rfl dL_law_152 ?_
      refine xr_bipush (pc := 154) X dL_law_154 (v := 11) (by decide) ?_
      refine xr_idiv (pc := 156) X (by decide) dL_law_156 ?_
      refine xr_callSI (na := 3) (pc := 157) X [.ref (ad oo1), .ref (ad oo2), .int (zz4 / 11)] (c_L_there Γ.2.1 hI hst oo1 hh1 oo2 hh2 (zz4 / 11) σ28) (wG_S wm_23_23 wm_23_21 wm_23_22 wm_5_14) rfl rfl rfl (by decide +kernel) ⟨Nat.le_of_ble_eq_true rfl, Nat.le_of_ble_eq_true rfl⟩ rfl rfl (Nat.le_of_ble_eq_true rfl) ⟨(show _ ≤ 680937 by omega), (show _ ≤ 7058658 by omega)⟩ dL_law_157 (fun zz32 σ31 => ?_)
      refine xr_if_eq (pc := 160) X 167 (by decide) dL_law_160 (fun _ => ?_) (fun _ => ?_)
      · refine xr_iconst (pc := 167) X dL_law_167 (v := 0) (by decide) ?_
        refine xr_istore (pc := 168) X (i := 4) (lv2 := [(0, .ref bb), (1, .ref (ad oo1)), (2, .ref (ad oo2)), (3, .int tt), (4, .int 0), (5, .int zw)]) [1, 2, 3, 4, 0, 5] (Nat.le_of_ble_eq_true rfl) hnL rfl dL_law_168 ?_
        refine xr_iinc (pc := 170) X (i := 5) (j := 5) [1, 2, 3, 4, 5, 0] (Nat.le_of_ble_eq_true rfl) hnL rfl rfl (fun zz33 => [(0, .ref bb), (1, .ref (ad oo1)), (2, .ref (ad oo2)), (3, .int tt), (4, .int 0), (5, .int zz33)]) (fun _ => rfl) dL_law_170 (fun zz33 => ?_)
        refine xr_goto (pc := 173) X 34 (by decide) dL_law_173 ?_
        exact x_wid (k2 := (kk0 + 1769)) (n2 := (nn0 + 10614)) (by omega) (by omega) (ihh _ _ _ (kk0 + 1769) (nn0 + 10614) (by omega) (by omega))
      refine xr_iconst (pc := 163) X dL_law_163 (v := 1) (by decide) ?_
      refine xr_goto (pc := 164) X 168 (by decide) dL_law_164 ?_
      refine xr_istore (pc := 168) X (i := 4) (lv2 := [(0, .ref bb), (1, .ref (ad oo1)), (2, .ref (ad oo2)), (3, .int tt), (4, .int 1), (5, .int zw)]) [1, 2, 3, 4, 0, 5] (Nat.le_of_ble_eq_true rfl) hnL rfl dL_law_168 ?_
      refine xr_iinc (pc := 170) X (i := 5) (j := 5) [1, 2, 3, 4, 5, 0] (Nat.le_of_ble_eq_true rfl) hnL rfl rfl (fun zz34 => [(0, .ref bb), (1, .ref (ad oo1)), (2, .ref (ad oo2)), (3, .int tt), (4, .int 1), (5, .int zz34)]) (fun _ => rfl) dL_law_170 (fun zz34 => ?_)
      refine xr_goto (pc := 173) X 34 (by decide) dL_law_173 ?_
      exact x_wid (k2 := (kk0 + 1769)) (n2 := (nn0 + 10614)) (by omega) (by omega) (ihh _ _ _ (kk0 + 1769) (nn0 + 10614) (by omega) (by omega))
    refine xr_if_ne (pc := 117) X 130 (by decide) dL_law_117 (fun _ => ?_) (fun _ => ?_)
    · refine xr_aload_n (pc := 130) X (i := 2) 2 rfl rfl dL_law_130 ?_
      refine xr_callSI (na := 1) (pc := 131) X [.ref (ad oo2)] (c_L_sound Γ.2.1 hI hst oo2 hh2 σ16) (wG_S wm_23_14 wm_23_12 wm_23_13 wm_5_14) rfl rfl rfl (by decide +kernel) ⟨Nat.le_of_ble_eq_true rfl, Nat.le_of_ble_eq_true rfl⟩ rfl rfl (Nat.le_of_ble_eq_true rfl) ⟨(show _ ≤ 680937 by omega), (show _ ≤ 7058658 by omega)⟩ dL_law_131 (fun zz23 σ22 => ?_)
      refine xr_if_eq (pc := 134) X 167 (by decide) dL_law_134 (fun _ => ?_) (fun _ => ?_)
      · refine xr_iconst (pc := 167) X dL_law_167 (v := 0) (by decide) ?_
        refine xr_istore (pc := 168) X (i := 4) (lv2 := [(0, .ref bb), (1, .ref (ad oo1)), (2, .ref (ad oo2)), (3, .int tt), (4, .int 0), (5, .int zw)]) [1, 2, 3, 4, 0, 5] (Nat.le_of_ble_eq_true rfl) hnL rfl dL_law_168 ?_
        refine xr_iinc (pc := 170) X (i := 5) (j := 5) [1, 2, 3, 4, 5, 0] (Nat.le_of_ble_eq_true rfl) hnL rfl rfl (fun zz24 => [(0, .ref bb), (1, .ref (ad oo1)), (2, .ref (ad oo2)), (3, .int tt), (4, .int 0), (5, .int zz24)]) (fun _ => rfl) dL_law_170 (fun zz24 => ?_)
        refine xr_goto (pc := 173) X 34 (by decide) dL_law_173 ?_
        exact x_wid (k2 := (kk0 + 1667)) (n2 := (nn0 + 10002)) (by omega) (by omega) (ihh _ _ _ (kk0 + 1667) (nn0 + 10002) (by omega) (by omega))
      exact x_sub [0, 1, 2, 3, 4, 5] rfl (x_wid (by omega) (by omega) (hKK21  _))
    refine xr_aload_n (pc := 120) X (i := 1) 1 rfl rfl dL_law_120 ?_
    refine xr_callSI (na := 1) (pc := 121) X [.ref (ad oo1)] (c_L_sound Γ.2.1 hI hst oo1 hh1 σ16) (wG_S wm_23_14 wm_23_12 wm_23_13 wm_5_14) rfl rfl rfl (by decide +kernel) ⟨Nat.le_of_ble_eq_true rfl, Nat.le_of_ble_eq_true rfl⟩ rfl rfl (Nat.le_of_ble_eq_true rfl) ⟨(show _ ≤ 680937 by omega), (show _ ≤ 7058658 by omega)⟩ dL_law_121 (fun zz26 σ25 => ?_)
    refine xr_if_eq (pc := 124) X 167 (by decide) dL_law_124 (fun _ => ?_) (fun _ => ?_)
    · refine xr_iconst (pc := 167) X dL_law_167 (v := 0) (by decide) ?_
      refine xr_istore (pc := 168) X (i := 4) (lv2 := [(0, .ref bb), (1, .ref (ad oo1)), (2, .ref (ad oo2)), (3, .int tt), (4, .int 0), (5, .int zw)]) [1, 2, 3, 4, 0, 5] (Nat.le_of_ble_eq_true rfl) hnL rfl dL_law_168 ?_
      refine xr_iinc (pc := 170) X (i := 5) (j := 5) [1, 2, 3, 4, 5, 0] (Nat.le_of_ble_eq_true rfl) hnL rfl rfl (fun zz27 => [(0, .ref bb), (1, .ref (ad oo1)), (2, .ref (ad oo2)), (3, .int tt), (4, .int 0), (5, .int zz27)]) (fun _ => rfl) dL_law_170 (fun zz27 => ?_)
      refine xr_goto (pc := 173) X 34 (by decide) dL_law_173 ?_
      exact x_wid (k2 := (kk0 + 1667)) (n2 := (nn0 + 10002)) (by omega) (by omega) (ihh _ _ _ (kk0 + 1667) (nn0 + 10002) (by omega) (by omega))
    refine xr_goto (pc := 127) X 137 (by decide) dL_law_127 ?_
    exact x_sub [0, 1, 2, 3, 4, 5] rfl (x_wid (by omega) (by omega) (hKK21  _))
