def L_L_sound_86 (oo1 : Nat) (zz4 : Int32) (zz18 : Int32) (zz31 : Int32) (KK45 : Int32 → Int32 → Int32 → xS → Option (Int32 × xS)) : Nat → Int32 → Int32 → Int32 → Int32 → Int32 → xS → Option (Int32 × xS)
  | 0, _, _, _, _, _, _ => none
  | nn_40 + 1, zz34, zz35, zz36, zz37, zz38, σ39 => if zz31 ≤ zz38 then (KK45 zz34 zz35 zz36 σ39)
 else (if zz34 = 0 then (KK45 zz34 zz35 zz36 σ39)
 else (xbI (F_L_call oo1 5 zz18 zz38 1 σ39) (fun (zz49 : Int32) (σ48 : xS) => xjn (fun (zz50 : Int32) (σ51 : xS) => xlet (zz35 + zz50) (fun (zz56 : Int32) => xjn (fun (zz57 : Int32) (σ58 : xS) => xlet (zz36 + zz57) (fun (zz61 : Int32) => xjn (fun (σ62 : xS) => xlet (zz38 + 1) (fun (zz70 : Int32) => L_L_sound_86 oo1 zz4 zz18 zz31 KK45 nn_40 0 zz56 zz61 zz49 zz70 σ62))
 (fun (KK63 : xS → Option (Int32 × xS)) => if zz49 < zz37 then (KK63 σ58)
 else (xbI (F_L_call oo1 5 zz18 zz38 0 σ58) (fun (zz66 : Int32) (σ65 : xS) => if zz66 ≤ 0 then (KK63 σ65)
 else (xbI (F_L_call oo1 5 zz18 zz38 0 σ65) (fun (zz68 : Int32) (σ67 : xS) => if 100 ≤ zz68 then (KK63 σ67)
 else (if (zz4 + 9) < zz49 then (KK63 σ67)
 else (if zz49 ≤ 0 then (KK63 σ67)
 else (xlet (zz38 + 1) (fun (zz69 : Int32) => L_L_sound_86 oo1 zz4 zz18 zz31 KK45 nn_40 1 zz56 zz61 zz49 zz69 σ67)))))))))))
 (fun (KK59 : Int32 → xS → Option (Int32 × xS)) => if zz49 ≤ zz4 then (KK59 0 σ51)
 else (KK59 1 σ51))))
 (fun (KK52 : Int32 → xS → Option (Int32 × xS)) => if zz49 ≤ zz4 then (KK52 0 σ48)
 else (xbI (F_L_call oo1 5 zz18 zz38 0 σ48) (fun (zz55 : Int32) (σ54 : xS) => KK52 zz55 σ54))))))
def L_L_sound_534 (oo1 : Nat) (zz2 : Int32) (zz4 : Int32) (KK150 : Int32 → xS → Option (Int32 × xS)) : Nat → Int32 → Int32 → xS → Option (Int32 × xS)
  | 0, _, _, _ => none
  | nn_147 + 1, zz144, zz145, σ146 => xbI (F_L_call oo1 2 2 0 0 σ146) (fun (zz154 : Int32) (σ153 : xS) => if zz154 ≤ zz145 then (KK150 zz144 σ153)
 else (if zz144 = 0 then (KK150 zz144 σ153)
 else (xbI (F_L_call oo1 6 zz145 0 0 σ153) (fun (zz156 : Int32) (σ155 : xS) => if zz156 ≤ zz4 then (xlet (zz145 + 1) (fun (zz157 : Int32) => L_L_sound_534 oo1 zz2 zz4 KK150 nn_147 0 zz157 σ155))
 else (if (zz4 + 99) < zz156 then (xlet (zz145 + 1) (fun (zz158 : Int32) => L_L_sound_534 oo1 zz2 zz4 KK150 nn_147 0 zz158 σ155))
 else (xbI (F_L_call oo1 6 zz145 1 0 σ155) (fun (zz160 : Int32) (σ159 : xS) => if zz2 ≤ zz160 then (xlet (zz145 + 1) (fun (zz161 : Int32) => L_L_sound_534 oo1 zz2 zz4 KK150 nn_147 0 zz161 σ159))
 else (xlet (zz145 + 1) (fun (zz162 : Int32) => L_L_sound_534 oo1 zz2 zz4 KK150 nn_147 1 zz162 σ159)))))))))
def L_L_sound_52 (oo1 : Nat) (zz2 : Int32) (zz4 : Int32) (KK27 : Int32 → Int32 → Int32 → Int32 → Int32 → xS → Option (Int32 × xS)) : Nat → Int32 → Int32 → Int32 → Int32 → Int32 → Int32 → xS → Option (Int32 × xS)
  | 0, _, _, _, _, _, _, _ => none
  | nn_20 + 1, zz13, zz14, zz15, zz16, zz17, zz18, σ19 => if zz2 ≤ zz18 then (KK27 zz13 zz14 zz15 zz16 zz17 σ19)
 else (if zz17 = 0 then (KK27 zz13 zz14 zz15 zz16 zz17 σ19)
 else (xbI (F_L_call oo1 3 zz18 1 0 σ19) (fun (zz31 : Int32) (σ30 : xS) => L_L_sound_86 oo1 zz4 zz18 zz31 (fun (zz42 : Int32) (zz43 : Int32) (zz44 : Int32) (σ47 : xS) => xbI (F_L_call oo1 4 zz18 2 0 σ47) (fun (zz72 : Int32) (σ71 : xS) => xbI (F_L_call oo1 4 zz18 3 0 σ71) (fun (zz74 : Int32) (σ73 : xS) => xbI (F_L_call oo1 3 zz18 0 0 σ73) (fun (zz76 : Int32) (σ75 : xS) => xlet (zz13 + zz76) (fun (zz77 : Int32) => xlet (zz14 + zz31) (fun (zz78 : Int32) => xbI (F_L_call oo1 3 zz18 4 0 σ75) (fun (zz80 : Int32) (σ79 : xS) => xlet (zz15 + zz80) (fun (zz81 : Int32) => xbI (F_L_call oo1 4 zz18 0 0 σ79) (fun (zz83 : Int32) (σ82 : xS) => xlet (zz16 + zz83) (fun (zz84 : Int32) => if zz42 = 0 then (xlet (zz18 + 1) (fun (zz85 : Int32) => L_L_sound_52 oo1 zz2 zz4 KK27 nn_20 zz77 zz78 zz81 zz84 0 zz85 σ82))
 else (xbI (F_L_call oo1 3 zz18 3 0 σ82) (fun (zz87 : Int32) (σ86 : xS) => xbI (F_L_call oo1 3 zz18 0 0 σ86) (fun (zz89 : Int32) (σ88 : xS) => xbI (F_L_call oo1 4 zz18 0 0 σ88) (fun (zz91 : Int32) (σ90 : xS) => if ¬ zz87 = ((zz89 + zz43) + zz91) then (xlet (zz18 + 1) (fun (zz92 : Int32) => L_L_sound_52 oo1 zz2 zz4 KK27 nn_20 zz77 zz78 zz81 zz84 0 zz92 σ90))
 else (xbI (F_L_call oo1 3 zz18 4 0 σ90) (fun (zz94 : Int32) (σ93 : xS) => xbI (F_L_call oo1 3 zz18 6 0 σ93) (fun (zz96 : Int32) (σ95 : xS) => if ¬ zz94 = (zz96 + zz31) then (xlet (zz18 + 1) (fun (zz97 : Int32) => L_L_sound_52 oo1 zz2 zz4 KK27 nn_20 zz77 zz78 zz81 zz84 0 zz97 σ95))
 else (xbI (F_L_call oo1 3 zz18 4 0 σ95) (fun (zz99 : Int32) (σ98 : xS) => xbI (F_L_call oo1 4 zz18 1 0 σ98) (fun (zz101 : Int32) (σ100 : xS) => if ¬ zz99 = (zz101 + zz44) then (xlet (zz18 + 1) (fun (zz102 : Int32) => L_L_sound_52 oo1 zz2 zz4 KK27 nn_20 zz77 zz78 zz81 zz84 0 zz102 σ100))
 else (if zz72 < 0 then (xlet (zz18 + 1) (fun (zz103 : Int32) => L_L_sound_52 oo1 zz2 zz4 KK27 nn_20 zz77 zz78 zz81 zz84 0 zz103 σ100))
 else (if 2 ≤ zz72 then (xlet (zz18 + 1) (fun (zz104 : Int32) => L_L_sound_52 oo1 zz2 zz4 KK27 nn_20 zz77 zz78 zz81 zz84 0 zz104 σ100))
 else (xjn (fun (zz105 : Int32) (σ106 : xS) => xjn (fun (zz109 : Int32) (σ110 : xS) => if ¬ zz105 = zz109 then (xlet (zz18 + 1) (fun (zz113 : Int32) => L_L_sound_52 oo1 zz2 zz4 KK27 nn_20 zz77 zz78 zz81 zz84 0 zz113 σ110))
 else (xjn (fun (σ114 : xS) => if 6 < zz31 then (xlet (zz18 + 1) (fun (zz119 : Int32) => L_L_sound_52 oo1 zz2 zz4 KK27 nn_20 zz77 zz78 zz81 zz84 0 zz119 σ114))
 else (xbI (F_L_call oo1 4 zz18 5 0 σ114) (fun (zz121 : Int32) (σ120 : xS) => if zz31 < zz121 then (xlet (zz18 + 1) (fun (zz122 : Int32) => L_L_sound_52 oo1 zz2 zz4 KK27 nn_20 zz77 zz78 zz81 zz84 0 zz122 σ120))
 else (xbI (F_L_call oo1 4 zz18 4 0 σ120) (fun (zz124 : Int32) (σ123 : xS) => xbI (F_L_call oo1 4 zz18 1 0 σ123) (fun (zz126 : Int32) (σ125 : xS) => if zz126 < zz124 then (xlet (zz18 + 1) (fun (zz127 : Int32) => L_L_sound_52 oo1 zz2 zz4 KK27 nn_20 zz77 zz78 zz81 zz84 0 zz127 σ125))
 else (xbI (F_L_call oo1 15 zz18 0 0 σ125) (fun (zz129 : Int32) (σ128 : xS) => xjn (fun (σ130 : xS) => xbI (F_L_call oo1 3 zz18 5 0 σ130) (fun (zz138 : Int32) (σ137 : xS) => if zz4 < zz138 then (xlet (zz18 + 1) (fun (zz139 : Int32) => L_L_sound_52 oo1 zz2 zz4 KK27 nn_20 zz77 zz78 zz81 zz84 0 zz139 σ137))
 else (xlet (zz18 + 1) (fun (zz140 : Int32) => L_L_sound_52 oo1 zz2 zz4 KK27 nn_20 zz77 zz78 zz81 zz84 1 zz140 σ137))))
 (fun (KK131 : xS → Option (Int32 × xS)) => if ¬ zz129 = 0 then (KK131 σ128)
 else (if ¬ zz31 = 0 then (xlet (zz18 + 1) (fun (zz133 : Int32) => L_L_sound_52 oo1 zz2 zz4 KK27 nn_20 zz77 zz78 zz81 zz84 0 zz133 σ128))
 else (xbI (F_L_call oo1 3 zz18 0 0 σ128) (fun (zz135 : Int32) (σ134 : xS) => if ¬ zz135 = 0 then (xlet (zz18 + 1) (fun (zz136 : Int32) => L_L_sound_52 oo1 zz2 zz4 KK27 nn_20 zz77 zz78 zz81 zz84 0 zz136 σ134))
 else (KK131 σ134)))))))))))))
 (fun (KK115 : xS → Option (Int32 × xS)) => if zz74 = ((-1)) then (KK115 σ110)
 else (if zz74 ≤ zz4 then (xlet (zz18 + 1) (fun (zz117 : Int32) => L_L_sound_52 oo1 zz2 zz4 KK27 nn_20 zz77 zz78 zz81 zz84 0 zz117 σ110))
 else (if (zz4 + 20) < zz74 then (xlet (zz18 + 1) (fun (zz118 : Int32) => L_L_sound_52 oo1 zz2 zz4 KK27 nn_20 zz77 zz78 zz81 zz84 0 zz118 σ110))
 else (KK115 σ110))))))
 (fun (KK111 : Int32 → xS → Option (Int32 × xS)) => if ¬ zz74 = ((-1)) then (KK111 0 σ106)
 else (KK111 1 σ106)))
 (fun (KK107 : Int32 → xS → Option (Int32 × xS)) => if ¬ zz72 = 0 then (KK107 0 σ100)
 else (KK107 1 σ100))))))))))))))))))))))))) 7 zz17 0 0 0 0 σ30)))
def F_L_sound (oo1 : Nat) (σ : xS) : Option (Int32 × xS) :=
  xbI (F_L_call oo1 2 0 0 0 σ) (fun (zz2 : Int32) (σ1 : xS) => xbI (F_L_call oo1 2 1 0 0 σ1) (fun (zz4 : Int32) (σ3 : xS) => xbI (F_L_call oo1 2 2 0 0 σ3) (fun (zz6 : Int32) (σ5 : xS) => xjn (fun (zz7 : Int32) (σ8 : xS) => L_L_sound_52 oo1 zz2 zz4 (fun (zz22 : Int32) (zz23 : Int32) (zz24 : Int32) (zz25 : Int32) (zz26 : Int32) (σ29 : xS) => L_L_sound_534 oo1 zz2 zz4 (fun (zz149 : Int32) (σ152 : xS) => if zz149 = 0 then (some ((0 : Int32), σ152))
 else (xbI (F_L_call oo1 2 3 0 0 σ152) (fun (zz164 : Int32) (σ163 : xS) => if ¬ zz164 = zz22 then (some ((0 : Int32), σ163))
 else (xbI (F_L_call oo1 2 4 0 0 σ163) (fun (zz166 : Int32) (σ165 : xS) => if ¬ zz166 = zz23 then (some ((0 : Int32), σ165))
 else (xbI (F_L_call oo1 2 5 0 0 σ165) (fun (zz168 : Int32) (σ167 : xS) => if ¬ zz168 = zz24 then (some ((0 : Int32), σ167))
 else (xbI (F_L_call oo1 2 7 0 0 σ167) (fun (zz170 : Int32) (σ169 : xS) => if ¬ zz170 = zz25 then (some ((0 : Int32), σ169))
 else (some ((1 : Int32), σ169))))))))))) 9 zz26 0 σ29) 5 0 0 0 0 zz7 0 σ8)
 (fun (KK9 : Int32 → xS → Option (Int32 × xS)) => if 8 < zz6 then (KK9 0 σ5)
 else (KK9 1 σ5)))))
abbrev rm_L_sound : Room := { frames := 11, cells := 1029, slots := 6174, locals := 220 }
set_option maxHeartbeats 400000000 in
set_option maxRecDepth 100000 in
theorem c_L_sound (l : Launch) {D : va_G} {ad : Nat → Nat} {N : Nat} {Sh : xSh} (hI : ∀ i j, i < N → j < N → ad i = ad j → i = j) (hst : l.stackTraces = false) (oo1 : Nat) (hh1 : xIs5 D ad N Sh oo1) (σ : xS) : xKI l yL_sound (Cond.code yL_sound cL_sound 15 (some .boolean) :: wG) rm_L_sound 1029 6174 D ad N Sh [.ref (ad oo1)] σ (F_L_sound oo1 σ) := by
  refine x_startI (own := RL) (maxL := 15) (by decide) rfl rfl (Nat.le_of_ble_eq_true rfl) rfl hI (fun Γ hl hnL X => ?_)
  subst hl
  unfold F_L_sound
  refine xr_aload_n (pc := 0) X (i := 0) 0 rfl rfl dL_sound_0 ?_
  refine xr_iconst (pc := 1) X dL_sound_1 (v := 2) (by decide) ?_
  refine xr_iconst (pc := 2) X dL_sound_2 (v := 0) (by decide) ?_
  refine xr_iconst (pc := 3) X dL_sound_3 (v := 0) (by decide) ?_
  refine xr_iconst (pc := 4) X dL_sound_4 (v := 0) (by decide) ?_
  refine xr_callSI (na := 5) (pc := 5) X [.ref (ad oo1), .int 2, .int 0, .int 0, .int 0] (c_L_call Γ.2.1 hI hst oo1 hh1 2 0 0 0 σ) (wG_S wm_5_23 wm_5_21 wm_5_22 wm_5_14) rfl rfl rfl (by decide +kernel) ⟨Nat.le_of_ble_eq_true rfl, Nat.le_of_ble_eq_true rfl⟩ rfl rfl (Nat.le_of_ble_eq_true rfl) ⟨(show _ ≤ 1029 by omega), (show _ ≤ 6174 by omega)⟩ dL_sound_5 (fun zz2 σ1 => ?_)
  refine xr_istore_n (pc := 8) X (hf := rfl) (i := 1) (lv2 := [(0, .ref (ad oo1)), (1, .int zz2)]) [1, 0] (Nat.le_of_ble_eq_true rfl) hnL rfl dL_sound_8 ?_
  refine xr_aload_n (pc := 9) X (i := 0) 0 rfl rfl dL_sound_9 ?_
  refine xr_iconst (pc := 10) X dL_sound_10 (v := 2) (by decide) ?_
  refine xr_iconst (pc := 11) X dL_sound_11 (v := 1) (by decide) ?_
  refine xr_iconst (pc := 12) X dL_sound_12 (v := 0) (by decide) ?_
  refine xr_iconst (pc := 13) X dL_sound_13 (v := 0) (by decide) ?_
  refine xr_callSI (na := 5) (pc := 14) X [.ref (ad oo1), .int 2, .int 1, .int 0, .int 0] (c_L_call Γ.2.1 hI hst oo1 hh1 2 1 0 0 σ1) (wG_S wm_5_23 wm_5_21 wm_5_22 wm_5_14) rfl rfl rfl (by decide +kernel) ⟨Nat.le_of_ble_eq_true rfl, Nat.le_of_ble_eq_true rfl⟩ rfl rfl (Nat.le_of_ble_eq_true rfl) ⟨(show _ ≤ 1029 by omega), (show _ ≤ 6174 by omega)⟩ dL_sound_14 (fun zz4 σ3 => ?_)
  refine xr_istore_n (pc := 17) X (hf := rfl) (i := 2) (lv2 := [(0, .ref (ad oo1)), (1, .int zz2), (2, .int zz4)]) [1, 2, 0] (Nat.le_of_ble_eq_true rfl) hnL rfl dL_sound_17 ?_
  refine xr_iconst (pc := 18) X dL_sound_18 (v := 0) (by decide) ?_
  refine xr_istore_n (pc := 19) X (hf := rfl) (i := 3) (lv2 := [(0, .ref (ad oo1)), (1, .int zz2), (2, .int zz4), (3, .int 0)]) [1, 2, 3, 0] (Nat.le_of_ble_eq_true rfl) hnL rfl dL_sound_19 ?_
  refine xr_iconst (pc := 20) X dL_sound_20 (v := 0) (by decide) ?_
  refine xr_istore (pc := 21) X (i := 4) (lv2 := [(0, .ref (ad oo1)), (1, .int zz2), (2, .int zz4), (3, .int 0), (4, .int 0)]) [1, 2, 3, 4, 0] (Nat.le_of_ble_eq_true rfl) hnL rfl dL_sound_21 ?_
  refine xr_iconst (pc := 23) X dL_sound_23 (v := 0) (by decide) ?_
  refine xr_istore (pc := 24) X (i := 5) (lv2 := [(0, .ref (ad oo1)), (1, .int zz2), (2, .int zz4), (3, .int 0), (4, .int 0), (5, .int 0)]) [1, 2, 3, 4, 5, 0] (Nat.le_of_ble_eq_true rfl) hnL rfl dL_sound_24 ?_
  refine xr_iconst (pc := 26) X dL_sound_26 (v := 0) (by decide) ?_
  refine xr_istore (pc := 27) X (i := 6) (lv2 := [(0, .ref (ad oo1)), (1, .int zz2), (2, .int zz4), (3, .int 0), (4, .int 0), (5, .int 0), (6, .int 0)]) [1, 2, 3, 4, 5, 6, 0] (Nat.le_of_ble_eq_true rfl) hnL rfl dL_sound_27 ?_
  refine xr_aload_n (pc := 29) X (i := 0) 0 rfl rfl dL_sound_29 ?_
  refine xr_iconst (pc := 30) X dL_sound_30 (v := 2) (by decide) ?_
  refine xr_iconst (pc := 31) X dL_sound_31 (v := 2) (by decide) ?_
  refine xr_iconst (pc := 32) X dL_sound_32 (v := 0) (by decide) ?_
  refine xr_iconst (pc := 33) X dL_sound_33 (v := 0) (by decide) ?_
  refine xr_callSI (na := 5) (pc := 34) X [.ref (ad oo1), .int 2, .int 2, .int 0, .int 0] (c_L_call Γ.2.1 hI hst oo1 hh1 2 2 0 0 σ3) (wG_S wm_5_23 wm_5_21 wm_5_22 wm_5_14) rfl rfl rfl (by decide +kernel) ⟨Nat.le_of_ble_eq_true rfl, Nat.le_of_ble_eq_true rfl⟩ rfl rfl (Nat.le_of_ble_eq_true rfl) ⟨(show _ ≤ 1029 by omega), (show _ ≤ 6174 by omega)⟩ dL_sound_34 (fun zz6 σ5 => ?_)
  refine xr_bipush (pc := 37) X dL_sound_37 (v := 8) (by decide) ?_
  refine x_jn (fun (KK9 : Int32 → xS → Option (Int32 × xS)) => ∀ zz7 σ8, xM Γ D ad N Sh (xQI Γ D ad N Sh 1029 6174) 9 54 (KK9 zz7 σ8) σ8 47 [(0, .ref (ad oo1)), (1, .int zz2), (2, .int zz4), (3, .int 0), (4, .int 0), (5, .int 0), (6, .int 0)] [.int zz7]) (fun zz7 σ8 => ?_) (fun KK9 hKK10 => ?_)
  · refine xr_istore (pc := 47) X (i := 7) (lv2 := [(0, .ref (ad oo1)), (1, .int zz2), (2, .int zz4), (3, .int 0), (4, .int 0), (5, .int 0), (6, .int 0), (7, .int zz7)]) [1, 2, 3, 4, 5, 6, 7, 0] (Nat.le_of_ble_eq_true rfl) hnL rfl dL_sound_47 ?_
    refine xr_iconst (pc := 49) X dL_sound_49 (v := 0) (by decide) ?_
    refine xr_istore (pc := 50) X (i := 8) (lv2 := [(0, .ref (ad oo1)), (1, .int zz2), (2, .int zz4), (3, .int 0), (4, .int 0), (5, .int 0), (6, .int 0), (7, .int zz7), (8, .int 0)]) [1, 2, 3, 4, 5, 6, 7, 8, 0] (Nat.le_of_ble_eq_true rfl) hnL rfl dL_sound_50 ?_
    have hLL172 : ∀ (KK27 : Int32 → Int32 → Int32 → Int32 → Int32 → xS → Option (Int32 × xS)) (hKK28 : ∀ zz22 zz23 zz24 zz25 zz26 σ29, xM Γ D ad N Sh (xQI Γ D ad N Sh 1029 6174) 927 5562 (KK27 zz22 zz23 zz24 zz25 zz26 σ29) σ29 528 [(0, .ref (ad oo1)), (1, .int zz2), (2, .int zz4), (3, .int zz22), (4, .int zz23), (5, .int zz24), (6, .int zz25), (7, .int zz26)] []), ∀ (nn_20 : Nat) zz13 zz14 zz15 zz16 zz17 zz18 σ19 (kk_11 : Nat), kk_11 + 153 * (nn_20 + 1) ≤ 927 → xM Γ D ad N Sh (xQI Γ D ad N Sh 1029 6174) (kk_11 + 0) (6 * kk_11 + 0) (L_L_sound_52 oo1 zz2 zz4 KK27 nn_20 zz13 zz14 zz15 zz16 zz17 zz18 σ19) σ19 52 [(0, .ref (ad oo1)), (1, .int zz2), (2, .int zz4), (3, .int zz13), (4, .int zz14), (5, .int zz15), (6, .int zz16), (7, .int zz17), (8, .int zz18)] [] := by
      intro KK27 hKK28 nn_20
      induction nn_20 with
      | zero => intro zz13 zz14 zz15 zz16 zz17 zz18 σ19 kk_11 _; exact xM_none
      | succ nn_20 ihh21 =>
        intro zz13 zz14 zz15 zz16 zz17 zz18 σ19 kk_11 hk_12
        rw [L_L_sound_52]
        refine xr_iload (pc := 52) X (i := 8) 8 rfl dL_sound_52 ?_
        refine xr_iload_n (pc := 54) X (i := 1) 1 rfl rfl dL_sound_54 ?_
        refine xr_icmp_ge (pc := 55) X 528 (by decide) dL_sound_55 (fun _ => ?_) (fun _ => ?_)
        · exact x_sub [0, 1, 2, 3, 4, 5, 6, 7] rfl (x_wid (by omega) (by omega) (hKK28 _ _ _ _ _ _))
        refine xr_iload (pc := 58) X (i := 7) 7 rfl dL_sound_58 ?_
        refine xr_if_eq (pc := 60) X 528 (by decide) dL_sound_60 (fun _ => ?_) (fun _ => ?_)
        · exact x_sub [0, 1, 2, 3, 4, 5, 6, 7] rfl (x_wid (by omega) (by omega) (hKK28 _ _ _ _ _ _))
        refine xr_aload_n (pc := 63) X (i := 0) 0 rfl rfl dL_sound_63 ?_
        refine xr_iconst (pc := 64) X dL_sound_64 (v := 3) (by decide) ?_
        refine xr_iload (pc := 65) X (i := 8) 8 rfl dL_sound_65 ?_
        refine xr_iconst (pc := 67) X dL_sound_67 (v := 1) (by decide) ?_
        refine xr_iconst (pc := 68) X dL_sound_68 (v := 0) (by decide) ?_
        refine xr_callSI (na := 5) (pc := 69) X [.ref (ad oo1), .int 3, .int zz18, .int 1, .int 0] (c_L_call Γ.2.1 hI hst oo1 hh1 3 zz18 1 0 σ19) (wG_S wm_5_23 wm_5_21 wm_5_22 wm_5_14) rfl rfl rfl (by decide +kernel) ⟨Nat.le_of_ble_eq_true rfl, Nat.le_of_ble_eq_true rfl⟩ rfl rfl (Nat.le_of_ble_eq_true rfl) ⟨(show _ ≤ 1029 by omega), (show _ ≤ 6174 by omega)⟩ dL_sound_69 (fun zz31 σ30 => ?_)
        refine xr_istore (pc := 72) X (i := 9) (lv2 := [(0, .ref (ad oo1)), (1, .int zz2), (2, .int zz4), (3, .int zz13), (4, .int zz14), (5, .int zz15), (6, .int zz16), (7, .int zz17), (8, .int zz18), (9, .int zz31)]) [1, 2, 3, 4, 5, 6, 7, 8, 9, 0] (Nat.le_of_ble_eq_true rfl) hnL rfl dL_sound_72 ?_
        refine xr_iconst (pc := 74) X dL_sound_74 (v := 0) (by decide) ?_
        refine xr_istore (pc := 75) X (i := 10) (lv2 := [(0, .ref (ad oo1)), (1, .int zz2), (2, .int zz4), (3, .int zz13), (4, .int zz14), (5, .int zz15), (6, .int zz16), (7, .int zz17), (8, .int zz18), (9, .int zz31), (10, .int 0)]) [1, 2, 3, 4, 5, 6, 7, 8, 9, 10, 0] (Nat.le_of_ble_eq_true rfl) hnL rfl dL_sound_75 ?_
        refine xr_iconst (pc := 77) X dL_sound_77 (v := 0) (by decide) ?_
        refine xr_istore (pc := 78) X (i := 11) (lv2 := [(0, .ref (ad oo1)), (1, .int zz2), (2, .int zz4), (3, .int zz13), (4, .int zz14), (5, .int zz15), (6, .int zz16), (7, .int zz17), (8, .int zz18), (9, .int zz31), (10, .int 0), (11, .int 0)]) [1, 2, 3, 4, 5, 6, 7, 8, 9, 10, 11, 0] (Nat.le_of_ble_eq_true rfl) hnL rfl dL_sound_78 ?_
        refine xr_iconst (pc := 80) X dL_sound_80 (v := 0) (by decide) ?_
        refine xr_istore (pc := 81) X (i := 12) (lv2 := [(0, .ref (ad oo1)), (1, .int zz2), (2, .int zz4), (3, .int zz13), (4, .int zz14), (5, .int zz15), (6, .int zz16), (7, .int zz17), (8, .int zz18), (9, .int zz31), (10, .int 0), (11, .int 0), (12, .int 0)]) [1, 2, 3, 4, 5, 6, 7, 8, 9, 10, 11, 12, 0] (Nat.le_of_ble_eq_true rfl) hnL rfl dL_sound_81 ?_
        refine xr_iconst (pc := 83) X dL_sound_83 (v := 0) (by decide) ?_
        refine xr_istore (pc := 84) X (i := 13) (lv2 := [(0, .ref (ad oo1)), (1, .int zz2), (2, .int zz4), (3, .int zz13), (4, .int zz14), (5, .int zz15), (6, .int zz16), (7, .int zz17), (8, .int zz18), (9, .int zz31), (10, .int 0), (11, .int 0), (12, .int 0), (13, .int 0)]) [1, 2, 3, 4, 5, 6, 7, 8, 9, 10, 11, 12, 13, 0] (Nat.le_of_ble_eq_true rfl) hnL rfl dL_sound_84 ?_
        have hLL141 : ∀ (KK45 : Int32 → Int32 → Int32 → xS → Option (Int32 × xS)) (hKK46 : ∀ zz42 zz43 zz44 σ47, xM Γ D ad N Sh (xQI Γ D ad N Sh 1029 6174) (kk_11 + 99) (6 * kk_11 + 594) (KK45 zz42 zz43 zz44 σ47) σ47 217 [(0, .ref (ad oo1)), (1, .int zz2), (2, .int zz4), (3, .int zz13), (4, .int zz14), (5, .int zz15), (6, .int zz16), (7, .int zz42), (8, .int zz18), (9, .int zz31), (10, .int zz43), (11, .int zz44)] []), ∀ (nn_40 : Nat) zz34 zz35 zz36 zz37 zz38 σ39 (kk_32 : Nat), kk_32 + 12 * (nn_40 + 1) ≤ (kk_11 + 99) → xM Γ D ad N Sh (xQI Γ D ad N Sh 1029 6174) (kk_32 + 0) (6 * kk_32 + 0) (L_L_sound_86 oo1 zz4 zz18 zz31 KK45 nn_40 zz34 zz35 zz36 zz37 zz38 σ39) σ39 86 [(0, .ref (ad oo1)), (1, .int zz2), (2, .int zz4), (3, .int zz13), (4, .int zz14), (5, .int zz15), (6, .int zz16), (7, .int zz34), (8, .int zz18), (9, .int zz31), (10, .int zz35), (11, .int zz36), (12, .int zz37), (13, .int zz38)] [] := by
          intro KK45 hKK46 nn_40
          induction nn_40 with
          | zero => intro zz34 zz35 zz36 zz37 zz38 σ39 kk_32 _; exact xM_none
          | succ nn_40 ihh41 =>
            intro zz34 zz35 zz36 zz37 zz38 σ39 kk_32 hk_33
            rw [L_L_sound_86]
            refine xr_iload (pc := 86) X (i := 13) 13 rfl dL_sound_86 ?_
            refine xr_iload (pc := 88) X (i := 9) 9 rfl dL_sound_88 ?_
            refine xr_icmp_ge (pc := 90) X 217 (by decide) dL_sound_90 (fun _ => ?_) (fun _ => ?_)
            · exact x_sub [0, 1, 2, 3, 4, 5, 6, 7, 8, 9, 10, 11] rfl (x_wid (by omega) (by omega) (hKK46 _ _ _ _))
            refine xr_iload (pc := 93) X (i := 7) 7 rfl dL_sound_93 ?_
            refine xr_if_eq (pc := 95) X 217 (by decide) dL_sound_95 (fun _ => ?_) (fun _ => ?_)
            · exact x_sub [0, 1, 2, 3, 4, 5, 6, 7, 8, 9, 10, 11] rfl (x_wid (by omega) (by omega) (hKK46 _ _ _ _))
            refine xr_aload_n (pc := 98) X (i := 0) 0 rfl rfl dL_sound_98 ?_
            refine xr_iconst (pc := 99) X dL_sound_99 (v := 5) (by decide) ?_
            refine xr_iload (pc := 100) X (i := 8) 8 rfl dL_sound_100 ?_
            refine xr_iload (pc := 102) X (i := 13) 13 rfl dL_sound_102 ?_
            refine xr_iconst (pc := 104) X dL_sound_104 (v := 1) (by decide) ?_
            refine xr_callSI (na := 5) (pc := 105) X [.ref (ad oo1), .int 5, .int zz18, .int zz38, .int 1] (c_L_call Γ.2.1 hI hst oo1 hh1 5 zz18 zz38 1 σ39) (wG_S wm_5_23 wm_5_21 wm_5_22 wm_5_14) rfl rfl rfl (by decide +kernel) ⟨Nat.le_of_ble_eq_true rfl, Nat.le_of_ble_eq_true rfl⟩ rfl rfl (Nat.le_of_ble_eq_true rfl) ⟨(show _ ≤ 1029 by omega), (show _ ≤ 6174 by omega)⟩ dL_sound_105 (fun zz49 σ48 => ?_)
            refine xr_istore (pc := 108) X (i := 14) (lv2 := [(0, .ref (ad oo1)), (1, .int zz2), (2, .int zz4), (3, .int zz13), (4, .int zz14), (5, .int zz15), (6, .int zz16), (8, .int zz18), (9, .int zz31), (10, .int zz35), (11, .int zz36), (12, .int zz37), (13, .int zz38), (14, .int zz49)]) [1, 2, 3, 4, 5, 6, 7, 9, 10, 11, 12, 13, 14, 0] (Nat.le_of_ble_eq_true rfl) hnL rfl dL_sound_108 ?_
            refine xr_iload (pc := 110) X (i := 10) 9 rfl dL_sound_110 ?_
            refine xr_iload (pc := 112) X (i := 14) 13 rfl dL_sound_112 ?_
            refine xr_iload_n (pc := 114) X (i := 2) 2 rfl rfl dL_sound_114 ?_
            refine x_jn (fun (KK52 : Int32 → xS → Option (Int32 × xS)) => ∀ zz50 σ51, xM Γ D ad N Sh (xQI Γ D ad N Sh 1029 6174) (kk_32 + 6) (6 * kk_32 + 36) (KK52 zz50 σ51) σ51 132 [(0, .ref (ad oo1)), (1, .int zz2), (2, .int zz4), (3, .int zz13), (4, .int zz14), (5, .int zz15), (6, .int zz16), (8, .int zz18), (9, .int zz31), (11, .int zz36), (12, .int zz37), (13, .int zz38), (14, .int zz49)] [.int zz50, .int zz35]) (fun zz50 σ51 => ?_) (fun KK52 hKK53 => ?_)
            · refine xr_iadd (pc := 132) X dL_sound_132 ?_
              refine x_leti (fun zz56 => ?_)
              refine xr_istore (pc := 133) X (i := 10) (lv2 := [(0, .ref (ad oo1)), (1, .int zz2), (2, .int zz4), (3, .int zz13), (4, .int zz14), (5, .int zz15), (6, .int zz16), (8, .int zz18), (9, .int zz31), (10, .int zz56), (11, .int zz36), (12, .int zz37), (13, .int zz38), (14, .int zz49)]) [1, 2, 3, 4, 5, 6, 7, 8, 9, 0, 10, 11, 12, 13] (Nat.le_of_ble_eq_true rfl) hnL rfl dL_sound_133 ?_
              refine xr_iload (pc := 135) X (i := 11) 10 rfl dL_sound_135 ?_
              refine xr_iload (pc := 137) X (i := 14) 13 rfl dL_sound_137 ?_
              refine xr_iload_n (pc := 139) X (i := 2) 2 rfl rfl dL_sound_139 ?_
              refine x_jn (fun (KK59 : Int32 → xS → Option (Int32 × xS)) => ∀ zz57 σ58, xM Γ D ad N Sh (xQI Γ D ad N Sh 1029 6174) (kk_32 + 6) (6 * kk_32 + 36) (KK59 zz57 σ58) σ58 148 [(0, .ref (ad oo1)), (1, .int zz2), (2, .int zz4), (3, .int zz13), (4, .int zz14), (5, .int zz15), (6, .int zz16), (8, .int zz18), (9, .int zz31), (10, .int zz56), (12, .int zz37), (13, .int zz38), (14, .int zz49)] [.int zz57, .int zz36]) (fun zz57 σ58 => ?_) (fun KK59 hKK60 => ?_)
              · refine xr_iadd (pc := 148) X dL_sound_148 ?_
                refine x_leti (fun zz61 => ?_)
                refine xr_istore (pc := 149) X (i := 11) (lv2 := [(0, .ref (ad oo1)), (1, .int zz2), (2, .int zz4), (3, .int zz13), (4, .int zz14), (5, .int zz15), (6, .int zz16), (8, .int zz18), (9, .int zz31), (10, .int zz56), (11, .int zz61), (12, .int zz37), (13, .int zz38), (14, .int zz49)]) [1, 2, 3, 4, 5, 6, 7, 8, 9, 10, 0, 11, 12, 13] (Nat.le_of_ble_eq_true rfl) hnL rfl dL_sound_149 ?_
                refine xr_iload (pc := 151) X (i := 14) 13 rfl dL_sound_151 ?_
                refine xr_iload (pc := 153) X (i := 12) 11 rfl dL_sound_153 ?_
                refine x_jn (fun (KK63 : xS → Option (Int32 × xS)) => ∀ σ62, xM Γ D ad N Sh (xQI Γ D ad N Sh 1029 6174) (kk_32 + 12) (6 * kk_32 + 72) (KK63 σ62) σ62 204 [(0, .ref (ad oo1)), (1, .int zz2), (2, .int zz4), (3, .int zz13), (4, .int zz14), (5, .int zz15), (6, .int zz16), (8, .int zz18), (9, .int zz31), (10, .int zz56), (11, .int zz61), (13, .int zz38), (14, .int zz49)] []) (fun σ62 => ?_) (fun KK63 hKK64 => ?_)
                · refine xr_iconst (pc := 204) X dL_sound_204 (v := 0) (by decide) ?_
                  refine xr_istore (pc := 205) X (i := 7) (lv2 := [(0, .ref (ad oo1)), (1, .int zz2), (2, .int zz4), (3, .int zz13), (4, .int zz14), (5, .int zz15), (6, .int zz16), (7, .int 0), (8, .int zz18), (9, .int zz31), (10, .int zz56), (11, .int zz61), (13, .int zz38), (14, .int zz49)]) [1, 2, 3, 4, 5, 6, 7, 0, 8, 9, 10, 11, 12, 13] (Nat.le_of_ble_eq_true rfl) hnL rfl dL_sound_205 ?_
                  refine xr_iload (pc := 207) X (i := 14) 13 rfl dL_sound_207 ?_
                  refine xr_istore (pc := 209) X (i := 12) (lv2 := [(0, .ref (ad oo1)), (1, .int zz2), (2, .int zz4), (3, .int zz13), (4, .int zz14), (5, .int zz15), (6, .int zz16), (7, .int 0), (8, .int zz18), (9, .int zz31), (10, .int zz56), (11, .int zz61), (12, .int zz49), (13, .int zz38)]) [1, 2, 3, 4, 5, 6, 7, 8, 9, 10, 11, 12, 0, 13] (Nat.le_of_ble_eq_true rfl) hnL rfl dL_sound_209 ?_
                  refine xr_iinc (pc := 211) X (i := 13) (j := 13) [1, 2, 3, 4, 5, 6, 7, 8, 9, 10, 11, 12, 13, 0] (Nat.le_of_ble_eq_true rfl) hnL rfl rfl (fun zz70 => [(0, .ref (ad oo1)), (1, .int zz2), (2, .int zz4), (3, .int zz13), (4, .int zz14), (5, .int zz15), (6, .int zz16), (7, .int 0), (8, .int zz18), (9, .int zz31), (10, .int zz56), (11, .int zz61), (12, .int zz49), (13, .int zz70)]) (fun _ => rfl) dL_sound_211 (fun zz70 => ?_)
                  refine xr_goto (pc := 214) X 86 (by decide) dL_sound_214 ?_
                  exact x_wid (k2 := (kk_32 + 12)) (n2 := 6 * ((kk_32 + 12))) (by omega) (by omega) (ihh41 _ _ _ _ _ _ (kk_32 + 12) (by omega))
                refine xr_icmp_lt (pc := 155) X 204 (by decide) dL_sound_155 (fun _ => ?_) (fun _ => ?_)
                · exact x_sub [0, 1, 2, 3, 4, 5, 6, 7, 8, 9, 10, 12, 13] rfl (x_wid (by omega) (by omega) (hKK64  _))
                refine xr_aload_n (pc := 158) X (i := 0) 0 rfl rfl dL_sound_158 ?_
                refine xr_iconst (pc := 159) X dL_sound_159 (v := 5) (by decide) ?_
                refine xr_iload (pc := 160) X (i := 8) 7 rfl dL_sound_160 ?_
                refine xr_iload (pc := 162) X (i := 13) 12 rfl dL_sound_162 ?_
                refine xr_iconst (pc := 164) X dL_sound_164 (v := 0) (by decide) ?_
                refine xr_callSI (na := 5) (pc := 165) X [.ref (ad oo1), .int 5, .int zz18, .int zz38, .int 0] (c_L_call Γ.2.1 hI hst oo1 hh1 5 zz18 zz38 0 σ58) (wG_S wm_5_23 wm_5_21 wm_5_22 wm_5_14) rfl rfl rfl (by decide +kernel) ⟨Nat.le_of_ble_eq_true rfl, Nat.le_of_ble_eq_true rfl⟩ rfl rfl (Nat.le_of_ble_eq_true rfl) ⟨(show _ ≤ 1029 by omega), (show _ ≤ 6174 by omega)⟩ dL_sound_165 (fun zz66 σ65 => ?_)
                refine xr_if_le (pc := 168) X 204 (by decide) dL_sound_168 (fun _ => ?_) (fun _ => ?_)
                · exact x_sub [0, 1, 2, 3, 4, 5, 6, 7, 8, 9, 10, 12, 13] rfl (x_wid (by omega) (by omega) (hKK64  _))
                refine xr_aload_n (pc := 171) X (i := 0) 0 rfl rfl dL_sound_171 ?_
                refine xr_iconst (pc := 172) X dL_sound_172 (v := 5) (by decide) ?_
                refine xr_iload (pc := 173) X (i := 8) 7 rfl dL_sound_173 ?_
                refine xr_iload (pc := 175) X (i := 13) 12 rfl dL_sound_175 ?_
                refine xr_iconst (pc := 177) X dL_sound_177 (v := 0) (by decide) ?_
                refine xr_callSI (na := 5) (pc := 178) X [.ref (ad oo1), .int 5, .int zz18, .int zz38, .int 0] (c_L_call Γ.2.1 hI hst oo1 hh1 5 zz18 zz38 0 σ65) (wG_S wm_5_23 wm_5_21 wm_5_22 wm_5_14) rfl rfl rfl (by decide +kernel) ⟨Nat.le_of_ble_eq_true rfl, Nat.le_of_ble_eq_true rfl⟩ rfl rfl (Nat.le_of_ble_eq_true rfl) ⟨(show _ ≤ 1029 by omega), (show _ ≤ 6174 by omega)⟩ dL_sound_178 (fun zz68 σ67 => ?_)
                refine xr_bipush (pc := 181) X dL_sound_181 (v := 100) (by decide) ?_
                refine xr_icmp_ge (pc := 183) X 204 (by decide) dL_sound_183 (fun _ => ?_) (fun _ => ?_)
                · exact x_sub [0, 1, 2, 3, 4, 5, 6, 7, 8, 9, 10, 12, 13] rfl (x_wid (by omega) (by omega) (hKK64  _))
                refine xr_iload (pc := 186) X (i := 14) 13 rfl dL_sound_186 ?_
                refine xr_iload_n (pc := 188) X (i := 2) 2 rfl rfl dL_sound_188 ?_
                refine xr_bipush (pc := 189) X dL_sound_189 (v := 9) (by decide) ?_
                refine xr_iadd (pc := 191) X dL_sound_191 ?_
                refine xr_icmp_gt (pc := 192) X 204 (by decide) dL_sound_192 (fun _ => ?_) (fun _ => ?_)
                · exact x_sub [0, 1, 2, 3, 4, 5, 6, 7, 8, 9, 10, 12, 13] rfl (x_wid (by omega) (by omega) (hKK64  _))
                refine xr_iload (pc := 195) X (i := 14) 13 rfl dL_sound_195 ?_
                refine xr_if_le (pc := 197) X 204 (by decide) dL_sound_197 (fun _ => ?_) (fun _ => ?_)
                · exact x_sub [0, 1, 2, 3, 4, 5, 6, 7, 8, 9, 10, 12, 13] rfl (x_wid (by omega) (by omega) (hKK64  _))
                refine xr_iconst (pc := 200) X dL_sound_200 (v := 1) (by decide) ?_
                refine xr_goto (pc := 201) X 205 (by decide) dL_sound_201 ?_
                refine xr_istore (pc := 205) X (i := 7) (lv2 := [(0, .ref (ad oo1)), (1, .int zz2), (2, .int zz4), (3, .int zz13), (4, .int zz14), (5, .int zz15), (6, .int zz16), (7, .int 1), (8, .int zz18), (9, .int zz31), (10, .int zz56), (11, .int zz61), (13, .int zz38), (14, .int zz49)]) [1, 2, 3, 4, 5, 6, 7, 0, 8, 9, 10, 11, 13, 14] (Nat.le_of_ble_eq_true rfl) hnL rfl dL_sound_205 ?_
                refine xr_iload (pc := 207) X (i := 14) 13 rfl dL_sound_207 ?_
                refine xr_istore (pc := 209) X (i := 12) (lv2 := [(0, .ref (ad oo1)), (1, .int zz2), (2, .int zz4), (3, .int zz13), (4, .int zz14), (5, .int zz15), (6, .int zz16), (7, .int 1), (8, .int zz18), (9, .int zz31), (10, .int zz56), (11, .int zz61), (12, .int zz49), (13, .int zz38)]) [1, 2, 3, 4, 5, 6, 7, 8, 9, 10, 11, 12, 0, 13] (Nat.le_of_ble_eq_true rfl) hnL rfl dL_sound_209 ?_
                refine xr_iinc (pc := 211) X (i := 13) (j := 13) [1, 2, 3, 4, 5, 6, 7, 8, 9, 10, 11, 12, 13, 0] (Nat.le_of_ble_eq_true rfl) hnL rfl rfl (fun zz69 => [(0, .ref (ad oo1)), (1, .int zz2), (2, .int zz4), (3, .int zz13), (4, .int zz14), (5, .int zz15), (6, .int zz16), (7, .int 1), (8, .int zz18), (9, .int zz31), (10, .int zz56), (11, .int zz61), (12, .int zz49), (13, .int zz69)]) (fun _ => rfl) dL_sound_211 (fun zz69 => ?_)
                refine xr_goto (pc := 214) X 86 (by decide) dL_sound_214 ?_
                exact x_wid (k2 := (kk_32 + 12)) (n2 := 6 * ((kk_32 + 12))) (by omega) (by omega) (ihh41 _ _ _ _ _ _ (kk_32 + 12) (by omega))
              refine xr_icmp_le (pc := 140) X 147 (by decide) dL_sound_140 (fun _ => ?_) (fun _ => ?_)
              · refine xr_iconst (pc := 147) X dL_sound_147 (v := 0) (by decide) ?_
                exact x_sub [0, 1, 2, 3, 4, 5, 6, 7, 8, 9, 11, 12, 13] rfl (x_wid (by omega) (by omega) (hKK60 _ _))
              refine xr_iconst (pc := 143) X dL_sound_143 (v := 1) (by decide) ?_
              refine xr_goto (pc := 144) X 148 (by decide) dL_sound_144 ?_
              exact x_sub [0, 1, 2, 3, 4, 5, 6, 7, 8, 9, 11, 12, 13] rfl (x_wid (by omega) (by omega) (hKK60 _ _))
            refine xr_icmp_le (pc := 115) X 131 (by decide) dL_sound_115 (fun _ => ?_) (fun _ => ?_)
            · refine xr_iconst (pc := 131) X dL_sound_131 (v := 0) (by decide) ?_
              exact x_sub [0, 1, 2, 3, 4, 5, 6, 7, 8, 10, 11, 12, 13] rfl (x_wid (by omega) (by omega) (hKK53 _ _))
            refine xr_aload_n (pc := 118) X (i := 0) 0 rfl rfl dL_sound_118 ?_
            refine xr_iconst (pc := 119) X dL_sound_119 (v := 5) (by decide) ?_
            refine xr_iload (pc := 120) X (i := 8) 7 rfl dL_sound_120 ?_
            refine xr_iload (pc := 122) X (i := 13) 12 rfl dL_sound_122 ?_
            refine xr_iconst (pc := 124) X dL_sound_124 (v := 0) (by decide) ?_
            refine xr_callSI (na := 5) (pc := 125) X [.ref (ad oo1), .int 5, .int zz18, .int zz38, .int 0] (c_L_call Γ.2.1 hI hst oo1 hh1 5 zz18 zz38 0 σ48) (wG_S wm_5_23 wm_5_21 wm_5_22 wm_5_14) rfl rfl rfl (by decide +kernel) ⟨Nat.le_of_ble_eq_true rfl, Nat.le_of_ble_eq_true rfl⟩ rfl rfl (Nat.le_of_ble_eq_true rfl) ⟨(show _ ≤ 1029 by omega), (show _ ≤ 6174 by omega)⟩ dL_sound_125 (fun zz55 σ54 => ?_)
            refine xr_goto (pc := 128) X 132 (by decide) dL_sound_128 ?_
            exact x_sub [0, 1, 2, 3, 4, 5, 6, 7, 8, 10, 11, 12, 13] rfl (x_wid (by omega) (by omega) (hKK53 _ _))
        refine x_wid (k2 := (kk_11 + 3)) (n2 := 6 * ((kk_11 + 3))) (by omega) (by omega) (hLL141 _ (fun zz42 zz43 zz44 σ47 => ?_) _ _ _ _ _ _ _ (kk_11 + 3) (by omega))
        refine xr_aload_n (pc := 217) X (i := 0) 0 rfl rfl dL_sound_217 ?_
        refine xr_iconst (pc := 218) X dL_sound_218 (v := 4) (by decide) ?_
        refine xr_iload (pc := 219) X (i := 8) 8 rfl dL_sound_219 ?_
        refine xr_iconst (pc := 221) X dL_sound_221 (v := 2) (by decide) ?_
        refine xr_iconst (pc := 222) X dL_sound_222 (v := 0) (by decide) ?_
        refine xr_callSI (na := 5) (pc := 223) X [.ref (ad oo1), .int 4, .int zz18, .int 2, .int 0] (c_L_call Γ.2.1 hI hst oo1 hh1 4 zz18 2 0 σ47) (wG_S wm_5_23 wm_5_21 wm_5_22 wm_5_14) rfl rfl rfl (by decide +kernel) ⟨Nat.le_of_ble_eq_true rfl, Nat.le_of_ble_eq_true rfl⟩ rfl rfl (Nat.le_of_ble_eq_true rfl) ⟨(show _ ≤ 1029 by omega), (show _ ≤ 6174 by omega)⟩ dL_sound_223 (fun zz72 σ71 => ?_)
        refine xr_istore (pc := 226) X (i := 13) (lv2 := [(0, .ref (ad oo1)), (1, .int zz2), (2, .int zz4), (3, .int zz13), (4, .int zz14), (5, .int zz15), (6, .int zz16), (7, .int zz42), (8, .int zz18), (9, .int zz31), (10, .int zz43), (11, .int zz44), (13, .int zz72)]) [1, 2, 3, 4, 5, 6, 7, 8, 9, 10, 11, 12, 0] (Nat.le_of_ble_eq_true rfl) hnL rfl dL_sound_226 ?_
        refine xr_aload_n (pc := 228) X (i := 0) 0 rfl rfl dL_sound_228 ?_
        refine xr_iconst (pc := 229) X dL_sound_229 (v := 4) (by decide) ?_
        refine xr_iload (pc := 230) X (i := 8) 8 rfl dL_sound_230 ?_
        refine xr_iconst (pc := 232) X dL_sound_232 (v := 3) (by decide) ?_
        refine xr_iconst (pc := 233) X dL_sound_233 (v := 0) (by decide) ?_
        refine xr_callSI (na := 5) (pc := 234) X [.ref (ad oo1), .int 4, .int zz18, .int 3, .int 0] (c_L_call Γ.2.1 hI hst oo1 hh1 4 zz18 3 0 σ71) (wG_S wm_5_23 wm_5_21 wm_5_22 wm_5_14) rfl rfl rfl (by decide +kernel) ⟨Nat.le_of_ble_eq_true rfl, Nat.le_of_ble_eq_true rfl⟩ rfl rfl (Nat.le_of_ble_eq_true rfl) ⟨(show _ ≤ 1029 by omega), (show _ ≤ 6174 by omega)⟩ dL_sound_234 (fun zz74 σ73 => ?_)
        refine xr_istore (pc := 237) X (i := 14) (lv2 := [(0, .ref (ad oo1)), (1, .int zz2), (2, .int zz4), (3, .int zz13), (4, .int zz14), (5, .int zz15), (6, .int zz16), (7, .int zz42), (8, .int zz18), (9, .int zz31), (10, .int zz43), (11, .int zz44), (13, .int zz72), (14, .int zz74)]) [1, 2, 3, 4, 5, 6, 7, 8, 9, 10, 11, 12, 13, 0] (Nat.le_of_ble_eq_true rfl) hnL rfl dL_sound_237 ?_
        refine xr_iload_n (pc := 239) X (i := 3) 3 rfl rfl dL_sound_239 ?_
        refine xr_aload_n (pc := 240) X (i := 0) 0 rfl rfl dL_sound_240 ?_
        refine xr_iconst (pc := 241) X dL_sound_241 (v := 3) (by decide) ?_
        refine xr_iload (pc := 242) X (i := 8) 8 rfl dL_sound_242 ?_
        refine xr_iconst (pc := 244) X dL_sound_244 (v := 0) (by decide) ?_
        refine xr_iconst (pc := 245) X dL_sound_245 (v := 0) (by decide) ?_
        refine xr_callSI (na := 5) (pc := 246) X [.ref (ad oo1), .int 3, .int zz18, .int 0, .int 0] (c_L_call Γ.2.1 hI hst oo1 hh1 3 zz18 0 0 σ73) (wG_S wm_5_23 wm_5_21 wm_5_22 wm_5_14) rfl rfl rfl (by decide +kernel) ⟨Nat.le_of_ble_eq_true rfl, Nat.le_of_ble_eq_true rfl⟩ rfl rfl (Nat.le_of_ble_eq_true rfl) ⟨(show _ ≤ 1029 by omega), (show _ ≤ 6174 by omega)⟩ dL_sound_246 (fun zz76 σ75 => ?_)
        refine xr_iadd (pc := 249) X dL_sound_249 ?_
        refine x_leti (fun zz77 => ?_)
        refine xr_istore_n (pc := 250) X (hf := rfl) (i := 3) (lv2 := [(0, .ref (ad oo1)), (1, .int zz2), (2, .int zz4), (3, .int zz77), (4, .int zz14), (5, .int zz15), (6, .int zz16), (7, .int zz42), (8, .int zz18), (9, .int zz31), (10, .int zz43), (11, .int zz44), (13, .int zz72), (14, .int zz74)]) [1, 2, 3, 0, 4, 5, 6, 7, 8, 9, 10, 11, 12, 13] (Nat.le_of_ble_eq_true rfl) hnL rfl dL_sound_250 ?_
        refine xr_iload (pc := 251) X (i := 4) 4 rfl dL_sound_251 ?_
        refine xr_iload (pc := 253) X (i := 9) 9 rfl dL_sound_253 ?_
        refine xr_iadd (pc := 255) X dL_sound_255 ?_
        refine x_leti (fun zz78 => ?_)
        refine xr_istore (pc := 256) X (i := 4) (lv2 := [(0, .ref (ad oo1)), (1, .int zz2), (2, .int zz4), (3, .int zz77), (4, .int zz78), (5, .int zz15), (6, .int zz16), (7, .int zz42), (8, .int zz18), (9, .int zz31), (10, .int zz43), (11, .int zz44), (13, .int zz72), (14, .int zz74)]) [1, 2, 3, 4, 0, 5, 6, 7, 8, 9, 10, 11, 12, 13] (Nat.le_of_ble_eq_true rfl) hnL rfl dL_sound_256 ?_
        refine xr_iload (pc := 258) X (i := 5) 5 rfl dL_sound_258 ?_
        refine xr_aload_n (pc := 260) X (i := 0) 0 rfl rfl dL_sound_260 ?_
        refine xr_iconst (pc := 261) X dL_sound_261 (v := 3) (by decide) ?_
        refine xr_iload (pc := 262) X (i := 8) 8 rfl dL_sound_262 ?_
        refine xr_iconst (pc := 264) X dL_sound_264 (v := 4) (by decide) ?_
        refine xr_iconst (pc := 265) X dL_sound_265 (v := 0) (by decide) ?_
        refine xr_callSI (na := 5) (pc := 266) X [.ref (ad oo1), .int 3, .int zz18, .int 4, .int 0] (c_L_call Γ.2.1 hI hst oo1 hh1 3 zz18 4 0 σ75) (wG_S wm_5_23 wm_5_21 wm_5_22 wm_5_14) rfl rfl rfl (by decide +kernel) ⟨Nat.le_of_ble_eq_true rfl, Nat.le_of_ble_eq_true rfl⟩ rfl rfl (Nat.le_of_ble_eq_true rfl) ⟨(show _ ≤ 1029 by omega), (show _ ≤ 6174 by omega)⟩ dL_sound_266 (fun zz80 σ79 => ?_)
        refine xr_iadd (pc := 269) X dL_sound_269 ?_
        refine x_leti (fun zz81 => ?_)
        refine xr_istore (pc := 270) X (i := 5) (lv2 := [(0, .ref (ad oo1)), (1, .int zz2), (2, .int zz4), (3, .int zz77), (4, .int zz78), (5, .int zz81), (6, .int zz16), (7, .int zz42), (8, .int zz18), (9, .int zz31), (10, .int zz43), (11, .int zz44), (13, .int zz72), (14, .int zz74)]) [1, 2, 3, 4, 5, 0, 6, 7, 8, 9, 10, 11, 12, 13] (Nat.le_of_ble_eq_true rfl) hnL rfl dL_sound_270 ?_
        refine xr_iload (pc := 272) X (i := 6) 6 rfl dL_sound_272 ?_
        refine xr_aload_n (pc := 274) X (i := 0) 0 rfl rfl dL_sound_274 ?_
        refine xr_iconst (pc := 275) X dL_sound_275 (v := 4) (by decide) ?_
        refine xr_iload (pc := 276) X (i := 8) 8 rfl dL_sound_276 ?_
        refine xr_iconst (pc := 278) X dL_sound_278 (v := 0) (by decide) ?_
        refine xr_iconst (pc := 279) X dL_sound_279 (v := 0) (by decide) ?_
        refine xr_callSI (na := 5) (pc := 280) X [.ref (ad oo1), .int 4, .int zz18, .int 0, .int 0] (c_L_call Γ.2.1 hI hst oo1 hh1 4 zz18 0 0 σ79) (wG_S wm_5_23 wm_5_21 wm_5_22 wm_5_14) rfl rfl rfl (by decide +kernel) ⟨Nat.le_of_ble_eq_true rfl, Nat.le_of_ble_eq_true rfl⟩ rfl rfl (Nat.le_of_ble_eq_true rfl) ⟨(show _ ≤ 1029 by omega), (show _ ≤ 6174 by omega)⟩ dL_sound_280 (fun zz83 σ82 => ?_)
        refine xr_iadd (pc := 283) X dL_sound_283 ?_
        refine x_leti (fun zz84 => ?_)
        refine xr_istore (pc := 284) X (i := 6) (lv2 := [(0, .ref (ad oo1)), (1, .int zz2), (2, .int zz4), (3, .int zz77), (4, .int zz78), (5, .int zz81), (6, .int zz84), (7, .int zz42), (8, .int zz18), (9, .int zz31), (10, .int zz43), (11, .int zz44), (13, .int zz72), (14, .int zz74)]) [1, 2, 3, 4, 5, 6, 0, 7, 8, 9, 10, 11, 12, 13] (Nat.le_of_ble_eq_true rfl) hnL rfl dL_sound_284 ?_
        refine xr_iload (pc := 286) X (i := 7) 7 rfl dL_sound_286 ?_
        refine xr_if_eq (pc := 288) X 519 (by decide) dL_sound_288 (fun _ => ?_) (fun _ => ?_)
        · refine xr_iconst (pc := 519) X dL_sound_519 (v := 0) (by decide) ?_
          refine xr_istore (pc := 520) X (i := 7) (lv2 := [(0, .ref (ad oo1)), (1, .int zz2), (2, .int zz4), (3, .int zz77), (4, .int zz78), (5, .int zz81), (6, .int zz84), (7, .int 0), (8, .int zz18)]) [1, 2, 3, 4, 5, 6, 7, 0, 8] (Nat.le_of_ble_eq_true rfl) hnL rfl dL_sound_520 ?_
          refine xr_iinc (pc := 522) X (i := 8) (j := 8) [1, 2, 3, 4, 5, 6, 7, 8, 0] (Nat.le_of_ble_eq_true rfl) hnL rfl rfl (fun zz85 => [(0, .ref (ad oo1)), (1, .int zz2), (2, .int zz4), (3, .int zz77), (4, .int zz78), (5, .int zz81), (6, .int zz84), (7, .int 0), (8, .int zz85)]) (fun _ => rfl) dL_sound_522 (fun zz85 => ?_)
          refine xr_goto (pc := 525) X 52 (by decide) dL_sound_525 ?_
          exact x_wid (k2 := (kk_11 + 114)) (n2 := 6 * ((kk_11 + 114))) (by omega) (by omega) (ihh21 _ _ _ _ _ _ _ (kk_11 + 114) (by omega))
        refine xr_aload_n (pc := 291) X (i := 0) 0 rfl rfl dL_sound_291 ?_
        refine xr_iconst (pc := 292) X dL_sound_292 (v := 3) (by decide) ?_
        refine xr_iload (pc := 293) X (i := 8) 8 rfl dL_sound_293 ?_
        refine xr_iconst (pc := 295) X dL_sound_295 (v := 3) (by decide) ?_
        refine xr_iconst (pc := 296) X dL_sound_296 (v := 0) (by decide) ?_
        refine xr_callSI (na := 5) (pc := 297) X [.ref (ad oo1), .int 3, .int zz18, .int 3, .int 0] (c_L_call Γ.2.1 hI hst oo1 hh1 3 zz18 3 0 σ82) (wG_S wm_5_23 wm_5_21 wm_5_22 wm_5_14) rfl rfl rfl (by decide +kernel) ⟨Nat.le_of_ble_eq_true rfl, Nat.le_of_ble_eq_true rfl⟩ rfl rfl (Nat.le_of_ble_eq_true rfl) ⟨(show _ ≤ 1029 by omega), (show _ ≤ 6174 by omega)⟩ dL_sound_297 (fun zz87 σ86 => ?_)
        refine xr_aload_n (pc := 300) X (i := 0) 0 rfl rfl dL_sound_300 ?_
        refine xr_iconst (pc := 301) X dL_sound_301 (v := 3) (by decide) ?_
        refine xr_iload (pc := 302) X (i := 8) 8 rfl dL_sound_302 ?_
        refine xr_iconst (pc := 304) X dL_sound_304 (v := 0) (by decide) ?_
        refine xr_iconst (pc := 305) X dL_sound_305 (v := 0) (by decide) ?_
        refine xr_callSI (na := 5) (pc := 306) X [.ref (ad oo1), .int 3, .int zz18, .int 0, .int 0] (c_L_call Γ.2.1 hI hst oo1 hh1 3 zz18 0 0 σ86) (wG_S wm_5_23 wm_5_21 wm_5_22 wm_5_14) rfl rfl rfl (by decide +kernel) ⟨Nat.le_of_ble_eq_true rfl, Nat.le_of_ble_eq_true rfl⟩ rfl rfl (Nat.le_of_ble_eq_true rfl) ⟨(show _ ≤ 1029 by omega), (show _ ≤ 6174 by omega)⟩ dL_sound_306 (fun zz89 σ88 => ?_)
        refine xr_iload (pc := 309) X (i := 10) 10 rfl dL_sound_309 ?_
        refine xr_iadd (pc := 311) X dL_sound_311 ?_
        refine xr_aload_n (pc := 312) X (i := 0) 0 rfl rfl dL_sound_312 ?_
        refine xr_iconst (pc := 313) X dL_sound_313 (v := 4) (by decide) ?_
        refine xr_iload (pc := 314) X (i := 8) 8 rfl dL_sound_314 ?_
        refine xr_iconst (pc := 316) X dL_sound_316 (v := 0) (by decide) ?_
        refine xr_iconst (pc := 317) X dL_sound_317 (v := 0) (by decide) ?_
        refine xr_callSI (na := 5) (pc := 318) X [.ref (ad oo1), .int 4, .int zz18, .int 0, .int 0] (c_L_call Γ.2.1 hI hst oo1 hh1 4 zz18 0 0 σ88) (wG_S wm_5_23 wm_5_21 wm_5_22 wm_5_14) rfl rfl rfl (by decide +kernel) ⟨Nat.le_of_ble_eq_true rfl, Nat.le_of_ble_eq_true rfl⟩ rfl rfl (Nat.le_of_ble_eq_true rfl) ⟨(show _ ≤ 1029 by omega), (show _ ≤ 6174 by omega)⟩ dL_sound_318 (fun zz91 σ90 => ?_)
        refine xr_iadd (pc := 321) X dL_sound_321 ?_
        refine xr_icmp_ne (pc := 322) X 519 (by decide) dL_sound_322 (fun _ => ?_) (fun _ => ?_)
        · refine xr_iconst (pc := 519) X dL_sound_519 (v := 0) (by decide) ?_
          refine xr_istore (pc := 520) X (i := 7) (lv2 := [(0, .ref (ad oo1)), (1, .int zz2), (2, .int zz4), (3, .int zz77), (4, .int zz78), (5, .int zz81), (6, .int zz84), (7, .int 0), (8, .int zz18)]) [1, 2, 3, 4, 5, 6, 7, 0, 8] (Nat.le_of_ble_eq_true rfl) hnL rfl dL_sound_520 ?_
          refine xr_iinc (pc := 522) X (i := 8) (j := 8) [1, 2, 3, 4, 5, 6, 7, 8, 0] (Nat.le_of_ble_eq_true rfl) hnL rfl rfl (fun zz92 => [(0, .ref (ad oo1)), (1, .int zz2), (2, .int zz4), (3, .int zz77), (4, .int zz78), (5, .int zz81), (6, .int zz84), (7, .int 0), (8, .int zz92)]) (fun _ => rfl) dL_sound_522 (fun zz92 => ?_)
          refine xr_goto (pc := 525) X 52 (by decide) dL_sound_525 ?_
          exact x_wid (k2 := (kk_11 + 123)) (n2 := 6 * ((kk_11 + 123))) (by omega) (by omega) (ihh21 _ _ _ _ _ _ _ (kk_11 + 123) (by omega))
        refine xr_aload_n (pc := 325) X (i := 0) 0 rfl rfl dL_sound_325 ?_
        refine xr_iconst (pc := 326) X dL_sound_326 (v := 3) (by decide) ?_
        refine xr_iload (pc := 327) X (i := 8) 8 rfl dL_sound_327 ?_
        refine xr_iconst (pc := 329) X dL_sound_329 (v := 4) (by decide) ?_
        refine xr_iconst (pc := 330) X dL_sound_330 (v := 0) (by decide) ?_
        refine xr_callSI (na := 5) (pc := 331) X [.ref (ad oo1), .int 3, .int zz18, .int 4, .int 0] (c_L_call Γ.2.1 hI hst oo1 hh1 3 zz18 4 0 σ90) (wG_S wm_5_23 wm_5_21 wm_5_22 wm_5_14) rfl rfl rfl (by decide +kernel) ⟨Nat.le_of_ble_eq_true rfl, Nat.le_of_ble_eq_true rfl⟩ rfl rfl (Nat.le_of_ble_eq_true rfl) ⟨(show _ ≤ 1029 by omega), (show _ ≤ 6174 by omega)⟩ dL_sound_331 (fun zz94 σ93 => ?_)
        refine xr_aload_n (pc := 334) X (i := 0) 0 rfl rfl dL_sound_334 ?_
        refine xr_iconst (pc := 335) X dL_sound_335 (v := 3) (by decide) ?_
        refine xr_iload (pc := 336) X (i := 8) 8 rfl dL_sound_336 ?_
        refine xr_bipush (pc := 338) X dL_sound_338 (v := 6) (by decide) ?_
        refine xr_iconst (pc := 340) X dL_sound_340 (v := 0) (by decide) ?_
        refine xr_callSI (na := 5) (pc := 341) X [.ref (ad oo1), .int 3, .int zz18, .int 6, .int 0] (c_L_call Γ.2.1 hI hst oo1 hh1 3 zz18 6 0 σ93) (wG_S wm_5_23 wm_5_21 wm_5_22 wm_5_14) rfl rfl rfl (by decide +kernel) ⟨Nat.le_of_ble_eq_true rfl, Nat.le_of_ble_eq_true rfl⟩ rfl rfl (Nat.le_of_ble_eq_true rfl) ⟨(show _ ≤ 1029 by omega), (show _ ≤ 6174 by omega)⟩ dL_sound_341 (fun zz96 σ95 => ?_)
        refine xr_iload (pc := 344) X (i := 9) 9 rfl dL_sound_344 ?_
        refine xr_iadd (pc := 346) X dL_sound_346 ?_
        refine xr_icmp_ne (pc := 347) X 519 (by decide) dL_sound_347 (fun _ => ?_) (fun _ => ?_)
        · refine xr_iconst (pc := 519) X dL_sound_519 (v := 0) (by decide) ?_
          refine xr_istore (pc := 520) X (i := 7) (lv2 := [(0, .ref (ad oo1)), (1, .int zz2), (2, .int zz4), (3, .int zz77), (4, .int zz78), (5, .int zz81), (6, .int zz84), (7, .int 0), (8, .int zz18)]) [1, 2, 3, 4, 5, 6, 7, 0, 8] (Nat.le_of_ble_eq_true rfl) hnL rfl dL_sound_520 ?_
          refine xr_iinc (pc := 522) X (i := 8) (j := 8) [1, 2, 3, 4, 5, 6, 7, 8, 0] (Nat.le_of_ble_eq_true rfl) hnL rfl rfl (fun zz97 => [(0, .ref (ad oo1)), (1, .int zz2), (2, .int zz4), (3, .int zz77), (4, .int zz78), (5, .int zz81), (6, .int zz84), (7, .int 0), (8, .int zz97)]) (fun _ => rfl) dL_sound_522 (fun zz97 => ?_)
          refine xr_goto (pc := 525) X 52 (by decide) dL_sound_525 ?_
          exact x_wid (k2 := (kk_11 + 129)) (n2 := 6 * ((kk_11 + 129))) (by omega) (by omega) (ihh21 _ _ _ _ _ _ _ (kk_11 + 129) (by omega))
        refine xr_aload_n (pc := 350) X (i := 0) 0 rfl rfl dL_sound_350 ?_
        refine xr_iconst (pc := 351) X dL_sound_351 (v := 3) (by decide) ?_
        refine xr_iload (pc := 352) X (i := 8) 8 rfl dL_sound_352 ?_
        refine xr_iconst (pc := 354) X dL_sound_354 (v := 4) (by decide) ?_
        refine xr_iconst (pc := 355) X dL_sound_355 (v := 0) (by decide) ?_
        refine xr_callSI (na := 5) (pc := 356) X [.ref (ad oo1), .int 3, .int zz18, .int 4, .int 0] (c_L_call Γ.2.1 hI hst oo1 hh1 3 zz18 4 0 σ95) (wG_S wm_5_23 wm_5_21 wm_5_22 wm_5_14) rfl rfl rfl (by decide +kernel) ⟨Nat.le_of_ble_eq_true rfl, Nat.le_of_ble_eq_true rfl⟩ rfl rfl (Nat.le_of_ble_eq_true rfl) ⟨(show _ ≤ 1029 by omega), (show _ ≤ 6174 by omega)⟩ dL_sound_356 (fun zz99 σ98 => ?_)
        refine xr_aload_n (pc := 359) X (i := 0) 0 rfl rfl dL_sound_359 ?_
        refine xr_iconst (pc := 360) X dL_sound_360 (v := 4) (by decide) ?_
        refine xr_iload (pc := 361) X (i := 8) 8 rfl dL_sound_361 ?_
        refine xr_iconst (pc := 363) X dL_sound_363 (v := 1) (by decide) ?_
        refine xr_iconst (pc := 364) X dL_sound_364 (v := 0) (by decide) ?_
        refine xr_callSI (na := 5) (pc := 365) X [.ref (ad oo1), .int 4, .int zz18, .int 1, .int 0] (c_L_call Γ.2.1 hI hst oo1 hh1 4 zz18 1 0 σ98) (wG_S wm_5_23 wm_5_21 wm_5_22 wm_5_14) rfl rfl rfl (by decide +kernel) ⟨Nat.le_of_ble_eq_true rfl, Nat.le_of_ble_eq_true rfl⟩ rfl rfl (Nat.le_of_ble_eq_true rfl) ⟨(show _ ≤ 1029 by omega), (show _ ≤ 6174 by omega)⟩ dL_sound_365 (fun zz101 σ100 => ?_)
        refine xr_iload (pc := 368) X (i := 11) 11 rfl dL_sound_368 ?_
        refine xr_iadd (pc := 370) X dL_sound_370 ?_
        refine xr_icmp_ne (pc := 371) X 519 (by decide) dL_sound_371 (fun _ => ?_) (fun _ => ?_)
        · refine xr_iconst (pc := 519) X dL_sound_519 (v := 0) (by decide) ?_
          refine xr_istore (pc := 520) X (i := 7) (lv2 := [(0, .ref (ad oo1)), (1, .int zz2), (2, .int zz4), (3, .int zz77), (4, .int zz78), (5, .int zz81), (6, .int zz84), (7, .int 0), (8, .int zz18)]) [1, 2, 3, 4, 5, 6, 7, 0, 8] (Nat.le_of_ble_eq_true rfl) hnL rfl dL_sound_520 ?_
          refine xr_iinc (pc := 522) X (i := 8) (j := 8) [1, 2, 3, 4, 5, 6, 7, 8, 0] (Nat.le_of_ble_eq_true rfl) hnL rfl rfl (fun zz102 => [(0, .ref (ad oo1)), (1, .int zz2), (2, .int zz4), (3, .int zz77), (4, .int zz78), (5, .int zz81), (6, .int zz84), (7, .int 0), (8, .int zz102)]) (fun _ => rfl) dL_sound_522 (fun zz102 => ?_)
          refine xr_goto (pc := 525) X 52 (by decide) dL_sound_525 ?_
          exact x_wid (k2 := (kk_11 + 135)) (n2 := 6 * ((kk_11 + 135))) (by omega) (by omega) (ihh21 _ _ _ _ _ _ _ (kk_11 + 135) (by omega))
        refine xr_iload (pc := 374) X (i := 13) 12 rfl dL_sound_374 ?_
        refine xr_if_lt (pc := 376) X 519 (by decide) dL_sound_376 (fun _ => ?_) (fun _ => ?_)
        · refine xr_iconst (pc := 519) X dL_sound_519 (v := 0) (by decide) ?_
          refine xr_istore (pc := 520) X (i := 7) (lv2 := [(0, .ref (ad oo1)), (1, .int zz2), (2, .int zz4), (3, .int zz77), (4, .int zz78), (5, .int zz81), (6, .int zz84), (7, .int 0), (8, .int zz18)]) [1, 2, 3, 4, 5, 6, 7, 0, 8] (Nat.le_of_ble_eq_true rfl) hnL rfl dL_sound_520 ?_
          refine xr_iinc (pc := 522) X (i := 8) (j := 8) [1, 2, 3, 4, 5, 6, 7, 8, 0] (Nat.le_of_ble_eq_true rfl) hnL rfl rfl (fun zz103 => [(0, .ref (ad oo1)), (1, .int zz2), (2, .int zz4), (3, .int zz77), (4, .int zz78), (5, .int zz81), (6, .int zz84), (7, .int 0), (8, .int zz103)]) (fun _ => rfl) dL_sound_522 (fun zz103 => ?_)
          refine xr_goto (pc := 525) X 52 (by decide) dL_sound_525 ?_
          exact x_wid (k2 := (kk_11 + 135)) (n2 := 6 * ((kk_11 + 135))) (by omega) (by omega) (ihh21 _ _ _ _ _ _ _ (kk_11 + 135) (by omega))
        refine xr_iload (pc := 379) X (i := 13) 12 rfl dL_sound_379 ?_
        refine xr_iconst (pc := 381) X dL_sound_381 (v := 2) (by decide) ?_
        refine xr_icmp_ge (pc := 382) X 519 (by decide) dL_sound_382 (fun _ => ?_) (fun _ => ?_)
        · refine xr_iconst (pc := 519) X dL_sound_519 (v := 0) (by decide) ?_
          refine xr_istore (pc := 520) X (i := 7) (lv2 := [(0, .ref (ad oo1)), (1, .int zz2), (2, .int zz4), (3, .int zz77), (4, .int zz78), (5, .int zz81), (6, .int zz84), (7, .int 0), (8, .int zz18)]) [1, 2, 3, 4, 5, 6, 7, 0, 8] (Nat.le_of_ble_eq_true rfl) hnL rfl dL_sound_520 ?_
          refine xr_iinc (pc := 522) X (i := 8) (j := 8) [1, 2, 3, 4, 5, 6, 7, 8, 0] (Nat.le_of_ble_eq_true rfl) hnL rfl rfl (fun zz104 => [(0, .ref (ad oo1)), (1, .int zz2), (2, .int zz4), (3, .int zz77), (4, .int zz78), (5, .int zz81), (6, .int zz84), (7, .int 0), (8, .int zz104)]) (fun _ => rfl) dL_sound_522 (fun zz104 => ?_)
          refine xr_goto (pc := 525) X 52 (by decide) dL_sound_525 ?_
          exact x_wid (k2 := (kk_11 + 135)) (n2 := 6 * ((kk_11 + 135))) (by omega) (by omega) (ihh21 _ _ _ _ _ _ _ (kk_11 + 135) (by omega))
        refine xr_iload (pc := 385) X (i := 13) 12 rfl dL_sound_385 ?_
        refine x_jn (fun (KK107 : Int32 → xS → Option (Int32 × xS)) => ∀ zz105 σ106, xM Γ D ad N Sh (xQI Γ D ad N Sh 1029 6174) (kk_11 + 135) (6 * kk_11 + 810) (KK107 zz105 σ106) σ106 395 [(0, .ref (ad oo1)), (1, .int zz2), (2, .int zz4), (3, .int zz77), (4, .int zz78), (5, .int zz81), (6, .int zz84), (8, .int zz18), (9, .int zz31), (14, .int zz74)] [.int zz105]) (fun zz105 σ106 => ?_) (fun KK107 hKK108 => ?_)
        · refine xr_iload (pc := 395) X (i := 14) 9 rfl dL_sound_395 ?_
          refine xr_iconst (pc := 397) X dL_sound_397 (v := (-1)) (by decide) ?_
          refine x_jn (fun (KK111 : Int32 → xS → Option (Int32 × xS)) => ∀ zz109 σ110, xM Γ D ad N Sh (xQI Γ D ad N Sh 1029 6174) (kk_11 + 135) (6 * kk_11 + 810) (KK111 zz109 σ110) σ110 406 [(0, .ref (ad oo1)), (1, .int zz2), (2, .int zz4), (3, .int zz77), (4, .int zz78), (5, .int zz81), (6, .int zz84), (8, .int zz18), (9, .int zz31), (14, .int zz74)] [.int zz109, .int zz105]) (fun zz109 σ110 => ?_) (fun KK111 hKK112 => ?_)
          · refine xr_icmp_ne (pc := 406) X 519 (by decide) dL_sound_406 (fun _ => ?_) (fun _ => ?_)
            · refine xr_iconst (pc := 519) X dL_sound_519 (v := 0) (by decide) ?_
              refine xr_istore (pc := 520) X (i := 7) (lv2 := [(0, .ref (ad oo1)), (1, .int zz2), (2, .int zz4), (3, .int zz77), (4, .int zz78), (5, .int zz81), (6, .int zz84), (7, .int 0), (8, .int zz18)]) [1, 2, 3, 4, 5, 6, 7, 0, 8] (Nat.le_of_ble_eq_true rfl) hnL rfl dL_sound_520 ?_
              refine xr_iinc (pc := 522) X (i := 8) (j := 8) [1, 2, 3, 4, 5, 6, 7, 8, 0] (Nat.le_of_ble_eq_true rfl) hnL rfl rfl (fun zz113 => [(0, .ref (ad oo1)), (1, .int zz2), (2, .int zz4), (3, .int zz77), (4, .int zz78), (5, .int zz81), (6, .int zz84), (7, .int 0), (8, .int zz113)]) (fun _ => rfl) dL_sound_522 (fun zz113 => ?_)
              refine xr_goto (pc := 525) X 52 (by decide) dL_sound_525 ?_
              exact x_wid (k2 := (kk_11 + 135)) (n2 := 6 * ((kk_11 + 135))) (by omega) (by omega) (ihh21 _ _ _ _ _ _ _ (kk_11 + 135) (by omega))
            refine xr_iload (pc := 409) X (i := 14) 9 rfl dL_sound_409 ?_
            refine xr_iconst (pc := 411) X dL_sound_411 (v := (-1)) (by decide) ?_
            refine x_jn (fun (KK115 : xS → Option (Int32 × xS)) => ∀ σ114, xM Γ D ad N Sh (xQI Γ D ad N Sh 1029 6174) (kk_11 + 135) (6 * kk_11 + 810) (KK115 σ114) σ114 430 [(0, .ref (ad oo1)), (1, .int zz2), (2, .int zz4), (3, .int zz77), (4, .int zz78), (5, .int zz81), (6, .int zz84), (8, .int zz18), (9, .int zz31)] []) (fun σ114 => ?_) (fun KK115 hKK116 => ?_)
            · refine xr_iload (pc := 430) X (i := 9) 8 rfl dL_sound_430 ?_
              refine xr_bipush (pc := 432) X dL_sound_432 (v := 6) (by decide) ?_
              refine xr_icmp_gt (pc := 434) X 519 (by decide) dL_sound_434 (fun _ => ?_) (fun _ => ?_)
              · refine xr_iconst (pc := 519) X dL_sound_519 (v := 0) (by decide) ?_
                refine xr_istore (pc := 520) X (i := 7) (lv2 := [(0, .ref (ad oo1)), (1, .int zz2), (2, .int zz4), (3, .int zz77), (4, .int zz78), (5, .int zz81), (6, .int zz84), (7, .int 0), (8, .int zz18)]) [1, 2, 3, 4, 5, 6, 7, 0, 8] (Nat.le_of_ble_eq_true rfl) hnL rfl dL_sound_520 ?_
                refine xr_iinc (pc := 522) X (i := 8) (j := 8) [1, 2, 3, 4, 5, 6, 7, 8, 0] (Nat.le_of_ble_eq_true rfl) hnL rfl rfl (fun zz119 => [(0, .ref (ad oo1)), (1, .int zz2), (2, .int zz4), (3, .int zz77), (4, .int zz78), (5, .int zz81), (6, .int zz84), (7, .int 0), (8, .int zz119)]) (fun _ => rfl) dL_sound_522 (fun zz119 => ?_)
                refine xr_goto (pc := 525) X 52 (by decide) dL_sound_525 ?_
                exact x_wid (k2 := (kk_11 + 135)) (n2 := 6 * ((kk_11 + 135))) (by omega) (by omega) (ihh21 _ _ _ _ _ _ _ (kk_11 + 135) (by omega))
              refine xr_aload_n (pc := 437) X (i := 0) 0 rfl rfl dL_sound_437 ?_
              refine xr_iconst (pc := 438) X dL_sound_438 (v := 4) (by decide) ?_
              refine xr_iload (pc := 439) X (i := 8) 7 rfl dL_sound_439 ?_
              refine xr_iconst (pc := 441) X dL_sound_441 (v := 5) (by decide) ?_
              refine xr_iconst (pc := 442) X dL_sound_442 (v := 0) (by decide) ?_
              refine xr_callSI (na := 5) (pc := 443) X [.ref (ad oo1), .int 4, .int zz18, .int 5, .int 0] (c_L_call Γ.2.1 hI hst oo1 hh1 4 zz18 5 0 σ114) (wG_S wm_5_23 wm_5_21 wm_5_22 wm_5_14) rfl rfl rfl (by decide +kernel) ⟨Nat.le_of_ble_eq_true rfl, Nat.le_of_ble_eq_true rfl⟩ rfl rfl (Nat.le_of_ble_eq_true rfl) ⟨(show _ ≤ 1029 by omega), (show _ ≤ 6174 by omega)⟩ dL_sound_443 (fun zz121 σ120 => ?_)
              refine xr_iload (pc := 446) X (i := 9) 8 rfl dL_sound_446 ?_
              refine xr_icmp_gt (pc := 448) X 519 (by decide) dL_sound_448 (fun _ => ?_) (fun _ => ?_)
              · refine xr_iconst (pc := 519) X dL_sound_519 (v := 0) (by decide) ?_
                refine xr_istore (pc := 520) X (i := 7) (lv2 := [(0, .ref (ad oo1)), (1, .int zz2), (2, .int zz4), (3, .int zz77), (4, .int zz78), (5, .int zz81), (6, .int zz84), (7, .int 0), (8, .int zz18)]) [1, 2, 3, 4, 5, 6, 7, 0, 8] (Nat.le_of_ble_eq_true rfl) hnL rfl dL_sound_520 ?_
                refine xr_iinc (pc := 522) X (i := 8) (j := 8) [1, 2, 3, 4, 5, 6, 7, 8, 0] (Nat.le_of_ble_eq_true rfl) hnL rfl rfl (fun zz122 => [(0, .ref (ad oo1)), (1, .int zz2), (2, .int zz4), (3, .int zz77), (4, .int zz78), (5, .int zz81), (6, .int zz84), (7, .int 0), (8, .int zz122)]) (fun _ => rfl) dL_sound_522 (fun zz122 => ?_)
                refine xr_goto (pc := 525) X 52 (by decide) dL_sound_525 ?_
                exact x_wid (k2 := (kk_11 + 138)) (n2 := 6 * ((kk_11 + 138))) (by omega) (by omega) (ihh21 _ _ _ _ _ _ _ (kk_11 + 138) (by omega))
              refine xr_aload_n (pc := 451) X (i := 0) 0 rfl rfl dL_sound_451 ?_
              refine xr_iconst (pc := 452) X dL_sound_452 (v := 4) (by decide) ?_
              refine xr_iload (pc := 453) X (i := 8) 7 rfl dL_sound_453 ?_
              refine xr_iconst (pc := 455) X dL_sound_455 (v := 4) (by decide) ?_
              refine xr_iconst (pc := 456) X dL_sound_456 (v := 0) (by decide) ?_
              refine xr_callSI (na := 5) (pc := 457) X [.ref (ad oo1), .int 4, .int zz18, .int 4, .int 0] (c_L_call Γ.2.1 hI hst oo1 hh1 4 zz18 4 0 σ120) (wG_S wm_5_23 wm_5_21 wm_5_22 wm_5_14) rfl rfl rfl (by decide +kernel) ⟨Nat.le_of_ble_eq_true rfl, Nat.le_of_ble_eq_true rfl⟩ rfl rfl (Nat.le_of_ble_eq_true rfl) ⟨(show _ ≤ 1029 by omega), (show _ ≤ 6174 by omega)⟩ dL_sound_457 (fun zz124 σ123 => ?_)
              refine xr_aload_n (pc := 460) X (i := 0) 0 rfl rfl dL_sound_460 ?_
              refine xr_iconst (pc := 461) X dL_sound_461 (v := 4) (by decide) ?_
              refine xr_iload (pc := 462) X (i := 8) 7 rfl dL_sound_462 ?_
              refine xr_iconst (pc := 464) X dL_sound_464 (v := 1) (by decide) ?_
              refine xr_iconst (pc := 465) X dL_sound_465 (v := 0) (by decide) ?_
              refine xr_callSI (na := 5) (pc := 466) X [.ref (ad oo1), .int 4, .int zz18, .int 1, .int 0] (c_L_call Γ.2.1 hI hst oo1 hh1 4 zz18 1 0 σ123) (wG_S wm_5_23 wm_5_21 wm_5_22 wm_5_14) rfl rfl rfl (by decide +kernel) ⟨Nat.le_of_ble_eq_true rfl, Nat.le_of_ble_eq_true rfl⟩ rfl rfl (Nat.le_of_ble_eq_true rfl) ⟨(show _ ≤ 1029 by omega), (show _ ≤ 6174 by omega)⟩ dL_sound_466 (fun zz126 σ125 => ?_)
              refine xr_icmp_gt (pc := 469) X 519 (by decide) dL_sound_469 (fun _ => ?_) (fun _ => ?_)
              · refine xr_iconst (pc := 519) X dL_sound_519 (v := 0) (by decide) ?_
                refine xr_istore (pc := 520) X (i := 7) (lv2 := [(0, .ref (ad oo1)), (1, .int zz2), (2, .int zz4), (3, .int zz77), (4, .int zz78), (5, .int zz81), (6, .int zz84), (7, .int 0), (8, .int zz18)]) [1, 2, 3, 4, 5, 6, 7, 0, 8] (Nat.le_of_ble_eq_true rfl) hnL rfl dL_sound_520 ?_
                refine xr_iinc (pc := 522) X (i := 8) (j := 8) [1, 2, 3, 4, 5, 6, 7, 8, 0] (Nat.le_of_ble_eq_true rfl) hnL rfl rfl (fun zz127 => [(0, .ref (ad oo1)), (1, .int zz2), (2, .int zz4), (3, .int zz77), (4, .int zz78), (5, .int zz81), (6, .int zz84), (7, .int 0), (8, .int zz127)]) (fun _ => rfl) dL_sound_522 (fun zz127 => ?_)
                refine xr_goto (pc := 525) X 52 (by decide) dL_sound_525 ?_
                exact x_wid (k2 := (kk_11 + 144)) (n2 := 6 * ((kk_11 + 144))) (by omega) (by omega) (ihh21 _ _ _ _ _ _ _ (kk_11 + 144) (by omega))
              refine xr_aload_n (pc := 472) X (i := 0) 0 rfl rfl dL_sound_472 ?_
              refine xr_bipush (pc := 473) X dL_sound_473 (v := 15) (by decide) ?_
              refine xr_iload (pc := 475) X (i := 8) 7 rfl dL_sound_475 ?_
              refine xr_iconst (pc := 477) X dL_sound_477 (v := 0) (by decide) ?_
              refine xr_iconst (pc := 478) X dL_sound_478 (v := 0) (by decide) ?_
              refine xr_callSI (na := 5) (pc := 479) X [.ref (ad oo1), .int 15, .int zz18, .int 0, .int 0] (c_L_call Γ.2.1 hI hst oo1 hh1 15 zz18 0 0 σ125) (wG_S wm_5_23 wm_5_21 wm_5_22 wm_5_14) rfl rfl rfl (by decide +kernel) ⟨Nat.le_of_ble_eq_true rfl, Nat.le_of_ble_eq_true rfl⟩ rfl rfl (Nat.le_of_ble_eq_true rfl) ⟨(show _ ≤ 1029 by omega), (show _ ≤ 6174 by omega)⟩ dL_sound_479 (fun zz129 σ128 => ?_)
              refine x_jn (fun (KK131 : xS → Option (Int32 × xS)) => ∀ σ130, xM Γ D ad N Sh (xQI Γ D ad N Sh 1029 6174) (kk_11 + 150) (6 * kk_11 + 900) (KK131 σ130) σ130 502 [(0, .ref (ad oo1)), (1, .int zz2), (2, .int zz4), (3, .int zz77), (4, .int zz78), (5, .int zz81), (6, .int zz84), (8, .int zz18)] []) (fun σ130 => ?_) (fun KK131 hKK132 => ?_)
              · refine xr_aload_n (pc := 502) X (i := 0) 0 rfl rfl dL_sound_502 ?_
                refine xr_iconst (pc := 503) X dL_sound_503 (v := 3) (by decide) ?_
                refine xr_iload (pc := 504) X (i := 8) 7 rfl dL_sound_504 ?_
                refine xr_iconst (pc := 506) X dL_sound_506 (v := 5) (by decide) ?_
                refine xr_iconst (pc := 507) X dL_sound_507 (v := 0) (by decide) ?_
                refine xr_callSI (na := 5) (pc := 508) X [.ref (ad oo1), .int 3, .int zz18, .int 5, .int 0] (c_L_call Γ.2.1 hI hst oo1 hh1 3 zz18 5 0 σ130) (wG_S wm_5_23 wm_5_21 wm_5_22 wm_5_14) rfl rfl rfl (by decide +kernel) ⟨Nat.le_of_ble_eq_true rfl, Nat.le_of_ble_eq_true rfl⟩ rfl rfl (Nat.le_of_ble_eq_true rfl) ⟨(show _ ≤ 1029 by omega), (show _ ≤ 6174 by omega)⟩ dL_sound_508 (fun zz138 σ137 => ?_)
                refine xr_iload_n (pc := 511) X (i := 2) 2 rfl rfl dL_sound_511 ?_
                refine xr_icmp_gt (pc := 512) X 519 (by decide) dL_sound_512 (fun _ => ?_) (fun _ => ?_)
                · refine xr_iconst (pc := 519) X dL_sound_519 (v := 0) (by decide) ?_
                  refine xr_istore (pc := 520) X (i := 7) (lv2 := [(0, .ref (ad oo1)), (1, .int zz2), (2, .int zz4), (3, .int zz77), (4, .int zz78), (5, .int zz81), (6, .int zz84), (7, .int 0), (8, .int zz18)]) [1, 2, 3, 4, 5, 6, 7, 0, 8] (Nat.le_of_ble_eq_true rfl) hnL rfl dL_sound_520 ?_
                  refine xr_iinc (pc := 522) X (i := 8) (j := 8) [1, 2, 3, 4, 5, 6, 7, 8, 0] (Nat.le_of_ble_eq_true rfl) hnL rfl rfl (fun zz139 => [(0, .ref (ad oo1)), (1, .int zz2), (2, .int zz4), (3, .int zz77), (4, .int zz78), (5, .int zz81), (6, .int zz84), (7, .int 0), (8, .int zz139)]) (fun _ => rfl) dL_sound_522 (fun zz139 => ?_)
                  refine xr_goto (pc := 525) X 52 (by decide) dL_sound_525 ?_
                  exact x_wid (k2 := (kk_11 + 153)) (n2 := 6 * ((kk_11 + 153))) (by omega) (by omega) (ihh21 _ _ _ _ _ _ _ (kk_11 + 153) (by omega))
                refine xr_iconst (pc := 515) X dL_sound_515 (v := 1) (by decide) ?_
                refine xr_goto (pc := 516) X 520 (by decide) dL_sound_516 ?_
                refine xr_istore (pc := 520) X (i := 7) (lv2 := [(0, .ref (ad oo1)), (1, .int zz2), (2, .int zz4), (3, .int zz77), (4, .int zz78), (5, .int zz81), (6, .int zz84), (7, .int 1), (8, .int zz18)]) [1, 2, 3, 4, 5, 6, 7, 0, 8] (Nat.le_of_ble_eq_true rfl) hnL rfl dL_sound_520 ?_
                refine xr_iinc (pc := 522) X (i := 8) (j := 8) [1, 2, 3, 4, 5, 6, 7, 8, 0] (Nat.le_of_ble_eq_true rfl) hnL rfl rfl (fun zz140 => [(0, .ref (ad oo1)), (1, .int zz2), (2, .int zz4), (3, .int zz77), (4, .int zz78), (5, .int zz81), (6, .int zz84), (7, .int 1), (8, .int zz140)]) (fun _ => rfl) dL_sound_522 (fun zz140 => ?_)
                refine xr_goto (pc := 525) X 52 (by decide) dL_sound_525 ?_
                exact x_wid (k2 := (kk_11 + 153)) (n2 := 6 * ((kk_11 + 153))) (by omega) (by omega) (ihh21 _ _ _ _ _ _ _ (kk_11 + 153) (by omega))
              refine xr_if_ne (pc := 482) X 502 (by decide) dL_sound_482 (fun _ => ?_) (fun _ => ?_)
              · exact x_sub [0, 1, 2, 3, 4, 5, 6, 7] rfl (x_wid (by omega) (by omega) (hKK132  _))
              refine xr_iload (pc := 485) X (i := 9) 8 rfl dL_sound_485 ?_
              refine xr_if_ne (pc := 487) X 519 (by decide) dL_sound_487 (fun _ => ?_) (fun _ => ?_)
              · refine xr_iconst (pc := 519) X dL_sound_519 (v := 0) (by decide) ?_
                refine xr_istore (pc := 520) X (i := 7) (lv2 := [(0, .ref (ad oo1)), (1, .int zz2), (2, .int zz4), (3, .int zz77), (4, .int zz78), (5, .int zz81), (6, .int zz84), (7, .int 0), (8, .int zz18)]) [1, 2, 3, 4, 5, 6, 7, 0, 8] (Nat.le_of_ble_eq_true rfl) hnL rfl dL_sound_520 ?_
                refine xr_iinc (pc := 522) X (i := 8) (j := 8) [1, 2, 3, 4, 5, 6, 7, 8, 0] (Nat.le_of_ble_eq_true rfl) hnL rfl rfl (fun zz133 => [(0, .ref (ad oo1)), (1, .int zz2), (2, .int zz4), (3, .int zz77), (4, .int zz78), (5, .int zz81), (6, .int zz84), (7, .int 0), (8, .int zz133)]) (fun _ => rfl) dL_sound_522 (fun zz133 => ?_)
                refine xr_goto (pc := 525) X 52 (by decide) dL_sound_525 ?_
                exact x_wid (k2 := (kk_11 + 147)) (n2 := 6 * ((kk_11 + 147))) (by omega) (by omega) (ihh21 _ _ _ _ _ _ _ (kk_11 + 147) (by omega))
              refine xr_aload_n (pc := 490) X (i := 0) 0 rfl rfl dL_sound_490 ?_
              refine xr_iconst (pc := 491) X dL_sound_491 (v := 3) (by decide) ?_
              refine xr_iload (pc := 492) X (i := 8) 7 rfl dL_sound_492 ?_
              refine xr_iconst (pc := 494) X dL_sound_494 (v := 0) (by decide) ?_
              refine xr_iconst (pc := 495) X dL_sound_495 (v := 0) (by decide) ?_
              refine xr_callSI (na := 5) (pc := 496) X [.ref (ad oo1), .int 3, .int zz18, .int 0, .int 0] (c_L_call Γ.2.1 hI hst oo1 hh1 3 zz18 0 0 σ128) (wG_S wm_5_23 wm_5_21 wm_5_22 wm_5_14) rfl rfl rfl (by decide +kernel) ⟨Nat.le_of_ble_eq_true rfl, Nat.le_of_ble_eq_true rfl⟩ rfl rfl (Nat.le_of_ble_eq_true rfl) ⟨(show _ ≤ 1029 by omega), (show _ ≤ 6174 by omega)⟩ dL_sound_496 (fun zz135 σ134 => ?_)
              refine xr_if_ne (pc := 499) X 519 (by decide) dL_sound_499 (fun _ => ?_) (fun _ => ?_)
              · refine xr_iconst (pc := 519) X dL_sound_519 (v := 0) (by decide) ?_
                refine xr_istore (pc := 520) X (i := 7) (lv2 := [(0, .ref (ad oo1)), (1, .int zz2), (2, .int zz4), (3, .int zz77), (4, .int zz78), (5, .int zz81), (6, .int zz84), (7, .int 0), (8, .int zz18)]) [1, 2, 3, 4, 5, 6, 7, 0, 8] (Nat.le_of_ble_eq_true rfl) hnL rfl dL_sound_520 ?_
                refine xr_iinc (pc := 522) X (i := 8) (j := 8) [1, 2, 3, 4, 5, 6, 7, 8, 0] (Nat.le_of_ble_eq_true rfl) hnL rfl rfl (fun zz136 => [(0, .ref (ad oo1)), (1, .int zz2), (2, .int zz4), (3, .int zz77), (4, .int zz78), (5, .int zz81), (6, .int zz84), (7, .int 0), (8, .int zz136)]) (fun _ => rfl) dL_sound_522 (fun zz136 => ?_)
                refine xr_goto (pc := 525) X 52 (by decide) dL_sound_525 ?_
                exact x_wid (k2 := (kk_11 + 150)) (n2 := 6 * ((kk_11 + 150))) (by omega) (by omega) (ihh21 _ _ _ _ _ _ _ (kk_11 + 150) (by omega))
              exact x_sub [0, 1, 2, 3, 4, 5, 6, 7] rfl (x_wid (by omega) (by omega) (hKK132  _))
            refine xr_icmp_eq (pc := 412) X 430 (by decide) dL_sound_412 (fun _ => ?_) (fun _ => ?_)
            · exact x_sub [0, 1, 2, 3, 4, 5, 6, 7, 8] rfl (x_wid (by omega) (by omega) (hKK116  _))
            refine xr_iload (pc := 415) X (i := 14) 9 rfl dL_sound_415 ?_
            refine xr_iload_n (pc := 417) X (i := 2) 2 rfl rfl dL_sound_417 ?_
            refine xr_icmp_le (pc := 418) X 519 (by decide) dL_sound_418 (fun _ => ?_) (fun _ => ?_)
            · refine xr_iconst (pc := 519) X dL_sound_519 (v := 0) (by decide) ?_
              refine xr_istore (pc := 520) X (i := 7) (lv2 := [(0, .ref (ad oo1)), (1, .int zz2), (2, .int zz4), (3, .int zz77), (4, .int zz78), (5, .int zz81), (6, .int zz84), (7, .int 0), (8, .int zz18)]) [1, 2, 3, 4, 5, 6, 7, 0, 8] (Nat.le_of_ble_eq_true rfl) hnL rfl dL_sound_520 ?_
              refine xr_iinc (pc := 522) X (i := 8) (j := 8) [1, 2, 3, 4, 5, 6, 7, 8, 0] (Nat.le_of_ble_eq_true rfl) hnL rfl rfl (fun zz117 => [(0, .ref (ad oo1)), (1, .int zz2), (2, .int zz4), (3, .int zz77), (4, .int zz78), (5, .int zz81), (6, .int zz84), (7, .int 0), (8, .int zz117)]) (fun _ => rfl) dL_sound_522 (fun zz117 => ?_)
              refine xr_goto (pc := 525) X 52 (by decide) dL_sound_525 ?_
              exact x_wid (k2 := (kk_11 + 135)) (n2 := 6 * ((kk_11 + 135))) (by omega) (by omega) (ihh21 _ _ _ _ _ _ _ (kk_11 + 135) (by omega))
            refine xr_iload (pc := 421) X (i := 14) 9 rfl dL_sound_421 ?_
            refine xr_iload_n (pc := 423) X (i := 2) 2 rfl rfl dL_sound_423 ?_
            refine xr_bipush (pc := 424) X dL_sound_424 (v := 20) (by decide) ?_
            refine xr_iadd (pc := 426) X dL_sound_426 ?_
            refine xr_icmp_gt (pc := 427) X 519 (by decide) dL_sound_427 (fun _ => ?_) (fun _ => ?_)
            · refine xr_iconst (pc := 519) X dL_sound_519 (v := 0) (by decide) ?_
              refine xr_istore (pc := 520) X (i := 7) (lv2 := [(0, .ref (ad oo1)), (1, .int zz2), (2, .int zz4), (3, .int zz77), (4, .int zz78), (5, .int zz81), (6, .int zz84), (7, .int 0), (8, .int zz18)]) [1, 2, 3, 4, 5, 6, 7, 0, 8] (Nat.le_of_ble_eq_true rfl) hnL rfl dL_sound_520 ?_
              refine xr_iinc (pc := 522) X (i := 8) (j := 8) [1, 2, 3, 4, 5, 6, 7, 8, 0] (Nat.le_of_ble_eq_true rfl) hnL rfl rfl (fun zz118 => [(0, .ref (ad oo1)), (1, .int zz2), (2, .int zz4), (3, .int zz77), (4, .int zz78), (5, .int zz81), (6, .int zz84), (7, .int 0), (8, .int zz118)]) (fun _ => rfl) dL_sound_522 (fun zz118 => ?_)
              refine xr_goto (pc := 525) X 52 (by decide) dL_sound_525 ?_
              exact x_wid (k2 := (kk_11 + 135)) (n2 := 6 * ((kk_11 + 135))) (by omega) (by omega) (ihh21 _ _ _ _ _ _ _ (kk_11 + 135) (by omega))
            exact x_sub [0, 1, 2, 3, 4, 5, 6, 7, 8] rfl (x_wid (by omega) (by omega) (hKK116  _))
          refine xr_icmp_ne (pc := 398) X 405 (by decide) dL_sound_398 (fun _ => ?_) (fun _ => ?_)
          · refine xr_iconst (pc := 405) X dL_sound_405 (v := 0) (by decide) ?_
            exact x_wid (by omega) (by omega) (hKK112 _ _)
          refine xr_iconst (pc := 401) X dL_sound_401 (v := 1) (by decide) ?_
          refine xr_goto (pc := 402) X 406 (by decide) dL_sound_402 ?_
          exact x_wid (by omega) (by omega) (hKK112 _ _)
        refine xr_if_ne (pc := 387) X 394 (by decide) dL_sound_387 (fun _ => ?_) (fun _ => ?_)
        · refine xr_iconst (pc := 394) X dL_sound_394 (v := 0) (by decide) ?_
          exact x_sub [0, 1, 2, 3, 4, 5, 6, 8, 9, 13] rfl (x_wid (by omega) (by omega) (hKK108 _ _))
        refine xr_iconst (pc := 390) X dL_sound_390 (v := 1) (by decide) ?_
        refine xr_goto (pc := 391) X 395 (by decide) dL_sound_391 ?_
        exact x_sub [0, 1, 2, 3, 4, 5, 6, 8, 9, 13] rfl (x_wid (by omega) (by omega) (hKK108 _ _))
    refine x_wid (k2 := 9) (n2 := 6 * (9)) (by omega) (by omega) (hLL172 _ (fun zz22 zz23 zz24 zz25 zz26 σ29 => ?_) _ _ _ _ _ _ _ _ 9 (by omega))
    refine xr_iload_n (pc := 528) X (i := 2) 2 rfl rfl dL_sound_528 ?_
    refine xr_istore (pc := 529) X (i := 8) (lv2 := [(0, .ref (ad oo1)), (1, .int zz2), (2, .int zz4), (3, .int zz22), (4, .int zz23), (5, .int zz24), (6, .int zz25), (7, .int zz26), (8, .int zz4)]) [1, 2, 3, 4, 5, 6, 7, 8, 0] (Nat.le_of_ble_eq_true rfl) hnL rfl dL_sound_529 ?_
    refine xr_iconst (pc := 531) X dL_sound_531 (v := 0) (by decide) ?_
    refine xr_istore (pc := 532) X (i := 9) (lv2 := [(0, .ref (ad oo1)), (1, .int zz2), (2, .int zz4), (3, .int zz22), (4, .int zz23), (5, .int zz24), (6, .int zz25), (7, .int zz26), (9, .int 0)]) [1, 2, 3, 4, 5, 6, 7, 8, 0] (Nat.le_of_ble_eq_true rfl) hnL rfl dL_sound_532 ?_
    have hLL171 : ∀ (KK150 : Int32 → xS → Option (Int32 × xS)) (hKK151 : ∀ zz149 σ152, xM Γ D ad N Sh (xQI Γ D ad N Sh 1029 6174) 1017 6102 (KK150 zz149 σ152) σ152 606 [(0, .ref (ad oo1)), (3, .int zz22), (4, .int zz23), (5, .int zz24), (6, .int zz25), (7, .int zz149)] []), ∀ (nn_147 : Nat) zz144 zz145 σ146 (kk_142 : Nat), kk_142 + 9 * (nn_147 + 1) ≤ 1017 → xM Γ D ad N Sh (xQI Γ D ad N Sh 1029 6174) (kk_142 + 0) (6 * kk_142 + 0) (L_L_sound_534 oo1 zz2 zz4 KK150 nn_147 zz144 zz145 σ146) σ146 534 [(0, .ref (ad oo1)), (1, .int zz2), (2, .int zz4), (3, .int zz22), (4, .int zz23), (5, .int zz24), (6, .int zz25), (7, .int zz144), (9, .int zz145)] [] := by
      intro KK150 hKK151 nn_147
      induction nn_147 with
      | zero => intro zz144 zz145 σ146 kk_142 _; exact xM_none
      | succ nn_147 ihh148 =>
        intro zz144 zz145 σ146 kk_142 hk_143
        rw [L_L_sound_534]
        refine xr_iload (pc := 534) X (i := 9) 8 rfl dL_sound_534 ?_
        refine xr_aload_n (pc := 536) X (i := 0) 0 rfl rfl dL_sound_536 ?_
        refine xr_iconst (pc := 537) X dL_sound_537 (v := 2) (by decide) ?_
        refine xr_iconst (pc := 538) X dL_sound_538 (v := 2) (by decide) ?_
        refine xr_iconst (pc := 539) X dL_sound_539 (v := 0) (by decide) ?_
        refine xr_iconst (pc := 540) X dL_sound_540 (v := 0) (by decide) ?_
        refine xr_callSI (na := 5) (pc := 541) X [.ref (ad oo1), .int 2, .int 2, .int 0, .int 0] (c_L_call Γ.2.1 hI hst oo1 hh1 2 2 0 0 σ146) (wG_S wm_5_23 wm_5_21 wm_5_22 wm_5_14) rfl rfl rfl (by decide +kernel) ⟨Nat.le_of_ble_eq_true rfl, Nat.le_of_ble_eq_true rfl⟩ rfl rfl (Nat.le_of_ble_eq_true rfl) ⟨(show _ ≤ 1029 by omega), (show _ ≤ 6174 by omega)⟩ dL_sound_541 (fun zz154 σ153 => ?_)
        refine xr_icmp_ge (pc := 544) X 606 (by decide) dL_sound_544 (fun _ => ?_) (fun _ => ?_)
        · exact x_sub [0, 3, 4, 5, 6, 7] rfl (x_wid (by omega) (by omega) (hKK151 _ _))
        refine xr_iload (pc := 547) X (i := 7) 7 rfl dL_sound_547 ?_
        refine xr_if_eq (pc := 549) X 606 (by decide) dL_sound_549 (fun _ => ?_) (fun _ => ?_)
        · exact x_sub [0, 3, 4, 5, 6, 7] rfl (x_wid (by omega) (by omega) (hKK151 _ _))
        refine xr_aload_n (pc := 552) X (i := 0) 0 rfl rfl dL_sound_552 ?_
        refine xr_bipush (pc := 553) X dL_sound_553 (v := 6) (by decide) ?_
        refine xr_iload (pc := 555) X (i := 9) 8 rfl dL_sound_555 ?_
        refine xr_iconst (pc := 557) X dL_sound_557 (v := 0) (by decide) ?_
        refine xr_iconst (pc := 558) X dL_sound_558 (v := 0) (by decide) ?_
        refine xr_callSI (na := 5) (pc := 559) X [.ref (ad oo1), .int 6, .int zz145, .int 0, .int 0] (c_L_call Γ.2.1 hI hst oo1 hh1 6 zz145 0 0 σ153) (wG_S wm_5_23 wm_5_21 wm_5_22 wm_5_14) rfl rfl rfl (by decide +kernel) ⟨Nat.le_of_ble_eq_true rfl, Nat.le_of_ble_eq_true rfl⟩ rfl rfl (Nat.le_of_ble_eq_true rfl) ⟨(show _ ≤ 1029 by omega), (show _ ≤ 6174 by omega)⟩ dL_sound_559 (fun zz156 σ155 => ?_)
        refine xr_istore (pc := 562) X (i := 8) (lv2 := [(0, .ref (ad oo1)), (1, .int zz2), (2, .int zz4), (3, .int zz22), (4, .int zz23), (5, .int zz24), (6, .int zz25), (8, .int zz156), (9, .int zz145)]) [1, 2, 3, 4, 5, 6, 7, 0, 9] (Nat.le_of_ble_eq_true rfl) hnL rfl dL_sound_562 ?_
        refine xr_iload (pc := 564) X (i := 8) 7 rfl dL_sound_564 ?_
        refine xr_iload_n (pc := 566) X (i := 2) 2 rfl rfl dL_sound_566 ?_
        refine xr_icmp_le (pc := 567) X 597 (by decide) dL_sound_567 (fun _ => ?_) (fun _ => ?_)
        · refine xr_iconst (pc := 597) X dL_sound_597 (v := 0) (by decide) ?_
          refine xr_istore (pc := 598) X (i := 7) (lv2 := [(0, .ref (ad oo1)), (1, .int zz2), (2, .int zz4), (3, .int zz22), (4, .int zz23), (5, .int zz24), (6, .int zz25), (7, .int 0), (9, .int zz145)]) [1, 2, 3, 4, 5, 6, 7, 0, 9] (Nat.le_of_ble_eq_true rfl) hnL rfl dL_sound_598 ?_
          refine xr_iinc (pc := 600) X (i := 9) (j := 8) [1, 2, 3, 4, 5, 6, 7, 8, 0] (Nat.le_of_ble_eq_true rfl) hnL rfl rfl (fun zz157 => [(0, .ref (ad oo1)), (1, .int zz2), (2, .int zz4), (3, .int zz22), (4, .int zz23), (5, .int zz24), (6, .int zz25), (7, .int 0), (9, .int zz157)]) (fun _ => rfl) dL_sound_600 (fun zz157 => ?_)
          refine xr_goto (pc := 603) X 534 (by decide) dL_sound_603 ?_
          exact x_wid (k2 := (kk_142 + 6)) (n2 := 6 * ((kk_142 + 6))) (by omega) (by omega) (ihh148 _ _ _ (kk_142 + 6) (by omega))
        refine xr_iload (pc := 570) X (i := 8) 7 rfl dL_sound_570 ?_
        refine xr_iload_n (pc := 572) X (i := 2) 2 rfl rfl dL_sound_572 ?_
        refine xr_bipush (pc := 573) X dL_sound_573 (v := 99) (by decide) ?_
        refine xr_iadd (pc := 575) X dL_sound_575 ?_
        refine xr_icmp_gt (pc := 576) X 597 (by decide) dL_sound_576 (fun _ => ?_) (fun _ => ?_)
        · refine xr_iconst (pc := 597) X dL_sound_597 (v := 0) (by decide) ?_
          refine xr_istore (pc := 598) X (i := 7) (lv2 := [(0, .ref (ad oo1)), (1, .int zz2), (2, .int zz4), (3, .int zz22), (4, .int zz23), (5, .int zz24), (6, .int zz25), (7, .int 0), (9, .int zz145)]) [1, 2, 3, 4, 5, 6, 7, 0, 9] (Nat.le_of_ble_eq_true rfl) hnL rfl dL_sound_598 ?_
          refine xr_iinc (pc := 600) X (i := 9) (j := 8) [1, 2, 3, 4, 5, 6, 7, 8, 0] (Nat.le_of_ble_eq_true rfl) hnL rfl rfl (fun zz158 => [(0, .ref (ad oo1)), (1, .int zz2), (2, .int zz4), (3, .int zz22), (4, .int zz23), (5, .int zz24), (6, .int zz25), (7, .int 0), (9, .int zz158)]) (fun _ => rfl) dL_sound_600 (fun zz158 => ?_)
          refine xr_goto (pc := 603) X 534 (by decide) dL_sound_603 ?_
          exact x_wid (k2 := (kk_142 + 6)) (n2 := 6 * ((kk_142 + 6))) (by omega) (by omega) (ihh148 _ _ _ (kk_142 + 6) (by omega))
        refine xr_aload_n (pc := 579) X (i := 0) 0 rfl rfl dL_sound_579 ?_
        refine xr_bipush (pc := 580) X dL_sound_580 (v := 6) (by decide) ?_
        refine xr_iload (pc := 582) X (i := 9) 8 rfl dL_sound_582 ?_
        refine xr_iconst (pc := 584) X dL_sound_584 (v := 1) (by decide) ?_
        refine xr_iconst (pc := 585) X dL_sound_585 (v := 0) (by decide) ?_
        refine xr_callSI (na := 5) (pc := 586) X [.ref (ad oo1), .int 6, .int zz145, .int 1, .int 0] (c_L_call Γ.2.1 hI hst oo1 hh1 6 zz145 1 0 σ155) (wG_S wm_5_23 wm_5_21 wm_5_22 wm_5_14) rfl rfl rfl (by decide +kernel) ⟨Nat.le_of_ble_eq_true rfl, Nat.le_of_ble_eq_true rfl⟩ rfl rfl (Nat.le_of_ble_eq_true rfl) ⟨(show _ ≤ 1029 by omega), (show _ ≤ 6174 by omega)⟩ dL_sound_586 (fun zz160 σ159 => ?_)
        refine xr_iload_n (pc := 589) X (i := 1) 1 rfl rfl dL_sound_589 ?_
        refine xr_icmp_ge (pc := 590) X 597 (by decide) dL_sound_590 (fun _ => ?_) (fun _ => ?_)
        · refine xr_iconst (pc := 597) X dL_sound_597 (v := 0) (by decide) ?_
          refine xr_istore (pc := 598) X (i := 7) (lv2 := [(0, .ref (ad oo1)), (1, .int zz2), (2, .int zz4), (3, .int zz22), (4, .int zz23), (5, .int zz24), (6, .int zz25), (7, .int 0), (9, .int zz145)]) [1, 2, 3, 4, 5, 6, 7, 0, 9] (Nat.le_of_ble_eq_true rfl) hnL rfl dL_sound_598 ?_
          refine xr_iinc (pc := 600) X (i := 9) (j := 8) [1, 2, 3, 4, 5, 6, 7, 8, 0] (Nat.le_of_ble_eq_true rfl) hnL rfl rfl (fun zz161 => [(0, .ref (ad oo1)), (1, .int zz2), (2, .int zz4), (3, .int zz22), (4, .int zz23), (5, .int zz24), (6, .int zz25), (7, .int 0), (9, .int zz161)]) (fun _ => rfl) dL_sound_600 (fun zz161 => ?_)
          refine xr_goto (pc := 603) X 534 (by decide) dL_sound_603 ?_
          exact x_wid (k2 := (kk_142 + 9)) (n2 := 6 * ((kk_142 + 9))) (by omega) (by omega) (ihh148 _ _ _ (kk_142 + 9) (by omega))
        refine xr_iconst (pc := 593) X dL_sound_593 (v := 1) (by decide) ?_
        refine xr_goto (pc := 594) X 598 (by decide) dL_sound_594 ?_
        refine xr_istore (pc := 598) X (i := 7) (lv2 := [(0, .ref (ad oo1)), (1, .int zz2), (2, .int zz4), (3, .int zz22), (4, .int zz23), (5, .int zz24), (6, .int zz25), (7, .int 1), (9, .int zz145)]) [1, 2, 3, 4, 5, 6, 7, 0, 9] (Nat.le_of_ble_eq_true rfl) hnL rfl dL_sound_598 ?_
        refine xr_iinc (pc := 600) X (i := 9) (j := 8) [1, 2, 3, 4, 5, 6, 7, 8, 0] (Nat.le_of_ble_eq_true rfl) hnL rfl rfl (fun zz162 => [(0, .ref (ad oo1)), (1, .int zz2), (2, .int zz4), (3, .int zz22), (4, .int zz23), (5, .int zz24), (6, .int zz25), (7, .int 1), (9, .int zz162)]) (fun _ => rfl) dL_sound_600 (fun zz162 => ?_)
        refine xr_goto (pc := 603) X 534 (by decide) dL_sound_603 ?_
        exact x_wid (k2 := (kk_142 + 9)) (n2 := 6 * ((kk_142 + 9))) (by omega) (by omega) (ihh148 _ _ _ (kk_142 + 9) (by omega))
    refine x_wid (k2 := 927) (n2 := 6 * (927)) (by omega) (by omega) (hLL171 _ (fun zz149 σ152 => ?_) _ _ _ _ 927 (by omega))
    refine xr_iload (pc := 606) X (i := 7) 5 rfl dL_sound_606 ?_
    refine xr_if_eq (pc := 608) X 667 (by decide) dL_sound_608 (fun _ => ?_) (fun _ => ?_)
    · refine xr_iconst (pc := 667) X dL_sound_667 (v := 0) (by decide) ?_
      exact xr_zret (pc := 668) X rfl (Nat.le_of_ble_eq_true rfl) (Nat.le_of_ble_eq_true rfl) dL_sound_668
    refine xr_aload_n (pc := 611) X (i := 0) 0 rfl rfl dL_sound_611 ?_
    refine xr_iconst (pc := 612) X dL_sound_612 (v := 2) (by decide) ?_
    refine xr_iconst (pc := 613) X dL_sound_613 (v := 3) (by decide) ?_
    refine xr_iconst (pc := 614) X dL_sound_614 (v := 0) (by decide) ?_
    refine xr_iconst (pc := 615) X dL_sound_615 (v := 0) (by decide) ?_
    refine xr_callSI (na := 5) (pc := 616) X [.ref (ad oo1), .int 2, .int 3, .int 0, .int 0] (c_L_call Γ.2.1 hI hst oo1 hh1 2 3 0 0 σ152) (wG_S wm_5_23 wm_5_21 wm_5_22 wm_5_14) rfl rfl rfl (by decide +kernel) ⟨Nat.le_of_ble_eq_true rfl, Nat.le_of_ble_eq_true rfl⟩ rfl rfl (Nat.le_of_ble_eq_true rfl) ⟨(show _ ≤ 1029 by omega), (show _ ≤ 6174 by omega)⟩ dL_sound_616 (fun zz164 σ163 => ?_)
    refine xr_iload_n (pc := 619) X (i := 3) 1 rfl rfl dL_sound_619 ?_
    refine xr_icmp_ne (pc := 620) X 667 (by decide) dL_sound_620 (fun _ => ?_) (fun _ => ?_)
    · refine xr_iconst (pc := 667) X dL_sound_667 (v := 0) (by decide) ?_
      exact xr_zret (pc := 668) X rfl (Nat.le_of_ble_eq_true rfl) (Nat.le_of_ble_eq_true rfl) dL_sound_668
    refine xr_aload_n (pc := 623) X (i := 0) 0 rfl rfl dL_sound_623 ?_
    refine xr_iconst (pc := 624) X dL_sound_624 (v := 2) (by decide) ?_
    refine xr_iconst (pc := 625) X dL_sound_625 (v := 4) (by decide) ?_
    refine xr_iconst (pc := 626) X dL_sound_626 (v := 0) (by decide) ?_
    refine xr_iconst (pc := 627) X dL_sound_627 (v := 0) (by decide) ?_
    refine xr_callSI (na := 5) (pc := 628) X [.ref (ad oo1), .int 2, .int 4, .int 0, .int 0] (c_L_call Γ.2.1 hI hst oo1 hh1 2 4 0 0 σ163) (wG_S wm_5_23 wm_5_21 wm_5_22 wm_5_14) rfl rfl rfl (by decide +kernel) ⟨Nat.le_of_ble_eq_true rfl, Nat.le_of_ble_eq_true rfl⟩ rfl rfl (Nat.le_of_ble_eq_true rfl) ⟨(show _ ≤ 1029 by omega), (show _ ≤ 6174 by omega)⟩ dL_sound_628 (fun zz166 σ165 => ?_)
    refine xr_iload (pc := 631) X (i := 4) 2 rfl dL_sound_631 ?_
    refine xr_icmp_ne (pc := 633) X 667 (by decide) dL_sound_633 (fun _ => ?_) (fun _ => ?_)
    · refine xr_iconst (pc := 667) X dL_sound_667 (v := 0) (by decide) ?_
      exact xr_zret (pc := 668) X rfl (Nat.le_of_ble_eq_true rfl) (Nat.le_of_ble_eq_true rfl) dL_sound_668
    refine xr_aload_n (pc := 636) X (i := 0) 0 rfl rfl dL_sound_636 ?_
    refine xr_iconst (pc := 637) X dL_sound_637 (v := 2) (by decide) ?_
    refine xr_iconst (pc := 638) X dL_sound_638 (v := 5) (by decide) ?_
    refine xr_iconst (pc := 639) X dL_sound_639 (v := 0) (by decide) ?_
    refine xr_iconst (pc := 640) X dL_sound_640 (v := 0) (by decide) ?_
    refine xr_callSI (na := 5) (pc := 641) X [.ref (ad oo1), .int 2, .int 5, .int 0, .int 0] (c_L_call Γ.2.1 hI hst oo1 hh1 2 5 0 0 σ165) (wG_S wm_5_23 wm_5_21 wm_5_22 wm_5_14) rfl rfl rfl (by decide +kernel) ⟨Nat.le_of_ble_eq_true rfl, Nat.le_of_ble_eq_true rfl⟩ rfl rfl (Nat.le_of_ble_eq_true rfl) ⟨(show _ ≤ 1029 by omega), (show _ ≤ 6174 by omega)⟩ dL_sound_641 (fun zz168 σ167 => ?_)
    refine xr_iload (pc := 644) X (i := 5) 3 rfl dL_sound_644 ?_
    refine xr_icmp_ne (pc := 646) X 667 (by decide) dL_sound_646 (fun _ => ?_) (fun _ => ?_)
    · refine xr_iconst (pc := 667) X dL_sound_667 (v := 0) (by decide) ?_
      exact xr_zret (pc := 668) X rfl (Nat.le_of_ble_eq_true rfl) (Nat.le_of_ble_eq_true rfl) dL_sound_668
    refine xr_aload_n (pc := 649) X (i := 0) 0 rfl rfl dL_sound_649 ?_
    refine xr_iconst (pc := 650) X dL_sound_650 (v := 2) (by decide) ?_
    refine xr_bipush (pc := 651) X dL_sound_651 (v := 7) (by decide) ?_
    refine xr_iconst (pc := 653) X dL_sound_653 (v := 0) (by decide) ?_
    refine xr_iconst (pc := 654) X dL_sound_654 (v := 0) (by decide) ?_
    refine xr_callSI (na := 5) (pc := 655) X [.ref (ad oo1), .int 2, .int 7, .int 0, .int 0] (c_L_call Γ.2.1 hI hst oo1 hh1 2 7 0 0 σ167) (wG_S wm_5_23 wm_5_21 wm_5_22 wm_5_14) rfl rfl rfl (by decide +kernel) ⟨Nat.le_of_ble_eq_true rfl, Nat.le_of_ble_eq_true rfl⟩ rfl rfl (Nat.le_of_ble_eq_true rfl) ⟨(show _ ≤ 1029 by omega), (show _ ≤ 6174 by omega)⟩ dL_sound_655 (fun zz170 σ169 => ?_)
    refine xr_iload (pc := 658) X (i := 6) 4 rfl dL_sound_658 ?_
    refine xr_icmp_ne (pc := 660) X 667 (by decide) dL_sound_660 (fun _ => ?_) (fun _ => ?_)
    · refine xr_iconst (pc := 667) X dL_sound_667 (v := 0) (by decide) ?_
      exact xr_zret (pc := 668) X rfl (Nat.le_of_ble_eq_true rfl) (Nat.le_of_ble_eq_true rfl) dL_sound_668
    refine xr_iconst (pc := 663) X dL_sound_663 (v := 1) (by decide) ?_
    refine xr_goto (pc := 664) X 668 (by decide) dL_sound_664 ?_
    exact xr_zret (pc := 668) X rfl (Nat.le_of_ble_eq_true rfl) (Nat.le_of_ble_eq_true rfl) dL_sound_668
  refine xr_icmp_gt (pc := 39) X 46 (by decide) dL_sound_39 (fun _ => ?_) (fun _ => ?_)
  · refine xr_iconst (pc := 46) X dL_sound_46 (v := 0) (by decide) ?_
    exact x_wid (by omega) (by omega) (hKK10 _ _)
  refine xr_iconst (pc := 42) X dL_sound_42 (v := 1) (by decide) ?_
  refine xr_goto (pc := 43) X 47 (by decide) dL_sound_43 ?_
  exact x_wid (by omega) (by omega) (hKK10 _ _)
