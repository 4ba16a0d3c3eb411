def F_X5_doesCommand (oo0 : Nat) (pp1 : Int32) (σ : xS) : Option (Int32 × xS) :=
  xlet ((pp1 / 1000) - (pp1 / 1000) / 10 * 10) (fun (zz1 : Int32) => xlet (pp1 - pp1 / 1000 * 1000) (fun (zz2 : Int32) => xlet (pp1 - pp1 / 100 * 100) (fun (zz3 : Int32) => xjn (fun (zz4 : Int32) (σ5 : xS) => xjn (fun (zz8 : Int32) (σ9 : xS) => xbI (F_X3_faultOfWriter (oo0 + 652) zz1 σ9) (fun (zz16 : Int32) (σ15 : xS) => xjn (fun (zz17 : Int32) (σ18 : xS) => if (pp1 / 10000) = 1 then (xbI (F_X3_attempt (oo0 + 652) 1 zz1 zz2 0 σ18) (fun (zz22 : Int32) (σ21 : xS) => if zz22 = ((-1)) then (some ((0 : Int32), σ21))
 else (some ((1 : Int32), σ21))))
 else (if (pp1 / 10000) = 2 then (if zz8 = 0 then (some ((0 : Int32), σ18))
 else (xbI (F_X3_attempt (oo0 + 652) 5 zz3 0 0 σ18) (fun (zz25 : Int32) (σ24 : xS) => if zz25 = ((-1)) then (some ((0 : Int32), σ24))
 else (some ((1 : Int32), σ24)))))
 else (if (pp1 / 10000) = 3 then (if 1 < zz2 then (some ((0 : Int32), σ18))
 else (xbI (F_X3_attempt (oo0 + 652) 3 zz1 zz2 0 σ18) (fun (zz28 : Int32) (σ27 : xS) => if zz28 = ((-1)) then (some ((0 : Int32), σ27))
 else (some ((1 : Int32), σ27)))))
 else (if (pp1 / 10000) = 4 then (if ¬ zz2 = 0 then (some ((0 : Int32), σ18))
 else (xbI (F_X3_attempt (oo0 + 652) 4 zz1 0 0 σ18) (fun (zz31 : Int32) (σ30 : xS) => if zz31 = ((-1)) then (some ((0 : Int32), σ30))
 else (some ((1 : Int32), σ30)))))
 else (if (pp1 / 10000) = 5 then (if zz4 = 0 then (some ((0 : Int32), σ18))
 else (xbI (F_X3_attempt (oo0 + 652) 6 zz1 zz3 0 σ18) (fun (zz34 : Int32) (σ33 : xS) => if zz34 = ((-1)) then (some ((0 : Int32), σ33))
 else (some ((1 : Int32), σ33)))))
 else (if (pp1 / 10000) = 6 then (if zz4 = 0 then (some ((0 : Int32), σ18))
 else (if zz17 = 0 then (some ((0 : Int32), σ18))
 else (if xin zz1 4 = true then (if zz3 < (σ18 (((oo0 + 652) + 7 + 9 * zz1.toNatClampNeg) + 1) 3) then (some ((0 : Int32), σ18))
 else (some ((1 : Int32), σ18))) else none)))
 else (if (pp1 / 10000) = 7 then (if zz17 = 0 then (some ((0 : Int32), σ18))
 else (if xin zz1 4 = true then (if zz2 < (σ18 ((oo0 + 652) + 7 + 9 * zz1.toNatClampNeg) 2) then (some ((0 : Int32), σ18))
 else (some ((1 : Int32), σ18))) else none))
 else (if (pp1 / 10000) = 8 then (xbV (F_X3_copyFrom (oo0 + 695) (oo0 + 652) σ18) (fun (σ40 : xS) => if zz17 = 0 then (some ((0 : Int32), σ40))
 else (xlet (if 400 < zz2 then 400 else zz2) (fun (zz41 : Int32) => xbI (F_X3_ticksUntilDone (oo0 + 695) zz1 zz41 σ40) (fun (zz43 : Int32) (σ42 : xS) => if zz43 = ((-1)) then (some ((0 : Int32), σ42))
 else (some ((1 : Int32), σ42)))))))
 else (if (pp1 / 10000) = 9 then (if zz8 = 0 then (some ((0 : Int32), σ18))
 else (xbI (F_X3_sumOfDesks (oo0 + 652) 4 σ18) (fun (zz46 : Int32) (σ45 : xS) => if zz3 < zz46 then (some ((0 : Int32), σ45))
 else (some ((1 : Int32), σ45)))))
 else (some ((0 : Int32), σ18)))))))))))
 (fun (KK19 : Int32 → xS → Option (Int32 × xS)) => if ¬ zz16 = 0 then (KK19 0 σ15)
 else (KK19 1 σ15))))
 (fun (KK10 : Int32 → xS → Option (Int32 × xS)) => xjn (fun (σ12 : xS) => KK10 0 σ12)
 (fun (KK13 : xS → Option (Int32 × xS)) => if zz4 = 0 then (KK13 σ5)
 else (if ¬ zz1 = 0 then (KK13 σ5)
 else (KK10 1 σ5)))))
 (fun (KK6 : Int32 → xS → Option (Int32 × xS)) => if 100 ≤ zz2 then (KK6 0 σ)
 else (KK6 1 σ)))))
abbrev rm_X5_doesCommand : Room := { frames := 5, cells := 0, slots := 0, locals := 125 }
set_option maxHeartbeats 4000000 in
set_option maxRecDepth 100000 in
theorem c_X5_doesCommand (l : Launch) {D : va_G} {ad : Nat → Nat} {N : Nat} {Sh : xSh} (hI : ∀ i j, i < N → j < N → ad i = ad j → i = j) (oo0 : Nat) (hh0 : xIs5 D ad N Sh oo0) (pp1 : Int32) (σ : xS) : xKI l yX5_doesCommand (Cond.code yX5_doesCommand cX5_doesCommand 8 (some .boolean) :: wG) rm_X5_doesCommand 0 0 D ad N Sh [.ref (ad oo0), .int pp1] σ (F_X5_doesCommand oo0 pp1 σ) := by
  refine x_startI (own := RX5) (maxL := 8) (by decide) rfl rfl (Nat.le_of_ble_eq_true rfl) rfl hI (fun Γ hl hnL X => ?_)
  subst hl
  unfold F_X5_doesCommand
  refine xr_iload_n (pc := 0) X (i := 1) 1 rfl rfl dX5_doesCommand_0 ?_
  refine xr_sipush (pc := 1) X dX5_doesCommand_1 (v := 1000) (by decide) ?_
  refine xr_idiv (pc := 4) X (by decide) dX5_doesCommand_4 ?_
  refine xr_bipush (pc := 5) X dX5_doesCommand_5 (v := 10) (by decide) ?_
  refine xr_irem (pc := 7) X (by decide) dX5_doesCommand_7 ?_
  refine x_leti (fun zz1 => ?_)
  refine xr_istore_n (pc := 8) X (hf := rfl) (i := 2) (lv2 := [(0, .ref (ad oo0)), (1, .int pp1), (2, .int zz1)]) [1, 2, 0] (Nat.le_of_ble_eq_true rfl) hnL rfl dX5_doesCommand_8 ?_
  refine xr_iload_n (pc := 9) X (i := 1) 1 rfl rfl dX5_doesCommand_9 ?_
  refine xr_sipush (pc := 10) X dX5_doesCommand_10 (v := 1000) (by decide) ?_
  refine xr_irem (pc := 13) X (by decide) dX5_doesCommand_13 ?_
  refine x_leti (fun zz2 => ?_)
  refine xr_istore_n (pc := 14) X (hf := rfl) (i := 3) (lv2 := [(0, .ref (ad oo0)), (1, .int pp1), (2, .int zz1), (3, .int zz2)]) [1, 2, 3, 0] (Nat.le_of_ble_eq_true rfl) hnL rfl dX5_doesCommand_14 ?_
  refine xr_iload_n (pc := 15) X (i := 1) 1 rfl rfl dX5_doesCommand_15 ?_
  refine xr_bipush (pc := 16) X dX5_doesCommand_16 (v := 100) (by decide) ?_
  refine xr_irem (pc := 18) X (by decide) dX5_doesCommand_18 ?_
  refine x_leti (fun zz3 => ?_)
  refine xr_istore (pc := 19) X (i := 4) (lv2 := [(0, .ref (ad oo0)), (1, .int pp1), (2, .int zz1), (3, .int zz2), (4, .int zz3)]) [1, 2, 3, 4, 0] (Nat.le_of_ble_eq_true rfl) hnL rfl dX5_doesCommand_19 ?_
  refine xr_iload_n (pc := 21) X (i := 3) 3 rfl rfl dX5_doesCommand_21 ?_
  refine xr_bipush (pc := 22) X dX5_doesCommand_22 (v := 100) (by decide) ?_
  refine x_jn (fun (KK6 : Int32 → xS → Option (Int32 × xS)) => ∀ zz4 σ5, xM Γ D ad N Sh (xQI Γ D ad N Sh 0 0) 0 0 (KK6 zz4 σ5) σ5 32 [(0, .ref (ad oo0)), (1, .int pp1), (2, .int zz1), (3, .int zz2), (4, .int zz3)] [.int zz4]) (fun zz4 σ5 => ?_) (fun KK6 hKK7 => ?_)
  · refine xr_istore (pc := 32) X (i := 5) (lv2 := [(0, .ref (ad oo0)), (1, .int pp1), (2, .int zz1), (3, .int zz2), (4, .int zz3), (5, .int zz4)]) [1, 2, 3, 4, 5, 0] (Nat.le_of_ble_eq_true rfl) hnL rfl dX5_doesCommand_32 ?_
    refine xr_iload (pc := 34) X (i := 5) 5 rfl dX5_doesCommand_34 ?_
    refine x_jn (fun (KK10 : Int32 → xS → Option (Int32 × xS)) => ∀ zz8 σ9, xM Γ D ad N Sh (xQI Γ D ad N Sh 0 0) 0 0 (KK10 zz8 σ9) σ9 48 [(0, .ref (ad oo0)), (1, .int pp1), (2, .int zz1), (3, .int zz2), (4, .int zz3), (5, .int zz4)] [.int zz8]) (fun zz8 σ9 => ?_) (fun KK10 hKK11 => ?_)
    · refine xr_istore (pc := 48) X (i := 6) (lv2 := [(0, .ref (ad oo0)), (1, .int pp1), (2, .int zz1), (3, .int zz2), (4, .int zz3), (5, .int zz4), (6, .int zz8)]) [1, 2, 3, 4, 5, 6, 0] (Nat.le_of_ble_eq_true rfl) hnL rfl dX5_doesCommand_48 ?_
      refine xr_aload_n (pc := 50) X (i := 0) 0 rfl rfl dX5_doesCommand_50 ?_
      refine xgX5 (pc := 51) X (oo0) hh0.1 5 wm_2_1 rfl rfl (by decide) rfl dX5_doesCommand_51 ?_
      refine xr_iload_n (pc := 54) X (i := 2) 2 rfl rfl dX5_doesCommand_54 ?_
      refine xr_callVI (na := 1) (pc := 55) X (oo0 + 652) [.int zz1] _ (c_X3_faultOfWriter Γ.2.1 hI (oo0 + 652) hh0.2.2.2.2.2.2.1 zz1 σ9) (wG_V wm_9_20 wm_14_12 wm_9_18 wm_9_19 wm_1_16) rfl rfl rfl (by decide +kernel) ⟨Nat.le_of_ble_eq_true rfl, Nat.le_of_ble_eq_true rfl⟩ hh0.2.2.2.2.2.2.1.1.1 hh0.2.2.2.2.2.2.1.1.2 rfl (T := TX3) (C := RX3) rfl rfl rfl (Nat.le_of_ble_eq_true rfl) ⟨Nat.le_of_ble_eq_true rfl, Nat.le_of_ble_eq_true rfl⟩ dX5_doesCommand_55 (fun zz16 σ15 => ?_)
      refine x_jn (fun (KK19 : Int32 → xS → Option (Int32 × xS)) => ∀ zz17 σ18, xM Γ D ad N Sh (xQI Γ D ad N Sh 0 0) 0 0 (KK19 zz17 σ18) σ18 66 [(0, .ref (ad oo0)), (1, .int pp1), (2, .int zz1), (3, .int zz2), (4, .int zz3), (5, .int zz4), (6, .int zz8)] [.int zz17]) (fun zz17 σ18 => ?_) (fun KK19 hKK20 => ?_)
      · refine xr_istore (pc := 66) X (i := 7) (lv2 := [(0, .ref (ad oo0)), (1, .int pp1), (2, .int zz1), (3, .int zz2), (4, .int zz3), (5, .int zz4), (6, .int zz8), (7, .int zz17)]) [1, 2, 3, 4, 5, 6, 7, 0] (Nat.le_of_ble_eq_true rfl) hnL rfl dX5_doesCommand_66 ?_
        refine xr_iload_n (pc := 68) X (i := 1) 1 rfl rfl dX5_doesCommand_68 ?_
        refine xr_sipush (pc := 69) X dX5_doesCommand_69 (v := 10000) (by decide) ?_
        refine xr_idiv (pc := 72) X (by decide) dX5_doesCommand_72 ?_
        refine x_if (fun hcc23 => ?_) (fun hcc23 => ?_)
        · refine xr_tin (off := 51) (pc := 73) X 124 dX5_doesCommand_73 (by rw [hcc23]; decide) (by rw [hcc23]; decide) (by rw [hcc23]; rfl) (by decide) ?_
          refine xr_aload_n (pc := 124) X (i := 0) 0 rfl rfl dX5_doesCommand_124 ?_
          refine xgX5 (pc := 125) X (oo0) hh0.1 5 wm_2_1 rfl rfl (by decide) rfl dX5_doesCommand_125 ?_
          refine xr_iconst (pc := 128) X dX5_doesCommand_128 (v := 1) (by decide) ?_
          refine xr_iload_n (pc := 129) X (i := 2) 2 rfl rfl dX5_doesCommand_129 ?_
          refine xr_iload_n (pc := 130) X (i := 3) 3 rfl rfl dX5_doesCommand_130 ?_
          refine xr_iconst (pc := 131) X dX5_doesCommand_131 (v := 0) (by decide) ?_
          refine xr_callVI (na := 4) (pc := 132) X (oo0 + 652) [.int 1, .int zz1, .int zz2, .int 0] _ (c_X3_attempt Γ.2.1 hI (oo0 + 652) hh0.2.2.2.2.2.2.1 1 zz1 zz2 0 σ18) (wG_V wm_9_8 wm_9_5 wm_9_6 wm_9_7 wm_1_16) rfl rfl rfl (by decide +kernel) ⟨Nat.le_of_ble_eq_true rfl, Nat.le_of_ble_eq_true rfl⟩ hh0.2.2.2.2.2.2.1.1.1 hh0.2.2.2.2.2.2.1.1.2 rfl (T := TX3) (C := RX3) rfl rfl rfl (Nat.le_of_ble_eq_true rfl) ⟨Nat.le_of_ble_eq_true rfl, Nat.le_of_ble_eq_true rfl⟩ dX5_doesCommand_132 (fun zz22 σ21 => ?_)
          refine xr_iconst (pc := 135) X dX5_doesCommand_135 (v := (-1)) (by decide) ?_
          refine xr_icmp_eq (pc := 136) X 143 (by decide) dX5_doesCommand_136 (fun _ => ?_) (fun _ => ?_)
          · refine xr_iconst (pc := 143) X dX5_doesCommand_143 (v := 0) (by decide) ?_
            exact xr_zret (pc := 144) X rfl (Nat.le_of_ble_eq_true rfl) (Nat.le_of_ble_eq_true rfl) dX5_doesCommand_144
          refine xr_iconst (pc := 139) X dX5_doesCommand_139 (v := 1) (by decide) ?_
          refine xr_goto (pc := 140) X 144 (by decide) dX5_doesCommand_140 ?_
          exact xr_zret (pc := 144) X rfl (Nat.le_of_ble_eq_true rfl) (Nat.le_of_ble_eq_true rfl) dX5_doesCommand_144
        refine x_if (fun hcc26 => ?_) (fun hcc26 => ?_)
        · refine xr_tin (off := 72) (pc := 73) X 145 dX5_doesCommand_73 (by rw [hcc26]; decide) (by rw [hcc26]; decide) (by rw [hcc26]; rfl) (by decide) ?_
          refine xr_iload (pc := 145) X (i := 6) 6 rfl dX5_doesCommand_145 ?_
          refine xr_if_eq (pc := 147) X 170 (by decide) dX5_doesCommand_147 (fun _ => ?_) (fun _ => ?_)
          · refine xr_iconst (pc := 170) X dX5_doesCommand_170 (v := 0) (by decide) ?_
            exact xr_zret (pc := 171) X rfl (Nat.le_of_ble_eq_true rfl) (Nat.le_of_ble_eq_true rfl) dX5_doesCommand_171
          refine xr_aload_n (pc := 150) X (i := 0) 0 rfl rfl dX5_doesCommand_150 ?_
          refine xgX5 (pc := 151) X (oo0) hh0.1 5 wm_2_1 rfl rfl (by decide) rfl dX5_doesCommand_151 ?_
          refine xr_iconst (pc := 154) X dX5_doesCommand_154 (v := 5) (by decide) ?_
          refine xr_iload (pc := 155) X (i := 4) 4 rfl dX5_doesCommand_155 ?_
          refine xr_iconst (pc := 157) X dX5_doesCommand_157 (v := 0) (by decide) ?_
          refine xr_iconst (pc := 158) X dX5_doesCommand_158 (v := 0) (by decide) ?_
          refine xr_callVI (na := 4) (pc := 159) X (oo0 + 652) [.int 5, .int zz3, .int 0, .int 0] _ (c_X3_attempt Γ.2.1 hI (oo0 + 652) hh0.2.2.2.2.2.2.1 5 zz3 0 0 σ18) (wG_V wm_9_8 wm_9_5 wm_9_6 wm_9_7 wm_1_16) rfl rfl rfl (by decide +kernel) ⟨Nat.le_of_ble_eq_true rfl, Nat.le_of_ble_eq_true rfl⟩ hh0.2.2.2.2.2.2.1.1.1 hh0.2.2.2.2.2.2.1.1.2 rfl (T := TX3) (C := RX3) rfl rfl rfl (Nat.le_of_ble_eq_true rfl) ⟨Nat.le_of_ble_eq_true rfl, Nat.le_of_ble_eq_true rfl⟩ dX5_doesCommand_159 (fun zz25 σ24 => ?_)
          refine xr_iconst (pc := 162) X dX5_doesCommand_162 (v := (-1)) (by decide) ?_
          refine xr_icmp_eq (pc := 163) X 170 (by decide) dX5_doesCommand_163 (fun _ => ?_) (fun _ => ?_)
          · refine xr_iconst (pc := 170) X dX5_doesCommand_170 (v := 0) (by decide) ?_
            exact xr_zret (pc := 171) X rfl (Nat.le_of_ble_eq_true rfl) (Nat.le_of_ble_eq_true rfl) dX5_doesCommand_171
          refine xr_iconst (pc := 166) X dX5_doesCommand_166 (v := 1) (by decide) ?_
          refine xr_goto (pc := 167) X 171 (by decide) dX5_doesCommand_167 ?_
          exact xr_zret (pc := 171) X rfl (Nat.le_of_ble_eq_true rfl) (Nat.le_of_ble_eq_true rfl) dX5_doesCommand_171
        refine x_if (fun hcc29 => ?_) (fun hcc29 => ?_)
        · refine xr_tin (off := 99) (pc := 73) X 172 dX5_doesCommand_73 (by rw [hcc29]; decide) (by rw [hcc29]; decide) (by rw [hcc29]; rfl) (by decide) ?_
          refine xr_iload_n (pc := 172) X (i := 3) 3 rfl rfl dX5_doesCommand_172 ?_
          refine xr_iconst (pc := 173) X dX5_doesCommand_173 (v := 1) (by decide) ?_
          refine xr_icmp_gt (pc := 174) X 196 (by decide) dX5_doesCommand_174 (fun _ => ?_) (fun _ => ?_)
          · refine xr_iconst (pc := 196) X dX5_doesCommand_196 (v := 0) (by decide) ?_
            exact xr_zret (pc := 197) X rfl (Nat.le_of_ble_eq_true rfl) (Nat.le_of_ble_eq_true rfl) dX5_doesCommand_197
          refine xr_aload_n (pc := 177) X (i := 0) 0 rfl rfl dX5_doesCommand_177 ?_
          refine xgX5 (pc := 178) X (oo0) hh0.1 5 wm_2_1 rfl rfl (by decide) rfl dX5_doesCommand_178 ?_
          refine xr_iconst (pc := 181) X dX5_doesCommand_181 (v := 3) (by decide) ?_
          refine xr_iload_n (pc := 182) X (i := 2) 2 rfl rfl dX5_doesCommand_182 ?_
          refine xr_iload_n (pc := 183) X (i := 3) 3 rfl rfl dX5_doesCommand_183 ?_
          refine xr_iconst (pc := 184) X dX5_doesCommand_184 (v := 0) (by decide) ?_
          refine xr_callVI (na := 4) (pc := 185) X (oo0 + 652) [.int 3, .int zz1, .int zz2, .int 0] _ (c_X3_attempt Γ.2.1 hI (oo0 + 652) hh0.2.2.2.2.2.2.1 3 zz1 zz2 0 σ18) (wG_V wm_9_8 wm_9_5 wm_9_6 wm_9_7 wm_1_16) rfl rfl rfl (by decide +kernel) ⟨Nat.le_of_ble_eq_true rfl, Nat.le_of_ble_eq_true rfl⟩ hh0.2.2.2.2.2.2.1.1.1 hh0.2.2.2.2.2.2.1.1.2 rfl (T := TX3) (C := RX3) rfl rfl rfl (Nat.le_of_ble_eq_true rfl) ⟨Nat.le_of_ble_eq_true rfl, Nat.le_of_ble_eq_true rfl⟩ dX5_doesCommand_185 (fun zz28 σ27 => ?_)
          refine xr_iconst (pc := 188) X dX5_doesCommand_188 (v := (-1)) (by decide) ?_
          refine xr_icmp_eq (pc := 189) X 196 (by decide) dX5_doesCommand_189 (fun _ => ?_) (fun _ => ?_)
          · refine xr_iconst (pc := 196) X dX5_doesCommand_196 (v := 0) (by decide) ?_
            exact xr_zret (pc := 197) X rfl (Nat.le_of_ble_eq_true rfl) (Nat.le_of_ble_eq_true rfl) dX5_doesCommand_197
          refine xr_iconst (pc := 192) X dX5_doesCommand_192 (v := 1) (by decide) ?_
          refine xr_goto (pc := 193) X 197 (by decide) dX5_doesCommand_193 ?_
          exact xr_zret (pc := 197) X rfl (Nat.le_of_ble_eq_true rfl) (Nat.le_of_ble_eq_true rfl) dX5_doesCommand_197
        refine x_if (fun hcc32 => ?_) (fun hcc32 => ?_)
        · refine xr_tin (off := 125) (pc := 73) X 198 dX5_doesCommand_73 (by rw [hcc32]; decide) (by rw [hcc32]; decide) (by rw [hcc32]; rfl) (by decide) ?_
          refine xr_iload_n (pc := 198) X (i := 3) 3 rfl rfl dX5_doesCommand_198 ?_
          refine xr_if_ne (pc := 199) X 221 (by decide) dX5_doesCommand_199 (fun _ => ?_) (fun _ => ?_)
          · refine xr_iconst (pc := 221) X dX5_doesCommand_221 (v := 0) (by decide) ?_
            exact xr_zret (pc := 222) X rfl (Nat.le_of_ble_eq_true rfl) (Nat.le_of_ble_eq_true rfl) dX5_doesCommand_222
          refine xr_aload_n (pc := 202) X (i := 0) 0 rfl rfl dX5_doesCommand_202 ?_
          refine xgX5 (pc := 203) X (oo0) hh0.1 5 wm_2_1 rfl rfl (by decide) rfl dX5_doesCommand_203 ?_
          refine xr_iconst (pc := 206) X dX5_doesCommand_206 (v := 4) (by decide) ?_
          refine xr_iload_n (pc := 207) X (i := 2) 2 rfl rfl dX5_doesCommand_207 ?_
          refine xr_iconst (pc := 208) X dX5_doesCommand_208 (v := 0) (by decide) ?_
          refine xr_iconst (pc := 209) X dX5_doesCommand_209 (v := 0) (by decide) ?_
          refine xr_callVI (na := 4) (pc := 210) X (oo0 + 652) [.int 4, .int zz1, .int 0, .int 0] _ (c_X3_attempt Γ.2.1 hI (oo0 + 652) hh0.2.2.2.2.2.2.1 4 zz1 0 0 σ18) (wG_V wm_9_8 wm_9_5 wm_9_6 wm_9_7 wm_1_16) rfl rfl rfl (by decide +kernel) ⟨Nat.le_of_ble_eq_true rfl, Nat.le_of_ble_eq_true rfl⟩ hh0.2.2.2.2.2.2.1.1.1 hh0.2.2.2.2.2.2.1.1.2 rfl (T := TX3) (C := RX3) rfl rfl rfl (Nat.le_of_ble_eq_true rfl) ⟨Nat.le_of_ble_eq_true rfl, Nat.le_of_ble_eq_true rfl⟩ dX5_doesCommand_210 (fun zz31 σ30 => ?_)
          refine xr_iconst (pc := 213) X dX5_doesCommand_213 (v := (-1)) (by decide) ?_
          refine xr_icmp_eq (pc := 214) X 221 (by decide) dX5_doesCommand_214 (fun _ => ?_) (fun _ => ?_)
          · refine xr_iconst (pc := 221) X dX5_doesCommand_221 (v := 0) (by decide) ?_
            exact xr_zret (pc := 222) X rfl (Nat.le_of_ble_eq_true rfl) (Nat.le_of_ble_eq_true rfl) dX5_doesCommand_222
          refine xr_iconst (pc := 217) X dX5_doesCommand_217 (v := 1) (by decide) ?_
          refine xr_goto (pc := 218) X 222 (by decide) dX5_doesCommand_218 ?_
          exact xr_zret (pc := 222) X rfl (Nat.le_of_ble_eq_true rfl) (Nat.le_of_ble_eq_true rfl) dX5_doesCommand_222
        refine x_if (fun hcc35 => ?_) (fun hcc35 => ?_)
        · refine xr_tin (off := 150) (pc := 73) X 223 dX5_doesCommand_73 (by rw [hcc35]; decide) (by rw [hcc35]; decide) (by rw [hcc35]; rfl) (by decide) ?_
          refine xr_iload (pc := 223) X (i := 5) 5 rfl dX5_doesCommand_223 ?_
          refine xr_if_eq (pc := 225) X 249 (by decide) dX5_doesCommand_225 (fun _ => ?_) (fun _ => ?_)
          · refine xr_iconst (pc := 249) X dX5_doesCommand_249 (v := 0) (by decide) ?_
            exact xr_zret (pc := 250) X rfl (Nat.le_of_ble_eq_true rfl) (Nat.le_of_ble_eq_true rfl) dX5_doesCommand_250
          refine xr_aload_n (pc := 228) X (i := 0) 0 rfl rfl dX5_doesCommand_228 ?_
          refine xgX5 (pc := 229) X (oo0) hh0.1 5 wm_2_1 rfl rfl (by decide) rfl dX5_doesCommand_229 ?_
          refine xr_bipush (pc := 232) X dX5_doesCommand_232 (v := 6) (by decide) ?_
          refine xr_iload_n (pc := 234) X (i := 2) 2 rfl rfl dX5_doesCommand_234 ?_
          refine xr_iload (pc := 235) X (i := 4) 4 rfl dX5_doesCommand_235 ?_
          refine xr_iconst (pc := 237) X dX5_doesCommand_237 (v := 0) (by decide) ?_
          refine xr_callVI (na := 4) (pc := 238) X (oo0 + 652) [.int 6, .int zz1, .int zz3, .int 0] _ (c_X3_attempt Γ.2.1 hI (oo0 + 652) hh0.2.2.2.2.2.2.1 6 zz1 zz3 0 σ18) (wG_V wm_9_8 wm_9_5 wm_9_6 wm_9_7 wm_1_16) rfl rfl rfl (by decide +kernel) ⟨Nat.le_of_ble_eq_true rfl, Nat.le_of_ble_eq_true rfl⟩ hh0.2.2.2.2.2.2.1.1.1 hh0.2.2.2.2.2.2.1.1.2 rfl (T := TX3) (C := RX3) rfl rfl rfl (Nat.le_of_ble_eq_true rfl) ⟨Nat.le_of_ble_eq_true rfl, Nat.le_of_ble_eq_true rfl⟩ dX5_doesCommand_238 (fun zz34 σ33 => ?_)
          refine xr_iconst (pc := 241) X dX5_doesCommand_241 (v := (-1)) (by decide) ?_
          refine xr_icmp_eq (pc := 242) X 249 (by decide) dX5_doesCommand_242 (fun _ => ?_) (fun _ => ?_)
          · refine xr_iconst (pc := 249) X dX5_doesCommand_249 (v := 0) (by decide) ?_
            exact xr_zret (pc := 250) X rfl (Nat.le_of_ble_eq_true rfl) (Nat.le_of_ble_eq_true rfl) dX5_doesCommand_250
          refine xr_iconst (pc := 245) X dX5_doesCommand_245 (v := 1) (by decide) ?_
          refine xr_goto (pc := 246) X 250 (by decide) dX5_doesCommand_246 ?_
          exact xr_zret (pc := 250) X rfl (Nat.le_of_ble_eq_true rfl) (Nat.le_of_ble_eq_true rfl) dX5_doesCommand_250
        refine x_if (fun hcc37 => ?_) (fun hcc37 => ?_)
        · refine xr_tin (off := 178) (pc := 73) X 251 dX5_doesCommand_73 (by rw [hcc37]; decide) (by rw [hcc37]; decide) (by rw [hcc37]; rfl) (by decide) ?_
          refine xr_iload (pc := 251) X (i := 5) 5 rfl dX5_doesCommand_251 ?_
          refine xr_if_eq (pc := 253) X 285 (by decide) dX5_doesCommand_253 (fun _ => ?_) (fun _ => ?_)
          · refine xr_iconst (pc := 285) X dX5_doesCommand_285 (v := 0) (by decide) ?_
            exact xr_zret (pc := 286) X rfl (Nat.le_of_ble_eq_true rfl) (Nat.le_of_ble_eq_true rfl) dX5_doesCommand_286
          refine xr_iload (pc := 256) X (i := 7) 7 rfl dX5_doesCommand_256 ?_
          refine xr_if_eq (pc := 258) X 285 (by decide) dX5_doesCommand_258 (fun _ => ?_) (fun _ => ?_)
          · refine xr_iconst (pc := 285) X dX5_doesCommand_285 (v := 0) (by decide) ?_
            exact xr_zret (pc := 286) X rfl (Nat.le_of_ble_eq_true rfl) (Nat.le_of_ble_eq_true rfl) dX5_doesCommand_286
          refine xr_aload_n (pc := 261) X (i := 0) 0 rfl rfl dX5_doesCommand_261 ?_
          refine xgX5 (pc := 262) X (oo0) hh0.1 5 wm_2_1 rfl rfl (by decide) rfl dX5_doesCommand_262 ?_
          refine xgNX3 (pc := 265) X (oo0 + 652) hh0.2.2.2.2.2.2.1.1 4 3 rfl rfl rfl (by decide) rfl dX5_doesCommand_265 ?_
          refine xr_iload_n (pc := 268) X (i := 2) 2 rfl rfl dX5_doesCommand_268 ?_
          refine xr_aldPair (pc := 269) X ((oo0 + 652) + 6) 4 (fun j => (oo0 + 652) + 7 + 9 * j) hh0.2.2.2.2.2.2.1.2.2.2.1.1 hh0.2.2.2.2.2.2.1.2.2.2.1.2 (fun _ hj => if_pos hj) dX5_doesCommand_269 (fun haa36 => ?_)
          refine xgNX2 (pc := 270) X ((oo0 + 652) + 7 + 9 * zz1.toNatClampNeg) ((hh0.2.2.2.2.2.2.1.2.2.2.2 _ (xin_lt haa36)).1) 1 4 rfl rfl rfl (by decide) rfl dX5_doesCommand_270 ?_
          refine xgNX0 (pc := 273) X (((oo0 + 652) + 7 + 9 * zz1.toNatClampNeg) + 1) ((hh0.2.2.2.2.2.2.1.2.2.2.2 _ (xin_lt haa36)).2.1.1) 3 2 rfl rfl rfl (by decide) rfl dX5_doesCommand_273 ?_
          refine xr_iload (pc := 276) X (i := 4) 4 rfl dX5_doesCommand_276 ?_
          refine xr_icmp_gt (pc := 278) X 285 (by decide) dX5_doesCommand_278 (fun _ => ?_) (fun _ => ?_)
          · refine xr_iconst (pc := 285) X dX5_doesCommand_285 (v := 0) (by decide) ?_
            exact xr_zret (pc := 286) X rfl (Nat.le_of_ble_eq_true rfl) (Nat.le_of_ble_eq_true rfl) dX5_doesCommand_286
          refine xr_iconst (pc := 281) X dX5_doesCommand_281 (v := 1) (by decide) ?_
          refine xr_goto (pc := 282) X 286 (by decide) dX5_doesCommand_282 ?_
          exact xr_zret (pc := 286) X rfl (Nat.le_of_ble_eq_true rfl) (Nat.le_of_ble_eq_true rfl) dX5_doesCommand_286
        refine x_if (fun hcc39 => ?_) (fun hcc39 => ?_)
        · refine xr_tin (off := 214) (pc := 73) X 287 dX5_doesCommand_73 (by rw [hcc39]; decide) (by rw [hcc39]; decide) (by rw [hcc39]; rfl) (by decide) ?_
          refine xr_iload (pc := 287) X (i := 7) 7 rfl dX5_doesCommand_287 ?_
          refine xr_if_eq (pc := 289) X 312 (by decide) dX5_doesCommand_289 (fun _ => ?_) (fun _ => ?_)
          · refine xr_iconst (pc := 312) X dX5_doesCommand_312 (v := 0) (by decide) ?_
            exact xr_zret (pc := 313) X rfl (Nat.le_of_ble_eq_true rfl) (Nat.le_of_ble_eq_true rfl) dX5_doesCommand_313
          refine xr_aload_n (pc := 292) X (i := 0) 0 rfl rfl dX5_doesCommand_292 ?_
          refine xgX5 (pc := 293) X (oo0) hh0.1 5 wm_2_1 rfl rfl (by decide) rfl dX5_doesCommand_293 ?_
          refine xgNX3 (pc := 296) X (oo0 + 652) hh0.2.2.2.2.2.2.1.1 4 3 rfl rfl rfl (by decide) rfl dX5_doesCommand_296 ?_
          refine xr_iload_n (pc := 299) X (i := 2) 2 rfl rfl dX5_doesCommand_299 ?_
          refine xr_aldPair (pc := 300) X ((oo0 + 652) + 6) 4 (fun j => (oo0 + 652) + 7 + 9 * j) hh0.2.2.2.2.2.2.1.2.2.2.1.1 hh0.2.2.2.2.2.2.1.2.2.2.1.2 (fun _ hj => if_pos hj) dX5_doesCommand_300 (fun haa38 => ?_)
          refine xgNX2 (pc := 301) X ((oo0 + 652) + 7 + 9 * zz1.toNatClampNeg) ((hh0.2.2.2.2.2.2.1.2.2.2.2 _ (xin_lt haa38)).1) 2 9 rfl rfl rfl (by decide) rfl dX5_doesCommand_301 ?_
          refine xr_iload_n (pc := 304) X (i := 3) 3 rfl rfl dX5_doesCommand_304 ?_
          refine xr_icmp_gt (pc := 305) X 312 (by decide) dX5_doesCommand_305 (fun _ => ?_) (fun _ => ?_)
          · refine xr_iconst (pc := 312) X dX5_doesCommand_312 (v := 0) (by decide) ?_
            exact xr_zret (pc := 313) X rfl (Nat.le_of_ble_eq_true rfl) (Nat.le_of_ble_eq_true rfl) dX5_doesCommand_313
          refine xr_iconst (pc := 308) X dX5_doesCommand_308 (v := 1) (by decide) ?_
          refine xr_goto (pc := 309) X 313 (by decide) dX5_doesCommand_309 ?_
          exact xr_zret (pc := 313) X rfl (Nat.le_of_ble_eq_true rfl) (Nat.le_of_ble_eq_true rfl) dX5_doesCommand_313
        refine x_if (fun hcc44 => ?_) (fun hcc44 => ?_)
        · refine xr_tin (off := 241) (pc := 73) X 314 dX5_doesCommand_73 (by rw [hcc44]; decide) (by rw [hcc44]; decide) (by rw [hcc44]; rfl) (by decide) ?_
          refine xr_aload_n (pc := 314) X (i := 0) 0 rfl rfl dX5_doesCommand_314 ?_
          refine xgX5 (pc := 315) X (oo0) hh0.1 6 wm_2_2 rfl rfl (by decide) rfl dX5_doesCommand_315 ?_
          refine xr_aload_n (pc := 318) X (i := 0) 0 rfl rfl dX5_doesCommand_318 ?_
          refine xgX5 (pc := 319) X (oo0) hh0.1 5 wm_2_1 rfl rfl (by decide) rfl dX5_doesCommand_319 ?_
          refine xr_callVV (na := 1) (pc := 322) X (oo0 + 695) [.ref (ad (oo0 + 652))] _ (c_X3_copyFrom Γ.2.1 hI (oo0 + 695) hh0.2.2.2.2.2.2.2.1 (oo0 + 652) hh0.2.2.2.2.2.2.1 σ18) (wG_V wm_16_20 wm_19_13 wm_16_18 wm_16_19 wm_1_16) rfl rfl rfl (by decide +kernel) ⟨Nat.le_of_ble_eq_true rfl, Nat.le_of_ble_eq_true rfl⟩ hh0.2.2.2.2.2.2.2.1.1.1 hh0.2.2.2.2.2.2.2.1.1.2 rfl (T := TX3) (C := RX3) rfl rfl rfl (Nat.le_of_ble_eq_true rfl) ⟨Nat.le_of_ble_eq_true rfl, Nat.le_of_ble_eq_true rfl⟩ dX5_doesCommand_322 (fun σ40 => ?_)
          refine xr_iload (pc := 325) X (i := 7) 7 rfl dX5_doesCommand_325 ?_
          refine xr_if_eq (pc := 327) X 353 (by decide) dX5_doesCommand_327 (fun _ => ?_) (fun _ => ?_)
          · refine xr_iconst (pc := 353) X dX5_doesCommand_353 (v := 0) (by decide) ?_
            exact xr_zret (pc := 354) X rfl (Nat.le_of_ble_eq_true rfl) (Nat.le_of_ble_eq_true rfl) dX5_doesCommand_354
          refine xr_aload_n (pc := 330) X (i := 0) 0 rfl rfl dX5_doesCommand_330 ?_
          refine xgX5 (pc := 331) X (oo0) hh0.1 6 wm_2_2 rfl rfl (by decide) rfl dX5_doesCommand_331 ?_
          refine xr_iload_n (pc := 334) X (i := 2) 2 rfl rfl dX5_doesCommand_334 ?_
          refine xr_iload_n (pc := 335) X (i := 3) 3 rfl rfl dX5_doesCommand_335 ?_
          refine xr_sipush (pc := 336) X dX5_doesCommand_336 (v := 400) (by decide) ?_
          refine xr_min (pc := 339) X (List.mem_cons_of_mem _ wm_22_19) (List.mem_cons_of_mem _ wm_16_15) (List.mem_cons_of_mem _ wm_3_12) (List.mem_cons_of_mem _ wm_16_16) (Nat.le_of_ble_eq_true rfl) (Nat.le_of_ble_eq_true rfl) (Nat.le_of_ble_eq_true rfl) (Nat.le_of_ble_eq_true rfl) dX5_doesCommand_339 ?_
          refine x_leti (fun zz41 => ?_)
          refine xr_callVI (na := 2) (pc := 342) X (oo0 + 695) [.int zz1, .int zz41] _ (c_X3_ticksUntilDone Γ.2.1 hI (oo0 + 695) hh0.2.2.2.2.2.2.2.1 zz1 zz41 σ40) (wG_V wm_19_17 wm_19_14 wm_19_15 wm_19_16 wm_1_16) rfl rfl rfl (by decide +kernel) ⟨Nat.le_of_ble_eq_true rfl, Nat.le_of_ble_eq_true rfl⟩ hh0.2.2.2.2.2.2.2.1.1.1 hh0.2.2.2.2.2.2.2.1.1.2 rfl (T := TX3) (C := RX3) rfl rfl rfl (Nat.le_of_ble_eq_true rfl) ⟨Nat.le_of_ble_eq_true rfl, Nat.le_of_ble_eq_true rfl⟩ dX5_doesCommand_342 (fun zz43 σ42 => ?_)
          refine xr_iconst (pc := 345) X dX5_doesCommand_345 (v := (-1)) (by decide) ?_
          refine xr_icmp_eq (pc := 346) X 353 (by decide) dX5_doesCommand_346 (fun _ => ?_) (fun _ => ?_)
          · refine xr_iconst (pc := 353) X dX5_doesCommand_353 (v := 0) (by decide) ?_
            exact xr_zret (pc := 354) X rfl (Nat.le_of_ble_eq_true rfl) (Nat.le_of_ble_eq_true rfl) dX5_doesCommand_354
          refine xr_iconst (pc := 349) X dX5_doesCommand_349 (v := 1) (by decide) ?_
          refine xr_goto (pc := 350) X 354 (by decide) dX5_doesCommand_350 ?_
          exact xr_zret (pc := 354) X rfl (Nat.le_of_ble_eq_true rfl) (Nat.le_of_ble_eq_true rfl) dX5_doesCommand_354
        refine x_if (fun hcc47 => ?_) (fun hcc47 => ?_)
        · refine xr_tin (off := 282) (pc := 73) X 355 dX5_doesCommand_73 (by rw [hcc47]; decide) (by rw [hcc47]; decide) (by rw [hcc47]; rfl) (by decide) ?_
          refine xr_iload (pc := 355) X (i := 6) 6 rfl dX5_doesCommand_355 ?_
          refine xr_if_eq (pc := 357) X 377 (by decide) dX5_doesCommand_357 (fun _ => ?_) (fun _ => ?_)
          · refine xr_iconst (pc := 377) X dX5_doesCommand_377 (v := 0) (by decide) ?_
            exact xr_zret (pc := 378) X rfl (Nat.le_of_ble_eq_true rfl) (Nat.le_of_ble_eq_true rfl) dX5_doesCommand_378
          refine xr_aload_n (pc := 360) X (i := 0) 0 rfl rfl dX5_doesCommand_360 ?_
          refine xgX5 (pc := 361) X (oo0) hh0.1 5 wm_2_1 rfl rfl (by decide) rfl dX5_doesCommand_361 ?_
          refine xr_iconst (pc := 364) X dX5_doesCommand_364 (v := 4) (by decide) ?_
          refine xr_callVI (na := 1) (pc := 365) X (oo0 + 652) [.int 4] _ (c_X3_sumOfDesks Γ.2.1 hI (oo0 + 652) hh0.2.2.2.2.2.2.1 4 σ18) (wG_V wm_13_22 wm_13_19 wm_13_20 wm_13_21 wm_1_16) rfl rfl rfl (by decide +kernel) ⟨Nat.le_of_ble_eq_true rfl, Nat.le_of_ble_eq_true rfl⟩ hh0.2.2.2.2.2.2.1.1.1 hh0.2.2.2.2.2.2.1.1.2 rfl (T := TX3) (C := RX3) rfl rfl rfl (Nat.le_of_ble_eq_true rfl) ⟨Nat.le_of_ble_eq_true rfl, Nat.le_of_ble_eq_true rfl⟩ dX5_doesCommand_365 (fun zz46 σ45 => ?_)
          refine xr_iload (pc := 368) X (i := 4) 4 rfl dX5_doesCommand_368 ?_
          refine xr_icmp_gt (pc := 370) X 377 (by decide) dX5_doesCommand_370 (fun _ => ?_) (fun _ => ?_)
          · refine xr_iconst (pc := 377) X dX5_doesCommand_377 (v := 0) (by decide) ?_
            exact xr_zret (pc := 378) X rfl (Nat.le_of_ble_eq_true rfl) (Nat.le_of_ble_eq_true rfl) dX5_doesCommand_378
          refine xr_iconst (pc := 373) X dX5_doesCommand_373 (v := 1) (by decide) ?_
          refine xr_goto (pc := 374) X 378 (by decide) dX5_doesCommand_374 ?_
          exact xr_zret (pc := 378) X rfl (Nat.le_of_ble_eq_true rfl) (Nat.le_of_ble_eq_true rfl) dX5_doesCommand_378
        refine xr_tout (pc := 73) X 379 dX5_doesCommand_73 (by have g0 := xne hcc23 (j := 1) (by decide); have g1 := xne hcc26 (j := 2) (by decide); have g2 := xne hcc29 (j := 3) (by decide); have g3 := xne hcc32 (j := 4) (by decide); have g4 := xne hcc35 (j := 5) (by decide); have g5 := xne hcc37 (j := 6) (by decide); have g6 := xne hcc39 (j := 7) (by decide); have g7 := xne hcc44 (j := 8) (by decide); have g8 := xne hcc47 (j := 9) (by decide); omega) (by decide) ?_
        refine xr_iconst (pc := 379) X dX5_doesCommand_379 (v := 0) (by decide) ?_
        exact xr_zret (pc := 380) X rfl (Nat.le_of_ble_eq_true rfl) (Nat.le_of_ble_eq_true rfl) dX5_doesCommand_380
      refine xr_if_ne (pc := 58) X 65 (by decide) dX5_doesCommand_58 (fun _ => ?_) (fun _ => ?_)
      · refine xr_iconst (pc := 65) X dX5_doesCommand_65 (v := 0) (by decide) ?_
        exact hKK20 _ _
      refine xr_iconst (pc := 61) X dX5_doesCommand_61 (v := 1) (by decide) ?_
      refine xr_goto (pc := 62) X 66 (by decide) dX5_doesCommand_62 ?_
      exact hKK20 _ _
    refine x_jn (fun (KK13 : xS → Option (Int32 × xS)) => ∀ σ12, xM Γ D ad N Sh (xQI Γ D ad N Sh 0 0) 0 0 (KK13 σ12) σ12 47 [(0, .ref (ad oo0)), (1, .int pp1), (2, .int zz1), (3, .int zz2), (4, .int zz3), (5, .int zz4)] []) (fun σ12 => ?_) (fun KK13 hKK14 => ?_)
    · refine xr_iconst (pc := 47) X dX5_doesCommand_47 (v := 0) (by decide) ?_
      exact hKK11 _ _
    refine xr_if_eq (pc := 36) X 47 (by decide) dX5_doesCommand_36 (fun _ => ?_) (fun _ => ?_)
    · exact hKK14  _
    refine xr_iload_n (pc := 39) X (i := 2) 2 rfl rfl dX5_doesCommand_39 ?_
    refine xr_if_ne (pc := 40) X 47 (by decide) dX5_doesCommand_40 (fun _ => ?_) (fun _ => ?_)
    · exact hKK14  _
    refine xr_iconst (pc := 43) X dX5_doesCommand_43 (v := 1) (by decide) ?_
    refine xr_goto (pc := 44) X 48 (by decide) dX5_doesCommand_44 ?_
    exact hKK11 _ _
  refine xr_icmp_ge (pc := 24) X 31 (by decide) dX5_doesCommand_24 (fun _ => ?_) (fun _ => ?_)
  · refine xr_iconst (pc := 31) X dX5_doesCommand_31 (v := 0) (by decide) ?_
    exact hKK7 _ _
  refine xr_iconst (pc := 27) X dX5_doesCommand_27 (v := 1) (by decide) ?_
  refine xr_goto (pc := 28) X 32 (by decide) dX5_doesCommand_28 ?_
  exact hKK7 _ _
def F_X5_takeTurn (oo0 : Nat) (pp1 : Int32) (σ : xS) : Option xS :=
  xlet (pp1 / 8) (fun (zz1 : Int32) => xlet (zz1 - zz1 / 4 * 4) (fun (zz2 : Int32) => if (pp1 - pp1 / 8 * 8) = 0 ∨ (pp1 - pp1 / 8 * 8) = 1 ∨ (pp1 - pp1 / 8 * 8) = 2 then (xbI (F_X3_attempt (oo0 + 652) 1 zz2 (1 + ((zz1 / 4) - (zz1 / 4) / 60 * 60)) 0 σ) (fun (zz4 : Int32) (σ3 : xS) => some σ3))
 else (if (pp1 - pp1 / 8 * 8) = 3 then (xbI (F_X3_attempt (oo0 + 652) 2 (1 + ((zz1 / 4) - (zz1 / 4) / 30 * 30)) zz2 (1 + ((zz1 / 256) - (zz1 / 256) / 60 * 60)) σ) (fun (zz7 : Int32) (σ6 : xS) => some σ6))
 else (if (pp1 - pp1 / 8 * 8) = 4 then (if ¬ ((zz1 / 8) - (zz1 / 8) / 3 * 3) = 0 then (xbI (F_X3_attempt (oo0 + 652) 4 zz2 0 0 σ) (fun (zz10 : Int32) (σ9 : xS) => some σ9))
 else (xbI (F_X3_attempt (oo0 + 652) 3 zz2 ((zz1 / 4) - (zz1 / 4) / 2 * 2) 0 σ) (fun (zz12 : Int32) (σ11 : xS) => some σ11)))
 else (xbI (F_X3_attempt (oo0 + 652) 5 (1 + (zz1 - zz1 / 9 * 9)) 0 0 σ) (fun (zz15 : Int32) (σ14 : xS) => some σ14))))))
abbrev rm_X5_takeTurn : Room := { frames := 5, cells := 0, slots := 0, locals := 125 }
set_option maxHeartbeats 4000000 in
set_option maxRecDepth 100000 in
theorem c_X5_takeTurn (l : Launch) {D : va_G} {ad : Nat → Nat} {N : Nat} {Sh : xSh} (hI : ∀ i j, i < N → j < N → ad i = ad j → i = j) (oo0 : Nat) (hh0 : xIs5 D ad N Sh oo0) (pp1 : Int32) (σ : xS) : xKV l yX5_takeTurn (Cond.code yX5_takeTurn cX5_takeTurn 4 none :: wG) rm_X5_takeTurn 0 0 D ad N Sh [.ref (ad oo0), .int pp1] σ (F_X5_takeTurn oo0 pp1 σ) := by
  refine x_startV (own := RX5) (maxL := 4) (by decide) rfl rfl (Nat.le_of_ble_eq_true rfl) rfl hI (fun Γ hl hnL X => ?_)
  subst hl
  unfold F_X5_takeTurn
  refine xr_iload_n (pc := 0) X (i := 1) 1 rfl rfl dX5_takeTurn_0 ?_
  refine xr_bipush (pc := 1) X dX5_takeTurn_1 (v := 8) (by decide) ?_
  refine xr_idiv (pc := 3) X (by decide) dX5_takeTurn_3 ?_
  refine x_leti (fun zz1 => ?_)
  refine xr_istore_n (pc := 4) X (hf := rfl) (i := 2) (lv2 := [(0, .ref (ad oo0)), (1, .int pp1), (2, .int zz1)]) [1, 2, 0] (Nat.le_of_ble_eq_true rfl) hnL rfl dX5_takeTurn_4 ?_
  refine xr_iload_n (pc := 5) X (i := 2) 2 rfl rfl dX5_takeTurn_5 ?_
  refine xr_iconst (pc := 6) X dX5_takeTurn_6 (v := 4) (by decide) ?_
  refine xr_irem (pc := 7) X (by decide) dX5_takeTurn_7 ?_
  refine x_leti (fun zz2 => ?_)
  refine xr_istore_n (pc := 8) X (hf := rfl) (i := 3) (lv2 := [(0, .ref (ad oo0)), (1, .int pp1), (2, .int zz1), (3, .int zz2)]) [1, 2, 3, 0] (Nat.le_of_ble_eq_true rfl) hnL rfl dX5_takeTurn_8 ?_
  refine xr_iload_n (pc := 9) X (i := 1) 1 rfl rfl dX5_takeTurn_9 ?_
  refine xr_bipush (pc := 10) X dX5_takeTurn_10 (v := 8) (by decide) ?_
  refine xr_irem (pc := 12) X (by decide) dX5_takeTurn_12 ?_
  refine x_if (fun hcc5 => ?_) (fun hcc5 => ?_)
  · refine xr_tin (off := 35) (pc := 13) X 48 dX5_takeTurn_13 (by rcases hcc5 with hq9 | hq9 | hq9 <;> (rw [hq9]; decide)) (by rcases hcc5 with hq9 | hq9 | hq9 <;> (rw [hq9]; decide)) (by rcases hcc5 with hq9 | hq9 | hq9 <;> (rw [hq9]; rfl)) (by decide) ?_
    refine xr_aload_n (pc := 48) X (i := 0) 0 rfl rfl dX5_takeTurn_48 ?_
    refine xgX5 (pc := 49) X (oo0) hh0.1 5 wm_2_1 rfl rfl (by decide) rfl dX5_takeTurn_49 ?_
    refine xr_iconst (pc := 52) X dX5_takeTurn_52 (v := 1) (by decide) ?_
    refine xr_iload_n (pc := 53) X (i := 3) 3 rfl rfl dX5_takeTurn_53 ?_
    refine xr_iconst (pc := 54) X dX5_takeTurn_54 (v := 1) (by decide) ?_
    refine xr_iload_n (pc := 55) X (i := 2) 2 rfl rfl dX5_takeTurn_55 ?_
    refine xr_iconst (pc := 56) X dX5_takeTurn_56 (v := 4) (by decide) ?_
    refine xr_idiv (pc := 57) X (by decide) dX5_takeTurn_57 ?_
    refine xr_bipush (pc := 58) X dX5_takeTurn_58 (v := 60) (by decide) ?_
    refine xr_irem (pc := 60) X (by decide) dX5_takeTurn_60 ?_
    refine xr_iadd (pc := 61) X dX5_takeTurn_61 ?_
    refine xr_iconst (pc := 62) X dX5_takeTurn_62 (v := 0) (by decide) ?_
    refine xr_callVI (na := 4) (pc := 63) X (oo0 + 652) [.int 1, .int zz2, .int (1 + ((zz1 / 4) - (zz1 / 4) / 60 * 60)), .int 0] _ (c_X3_attempt Γ.2.1 hI (oo0 + 652) hh0.2.2.2.2.2.2.1 1 zz2 (1 + ((zz1 / 4) - (zz1 / 4) / 60 * 60)) 0 σ) (wG_V wm_9_8 wm_9_5 wm_9_6 wm_9_7 wm_1_16) rfl rfl rfl (by decide +kernel) ⟨Nat.le_of_ble_eq_true rfl, Nat.le_of_ble_eq_true rfl⟩ hh0.2.2.2.2.2.2.1.1.1 hh0.2.2.2.2.2.2.1.1.2 rfl (T := TX3) (C := RX3) rfl rfl rfl (Nat.le_of_ble_eq_true rfl) ⟨Nat.le_of_ble_eq_true rfl, Nat.le_of_ble_eq_true rfl⟩ dX5_takeTurn_63 (fun zz4 σ3 => ?_)
    refine xr_pop (pc := 66) X rfl dX5_takeTurn_66 ?_
    refine xr_goto (pc := 67) X 161 (by decide) dX5_takeTurn_67 ?_
    exact xr_vret (pc := 161) X (Nat.le_refl _) (Nat.le_refl _) dX5_takeTurn_161
  refine x_if (fun hcc8 => ?_) (fun hcc8 => ?_)
  · refine xr_tin (off := 57) (pc := 13) X 70 dX5_takeTurn_13 (by rw [hcc8]; decide) (by rw [hcc8]; decide) (by rw [hcc8]; rfl) (by decide) ?_
    refine xr_aload_n (pc := 70) X (i := 0) 0 rfl rfl dX5_takeTurn_70 ?_
    refine xgX5 (pc := 71) X (oo0) hh0.1 5 wm_2_1 rfl rfl (by decide) rfl dX5_takeTurn_71 ?_
    refine xr_iconst (pc := 74) X dX5_takeTurn_74 (v := 2) (by decide) ?_
    refine xr_iconst (pc := 75) X dX5_takeTurn_75 (v := 1) (by decide) ?_
    refine xr_iload_n (pc := 76) X (i := 2) 2 rfl rfl dX5_takeTurn_76 ?_
    refine xr_iconst (pc := 77) X dX5_takeTurn_77 (v := 4) (by decide) ?_
    refine xr_idiv (pc := 78) X (by decide) dX5_takeTurn_78 ?_
    refine xr_bipush (pc := 79) X dX5_takeTurn_79 (v := 30) (by decide) ?_
    refine xr_irem (pc := 81) X (by decide) dX5_takeTurn_81 ?_
    refine xr_iadd (pc := 82) X dX5_takeTurn_82 ?_
    refine xr_iload_n (pc := 83) X (i := 3) 3 rfl rfl dX5_takeTurn_83 ?_
    refine xr_iconst (pc := 84) X dX5_takeTurn_84 (v := 1) (by decide) ?_
    refine xr_iload_n (pc := 85) X (i := 2) 2 rfl rfl dX5_takeTurn_85 ?_
    refine xr_sipush (pc := 86) X dX5_takeTurn_86 (v := 256) (by decide) ?_
    refine xr_idiv (pc := 89) X (by decide) dX5_takeTurn_89 ?_
    refine xr_bipush (pc := 90) X dX5_takeTurn_90 (v := 60) (by decide) ?_
    refine xr_irem (pc := 92) X (by decide) dX5_takeTurn_92 ?_
    refine xr_iadd (pc := 93) X dX5_takeTurn_93 ?_
    refine xr_callVI (na := 4) (pc := 94) X (oo0 + 652) [.int 2, .int (1 + ((zz1 / 4) - (zz1 / 4) / 30 * 30)), .int zz2, .int (1 + ((zz1 / 256) - (zz1 / 256) / 60 * 60))] _ (c_X3_attempt Γ.2.1 hI (oo0 + 652) hh0.2.2.2.2.2.2.1 2 (1 + ((zz1 / 4) - (zz1 / 4) / 30 * 30)) zz2 (1 + ((zz1 / 256) - (zz1 / 256) / 60 * 60)) σ) (wG_V wm_9_8 wm_9_5 wm_9_6 wm_9_7 wm_1_16) rfl rfl rfl (by decide +kernel) ⟨Nat.le_of_ble_eq_true rfl, Nat.le_of_ble_eq_true rfl⟩ hh0.2.2.2.2.2.2.1.1.1 hh0.2.2.2.2.2.2.1.1.2 rfl (T := TX3) (C := RX3) rfl rfl rfl (Nat.le_of_ble_eq_true rfl) ⟨Nat.le_of_ble_eq_true rfl, Nat.le_of_ble_eq_true rfl⟩ dX5_takeTurn_94 (fun zz7 σ6 => ?_)
    refine xr_pop (pc := 97) X rfl dX5_takeTurn_97 ?_
    refine xr_goto (pc := 98) X 161 (by decide) dX5_takeTurn_98 ?_
    exact xr_vret (pc := 161) X (Nat.le_refl _) (Nat.le_refl _) dX5_takeTurn_161
  refine x_if (fun hcc13 => ?_) (fun hcc13 => ?_)
  · refine xr_tin (off := 88) (pc := 13) X 101 dX5_takeTurn_13 (by rw [hcc13]; decide) (by rw [hcc13]; decide) (by rw [hcc13]; rfl) (by decide) ?_
    refine xr_iload_n (pc := 101) X (i := 2) 2 rfl rfl dX5_takeTurn_101 ?_
    refine xr_bipush (pc := 102) X dX5_takeTurn_102 (v := 8) (by decide) ?_
    refine xr_idiv (pc := 104) X (by decide) dX5_takeTurn_104 ?_
    refine xr_iconst (pc := 105) X dX5_takeTurn_105 (v := 3) (by decide) ?_
    refine xr_irem (pc := 106) X (by decide) dX5_takeTurn_106 ?_
    refine xr_if_ne (pc := 107) X 129 (by decide) dX5_takeTurn_107 (fun _ => ?_) (fun _ => ?_)
    · refine xr_aload_n (pc := 129) X (i := 0) 0 rfl rfl dX5_takeTurn_129 ?_
      refine xgX5 (pc := 130) X (oo0) hh0.1 5 wm_2_1 rfl rfl (by decide) rfl dX5_takeTurn_130 ?_
      refine xr_iconst (pc := 133) X dX5_takeTurn_133 (v := 4) (by decide) ?_
      refine xr_iload_n (pc := 134) X (i := 3) 3 rfl rfl dX5_takeTurn_134 ?_
      refine xr_iconst (pc := 135) X dX5_takeTurn_135 (v := 0) (by decide) ?_
      refine xr_iconst (pc := 136) X dX5_takeTurn_136 (v := 0) (by decide) ?_
      refine xr_callVI (na := 4) (pc := 137) X (oo0 + 652) [.int 4, .int zz2, .int 0, .int 0] _ (c_X3_attempt Γ.2.1 hI (oo0 + 652) hh0.2.2.2.2.2.2.1 4 zz2 0 0 σ) (wG_V wm_9_8 wm_9_5 wm_9_6 wm_9_7 wm_1_16) rfl rfl rfl (by decide +kernel) ⟨Nat.le_of_ble_eq_true rfl, Nat.le_of_ble_eq_true rfl⟩ hh0.2.2.2.2.2.2.1.1.1 hh0.2.2.2.2.2.2.1.1.2 rfl (T := TX3) (C := RX3) rfl rfl rfl (Nat.le_of_ble_eq_true rfl) ⟨Nat.le_of_ble_eq_true rfl, Nat.le_of_ble_eq_true rfl⟩ dX5_takeTurn_137 (fun zz10 σ9 => ?_)
      refine xr_pop (pc := 140) X rfl dX5_takeTurn_140 ?_
      refine xr_goto (pc := 141) X 161 (by decide) dX5_takeTurn_141 ?_
      exact xr_vret (pc := 161) X (Nat.le_refl _) (Nat.le_refl _) dX5_takeTurn_161
    refine xr_aload_n (pc := 110) X (i := 0) 0 rfl rfl dX5_takeTurn_110 ?_
    refine xgX5 (pc := 111) X (oo0) hh0.1 5 wm_2_1 rfl rfl (by decide) rfl dX5_takeTurn_111 ?_
    refine xr_iconst (pc := 114) X dX5_takeTurn_114 (v := 3) (by decide) ?_
    refine xr_iload_n (pc := 115) X (i := 3) 3 rfl rfl dX5_takeTurn_115 ?_
    refine xr_iload_n (pc := 116) X (i := 2) 2 rfl rfl dX5_takeTurn_116 ?_
    refine xr_iconst (pc := 117) X dX5_takeTurn_117 (v := 4) (by decide) ?_
    refine xr_idiv (pc := 118) X (by decide) dX5_takeTurn_118 ?_
    refine xr_iconst (pc := 119) X dX5_takeTurn_119 (v := 2) (by decide) ?_
    refine xr_irem (pc := 120) X (by decide) dX5_takeTurn_120 ?_
    refine xr_iconst (pc := 121) X dX5_takeTurn_121 (v := 0) (by decide) ?_
    refine xr_callVI (na := 4) (pc := 122) X (oo0 + 652) [.int 3, .int zz2, .int ((zz1 / 4) - (zz1 / 4) / 2 * 2), .int 0] _ (c_X3_attempt Γ.2.1 hI (oo0 + 652) hh0.2.2.2.2.2.2.1 3 zz2 ((zz1 / 4) - (zz1 / 4) / 2 * 2) 0 σ) (wG_V wm_9_8 wm_9_5 wm_9_6 wm_9_7 wm_1_16) rfl rfl rfl (by decide +kernel) ⟨Nat.le_of_ble_eq_true rfl, Nat.le_of_ble_eq_true rfl⟩ hh0.2.2.2.2.2.2.1.1.1 hh0.2.2.2.2.2.2.1.1.2 rfl (T := TX3) (C := RX3) rfl rfl rfl (Nat.le_of_ble_eq_true rfl) ⟨Nat.le_of_ble_eq_true rfl, Nat.le_of_ble_eq_true rfl⟩ dX5_takeTurn_122 (fun zz12 σ11 => ?_)
    refine xr_pop (pc := 125) X rfl dX5_takeTurn_125 ?_
    refine xr_goto (pc := 126) X 161 (by decide) dX5_takeTurn_126 ?_
    exact xr_vret (pc := 161) X (Nat.le_refl _) (Nat.le_refl _) dX5_takeTurn_161
  refine xr_tout (pc := 13) X 144 dX5_takeTurn_13 (by have g0 := xne (fun e => hcc5 (Or.inl e)) (j := 0) (by decide); have g1 := xne (fun e => hcc5 (Or.inr (Or.inl e))) (j := 1) (by decide); have g2 := xne (fun e => hcc5 (Or.inr (Or.inr (e)))) (j := 2) (by decide); have g3 := xne hcc8 (j := 3) (by decide); have g4 := xne hcc13 (j := 4) (by decide); omega) (by decide) ?_
  refine xr_aload_n (pc := 144) X (i := 0) 0 rfl rfl dX5_takeTurn_144 ?_
  refine xgX5 (pc := 145) X (oo0) hh0.1 5 wm_2_1 rfl rfl (by decide) rfl dX5_takeTurn_145 ?_
  refine xr_iconst (pc := 148) X dX5_takeTurn_148 (v := 5) (by decide) ?_
  refine xr_iconst (pc := 149) X dX5_takeTurn_149 (v := 1) (by decide) ?_
  refine xr_iload_n (pc := 150) X (i := 2) 2 rfl rfl dX5_takeTurn_150 ?_
  refine xr_bipush (pc := 151) X dX5_takeTurn_151 (v := 9) (by decide) ?_
  refine xr_irem (pc := 153) X (by decide) dX5_takeTurn_153 ?_
  refine xr_iadd (pc := 154) X dX5_takeTurn_154 ?_
  refine xr_iconst (pc := 155) X dX5_takeTurn_155 (v := 0) (by decide) ?_
  refine xr_iconst (pc := 156) X dX5_takeTurn_156 (v := 0) (by decide) ?_
  refine xr_callVI (na := 4) (pc := 157) X (oo0 + 652) [.int 5, .int (1 + (zz1 - zz1 / 9 * 9)), .int 0, .int 0] _ (c_X3_attempt Γ.2.1 hI (oo0 + 652) hh0.2.2.2.2.2.2.1 5 (1 + (zz1 - zz1 / 9 * 9)) 0 0 σ) (wG_V wm_9_8 wm_9_5 wm_9_6 wm_9_7 wm_1_16) rfl rfl rfl (by decide +kernel) ⟨Nat.le_of_ble_eq_true rfl, Nat.le_of_ble_eq_true rfl⟩ hh0.2.2.2.2.2.2.1.1.1 hh0.2.2.2.2.2.2.1.1.2 rfl (T := TX3) (C := RX3) rfl rfl rfl (Nat.le_of_ble_eq_true rfl) ⟨Nat.le_of_ble_eq_true rfl, Nat.le_of_ble_eq_true rfl⟩ dX5_takeTurn_157 (fun zz15 σ14 => ?_)
  refine xr_pop (pc := 160) X rfl dX5_takeTurn_160 ?_
  exact xr_vret (pc := 161) X (Nat.le_refl _) (Nat.le_refl _) dX5_takeTurn_161
