abbrev rm_X0_init6 : Room := { frames := 1, cells := 3, slots := 18, locals := 21 }
set_option maxHeartbeats 40000000 in
set_option maxRecDepth 100000 in
theorem c_X0_init6 (l : Launch) (D : va_G) (b : Nat) : xKC l yX0_init (Cond.code yX0_init cX0_init 3 none :: wG) rm_X0_init6 3 18 D (fun ad => [.ref (ad (b)), .int 6]) b 4 shB0 (fun ad Sh _ => xIs0 D ad (b + 4) Sh 6 b) := by
  refine x_startC (own := RX0) (maxL := 3) (lv := fun ad => [(0, .ref (ad (b))), (1, .int 6)]) (by decide) rfl rfl rfl (fun _ => Nat.le_of_ble_eq_true rfl) (fun _ => rfl) (fun Γ ad0 Sh0 σ0 hl hnL hname hAO q0 t0 X0 => ?_)
  subst hl
  refine xr_aload_n (pc := 0) X0 (i := 0) 0 rfl rfl dX0_init_0 ?_
  refine xr_oinit (pc := 1) X0 wm_3_8 wm_1_8 wm_1_9 (Nat.le_of_ble_eq_true rfl) (Nat.le_of_ble_eq_true rfl) dX0_init_1 ?_
  refine xr_aload_n (pc := 4) X0 (i := 0) 0 rfl rfl dX0_init_4 ?_
  refine xr_iconst (pc := 5) X0 dX0_init_5 (v := 0) (by decide) ?_
  refine xr_putI (pc := 6) X0 (b) 3 _ (by omega) q0 rfl rfl (C := RX0) (T := TX0) (NF := 4) (tyf := tyX0) rfl hinX0 tyX0_ok nmX0 (by omega) wm_3_9 rfl rfl (by decide +kernel) (Nat.le_of_ble_eq_true rfl) dX0_init_6 ?_
  obtain ⟨σ1, w1⟩ : ∃ z, z = xu σ0 (b) 3 0 := ⟨_, rfl⟩
  rw [← w1]
  have s1 : ∀ i, i ≠ b → σ1 i = σ0 i := fun i hb => by rw [w1]; exact if_neg hb
  have u1 : σ1 b = upd (σ0 b) 3 0 := by rw [w1]; exact if_pos rfl
  clear w1
  have v1 : σ1 b 3 = 0 := by rw [u1]; rfl
  have cG1 : ∀ i, i < b → σ1 i = σ0 i := fun i hi => (s1 i (by omega))
  refine xr_iload_n (pc := 9) X0 (i := 1) 1 rfl rfl dX0_init_9 ?_
  refine xr_iconst (pc := 10) X0 dX0_init_10 (v := 0) (by decide) ?_
  refine xr_max (pc := 11) X0 (List.mem_cons_of_mem _ wm_3_10) (List.mem_cons_of_mem _ wm_3_11) (List.mem_cons_of_mem _ wm_3_12) (List.mem_cons_of_mem _ wm_3_13) (Nat.le_of_ble_eq_true rfl) (Nat.le_of_ble_eq_true rfl) (Nat.le_of_ble_eq_true rfl) (Nat.le_of_ble_eq_true rfl) dX0_init_11 ?_
  refine x_conv (lv2 := [(0, .ref (ad0 (b))), (1, .int 6)]) (st2 := [.int 6]) rfl rfl ?_
  refine xr_istore_n (pc := 14) X0 (hf := rfl) (i := 2) [1, 2, 0] (Nat.le_of_ble_eq_true rfl) hnL rfl dX0_init_14 ?_
  refine x_conv (lv2 := [(0, .ref (ad0 (b))), (1, .int 6), (2, .int 6)]) (st2 := []) rfl rfl ?_
  refine xr_aload_n (pc := 15) X0 (i := 0) 0 rfl rfl dX0_init_15 ?_
  refine xr_iload_n (pc := 16) X0 (i := 2) 2 rfl rfl dX0_init_16 ?_
  refine xr_newA (pc := 17) (t0 := 0) (N' := 6) X0 .int (shI D 6) (D.1 100) rfl (fun C h => by cases h) rfl wm_2_19 rfl rfl (by decide) (by decide) (by decide) (Nat.le_of_ble_eq_true rfl) (Nat.le_of_ble_eq_true rfl) dX0_init_17 (fun ad2 e2 X2 => ?_)
  obtain ⟨Sh2, y2⟩ : ∃ z, z = xupS Sh0 (b + 1) (shI D 6) := ⟨_, rfl⟩
  obtain ⟨σ2, w2⟩ : ∃ z, z = xz σ1 (b + 1) := ⟨_, rfl⟩
  rw [← y2, ← w2]
  have s2 : ∀ i, i < b + 1 → ad2 i = ad0 i ∧ Sh2 i = Sh0 i ∧ σ2 i = σ1 i := fun i hi => ⟨e2 i hi, by rw [y2]; exact if_neg (Nat.ne_of_lt hi), by rw [w2]; exact if_neg (Nat.ne_of_lt hi)⟩
  have q2 : Sh2 (b + 1) = (shI D 6) := by rw [y2]; exact if_pos rfl
  have t2 : σ2 (b + 1) = (fun _ => 0) := by rw [w2]; exact if_pos rfl
  clear e2 y2 w2
  have q0_2 : Sh2 (b) = (fun r => .inr (0, [.null, .null, .null, .int (r 3)])) := (s2 (b) (by omega)).2.1.trans q0
  have v1_2 : σ2 b 3 = 0 := by rw [(s2 (b) (by omega)).2.2]; exact v1
  have cA2 : ∀ i, i ≤ b → ad2 i = ad0 i := fun i hi => (s2 i (by omega)).1
  have cH2 : ∀ i, i < b → Sh2 i = Sh0 i := fun i hi => (s2 i (by omega)).2.1
  have cG2 : ∀ i, i < b → σ2 i = σ0 i := fun i hi => (s2 i (by omega)).2.2.trans (cG1 i hi)
  clear q0 v1 cG1
  refine x_conv (lv2 := [(0, .ref (ad2 (b))), (1, .int 6), (2, .int 6)]) (st2 := [.ref (ad2 (b + 1)), .ref (ad2 (b))]) (by simp only [(s2 (b) (by omega)).1]) (by simp only [(s2 (b) (by omega)).1]) ?_
  replace X2 : xC Γ _ _ _ _ _ D ad2 (b + 2) := X2
  refine x_convN (N2 := b + 2) rfl ?_
  refine xr_putR (pc := 19) X2 hname (b) (b + 1) 0 _ (fun r => .inr (0, [.ref (ad2 (b + 1)), .null, .null, .int (r 3)])) (by omega) q0_2 rfl rfl (C := RX0) (T := TX0) (NF := 4) (tyf := tyX0) (ty := .array .int) rfl hinX0 tyX0_ok nmX0 (by omega) wm_3_14 rfl rfl (by decide +kernel) (fun _ => rfl) (fun _ => rfl) (Nat.le_of_ble_eq_true rfl) dX0_init_19 ?_
  obtain ⟨Sh3, y3⟩ : ∃ z, z = xupS Sh2 (b) (fun r => .inr (0, [.ref (ad2 (b + 1)), .null, .null, .int (r 3)])) := ⟨_, rfl⟩
  rw [← y3]
  have s3 : ∀ i, i ≠ b → Sh3 i = Sh2 i := fun i hb => by rw [y3]; exact if_neg hb
  have q3 : Sh3 (b) = (fun r => .inr (0, [.ref (ad2 (b + 1)), .null, .null, .int (r 3)])) := by rw [y3]; exact if_pos rfl
  clear y3
  have q2_3 : Sh3 (b + 1) = (shI D 6) := (s3 (b + 1) (by omega)).trans q2
  have cH3 : ∀ i, i < b → Sh3 i = Sh0 i := fun i hi => (s3 i (by omega)).trans (cH2 i hi)
  clear q0_2 q2 cH2
  refine xr_aload_n (pc := 22) X2 (i := 0) 0 rfl rfl dX0_init_22 ?_
  refine xr_iload_n (pc := 23) X2 (i := 2) 2 rfl rfl dX0_init_23 ?_
  refine xr_newA (pc := 24) (t0 := 0) (N' := 6) X2 .int (shI D 6) (D.1 100) rfl (fun C h => by cases h) rfl wm_2_19 rfl rfl (by decide) (by decide) (by decide) (Nat.le_of_ble_eq_true rfl) (Nat.le_of_ble_eq_true rfl) dX0_init_24 (fun ad4 e4 X4 => ?_)
  obtain ⟨Sh4, y4⟩ : ∃ z, z = xupS Sh3 (b + 2) (shI D 6) := ⟨_, rfl⟩
  obtain ⟨σ4, w4⟩ : ∃ z, z = xz σ2 (b + 2) := ⟨_, rfl⟩
  rw [← y4, ← w4]
  have s4 : ∀ i, i < b + 2 → ad4 i = ad2 i ∧ Sh4 i = Sh3 i ∧ σ4 i = σ2 i := fun i hi => ⟨e4 i hi, by rw [y4]; exact if_neg (Nat.ne_of_lt hi), by rw [w4]; exact if_neg (Nat.ne_of_lt hi)⟩
  have q4 : Sh4 (b + 2) = (shI D 6) := by rw [y4]; exact if_pos rfl
  have t4 : σ4 (b + 2) = (fun _ => 0) := by rw [w4]; exact if_pos rfl
  clear e4 y4 w4
  have q2_4 : Sh4 (b + 1) = (shI D 6) := (s4 (b + 1) (by omega)).2.1.trans q2_3
  have q3_4 : Sh4 (b) = (fun r => .inr (0, [.ref (ad4 (b + 1)), .null, .null, .int (r 3)])) := ((s4 (b) (by omega)).2.1.trans q3).trans (by simp only [(s4 (b + 1) (by omega)).1])
  have v1_4 : σ4 b 3 = 0 := by rw [(s4 (b) (by omega)).2.2]; exact v1_2
  have t2_4 : σ4 (b + 1) = (fun _ => 0) := by rw [(s4 (b + 1) (by omega)).2.2]; exact t2
  have cA4 : ∀ i, i ≤ b → ad4 i = ad0 i := fun i hi => (s4 i (by omega)).1.trans (cA2 i hi)
  have cH4 : ∀ i, i < b → Sh4 i = Sh0 i := fun i hi => (s4 i (by omega)).2.1.trans (cH3 i hi)
  have cG4 : ∀ i, i < b → σ4 i = σ0 i := fun i hi => (s4 i (by omega)).2.2.trans (cG2 i hi)
  clear q2_3 q3 v1_2 t2 cA2 cH3 cG2
  refine x_conv (lv2 := [(0, .ref (ad4 (b))), (1, .int 6), (2, .int 6)]) (st2 := [.ref (ad4 (b + 2)), .ref (ad4 (b))]) (by simp only [(s4 (b) (by omega)).1]) (by simp only [(s4 (b) (by omega)).1]) ?_
  replace X4 : xC Γ _ _ _ _ _ D ad4 (b + 3) := X4
  refine x_convN (N2 := b + 3) rfl ?_
  refine xr_putR (pc := 26) X4 hname (b) (b + 2) 1 _ (fun r => .inr (0, [.ref (ad4 (b + 1)), .ref (ad4 (b + 2)), .null, .int (r 3)])) (by omega) q3_4 rfl rfl (C := RX0) (T := TX0) (NF := 4) (tyf := tyX0) (ty := .array .int) rfl hinX0 tyX0_ok nmX0 (by omega) wm_3_15 rfl rfl (by decide +kernel) (fun _ => rfl) (fun _ => rfl) (Nat.le_of_ble_eq_true rfl) dX0_init_26 ?_
  obtain ⟨Sh5, y5⟩ : ∃ z, z = xupS Sh4 (b) (fun r => .inr (0, [.ref (ad4 (b + 1)), .ref (ad4 (b + 2)), .null, .int (r 3)])) := ⟨_, rfl⟩
  rw [← y5]
  have s5 : ∀ i, i ≠ b → Sh5 i = Sh4 i := fun i hb => by rw [y5]; exact if_neg hb
  have q5 : Sh5 (b) = (fun r => .inr (0, [.ref (ad4 (b + 1)), .ref (ad4 (b + 2)), .null, .int (r 3)])) := by rw [y5]; exact if_pos rfl
  clear y5
  have q2_5 : Sh5 (b + 1) = (shI D 6) := (s5 (b + 1) (by omega)).trans q2_4
  have q4_5 : Sh5 (b + 2) = (shI D 6) := (s5 (b + 2) (by omega)).trans q4
  have cH5 : ∀ i, i < b → Sh5 i = Sh0 i := fun i hi => (s5 i (by omega)).trans (cH4 i hi)
  clear q2_4 q3_4 q4 cH4
  refine xr_aload_n (pc := 29) X4 (i := 0) 0 rfl rfl dX0_init_29 ?_
  refine xr_iload_n (pc := 30) X4 (i := 2) 2 rfl rfl dX0_init_30 ?_
  refine xr_newA (pc := 31) (t0 := 0) (N' := 6) X4 .int (shI D 6) (D.1 100) rfl (fun C h => by cases h) rfl wm_2_19 rfl rfl (by decide) (by decide) (by decide) (Nat.le_of_ble_eq_true rfl) (Nat.le_of_ble_eq_true rfl) dX0_init_31 (fun ad6 e6 X6 => ?_)
  obtain ⟨Sh6, y6⟩ : ∃ z, z = xupS Sh5 (b + 3) (shI D 6) := ⟨_, rfl⟩
  obtain ⟨σ6, w6⟩ : ∃ z, z = xz σ4 (b + 3) := ⟨_, rfl⟩
  rw [← y6, ← w6]
  have s6 : ∀ i, i < b + 3 → ad6 i = ad4 i ∧ Sh6 i = Sh5 i ∧ σ6 i = σ4 i := fun i hi => ⟨e6 i hi, by rw [y6]; exact if_neg (Nat.ne_of_lt hi), by rw [w6]; exact if_neg (Nat.ne_of_lt hi)⟩
  have q6 : Sh6 (b + 3) = (shI D 6) := by rw [y6]; exact if_pos rfl
  have t6 : σ6 (b + 3) = (fun _ => 0) := by rw [w6]; exact if_pos rfl
  clear e6 y6 w6
  have q2_6 : Sh6 (b + 1) = (shI D 6) := (s6 (b + 1) (by omega)).2.1.trans q2_5
  have q4_6 : Sh6 (b + 2) = (shI D 6) := (s6 (b + 2) (by omega)).2.1.trans q4_5
  have q5_6 : Sh6 (b) = (fun r => .inr (0, [.ref (ad6 (b + 1)), .ref (ad6 (b + 2)), .null, .int (r 3)])) := ((s6 (b) (by omega)).2.1.trans q5).trans (by simp only [(s6 (b + 1) (by omega)).1, (s6 (b + 2) (by omega)).1])
  have v1_6 : σ6 b 3 = 0 := by rw [(s6 (b) (by omega)).2.2]; exact v1_4
  have t2_6 : σ6 (b + 1) = (fun _ => 0) := by rw [(s6 (b + 1) (by omega)).2.2]; exact t2_4
  have t4_6 : σ6 (b + 2) = (fun _ => 0) := by rw [(s6 (b + 2) (by omega)).2.2]; exact t4
  have cA6 : ∀ i, i ≤ b → ad6 i = ad0 i := fun i hi => (s6 i (by omega)).1.trans (cA4 i hi)
  have cH6 : ∀ i, i < b → Sh6 i = Sh0 i := fun i hi => (s6 i (by omega)).2.1.trans (cH5 i hi)
  have cG6 : ∀ i, i < b → σ6 i = σ0 i := fun i hi => (s6 i (by omega)).2.2.trans (cG4 i hi)
  clear q2_5 q4_5 q5 v1_4 t2_4 t4 cA4 cH5 cG4
  refine x_conv (lv2 := [(0, .ref (ad6 (b))), (1, .int 6), (2, .int 6)]) (st2 := [.ref (ad6 (b + 3)), .ref (ad6 (b))]) (by simp only [(s6 (b) (by omega)).1]) (by simp only [(s6 (b) (by omega)).1]) ?_
  replace X6 : xC Γ _ _ _ _ _ D ad6 (b + 4) := X6
  refine x_convN (N2 := b + 4) rfl ?_
  refine xr_putR (pc := 33) X6 hname (b) (b + 3) 2 _ (fun r => .inr (0, [.ref (ad6 (b + 1)), .ref (ad6 (b + 2)), .ref (ad6 (b + 3)), .int (r 3)])) (by omega) q5_6 rfl rfl (C := RX0) (T := TX0) (NF := 4) (tyf := tyX0) (ty := .array .int) rfl hinX0 tyX0_ok nmX0 (by omega) wm_3_16 rfl rfl (by decide +kernel) (fun _ => rfl) (fun _ => rfl) (Nat.le_of_ble_eq_true rfl) dX0_init_33 ?_
  obtain ⟨Sh7, y7⟩ : ∃ z, z = xupS Sh6 (b) (fun r => .inr (0, [.ref (ad6 (b + 1)), .ref (ad6 (b + 2)), .ref (ad6 (b + 3)), .int (r 3)])) := ⟨_, rfl⟩
  rw [← y7]
  have s7 : ∀ i, i ≠ b → Sh7 i = Sh6 i := fun i hb => by rw [y7]; exact if_neg hb
  have q7 : Sh7 (b) = (fun r => .inr (0, [.ref (ad6 (b + 1)), .ref (ad6 (b + 2)), .ref (ad6 (b + 3)), .int (r 3)])) := by rw [y7]; exact if_pos rfl
  clear y7
  have q2_7 : Sh7 (b + 1) = (shI D 6) := (s7 (b + 1) (by omega)).trans q2_6
  have q4_7 : Sh7 (b + 2) = (shI D 6) := (s7 (b + 2) (by omega)).trans q4_6
  have q6_7 : Sh7 (b + 3) = (shI D 6) := (s7 (b + 3) (by omega)).trans q6
  have cH7 : ∀ i, i < b → Sh7 i = Sh0 i := fun i hi => (s7 i (by omega)).trans (cH6 i hi)
  clear q2_6 q4_6 q5_6 q6 cH6
  exact xr_cret (pc := 36) (nn := 4) X6 ⟨cA6, fun i hi => ⟨cH7 i hi, cG6 i hi⟩, ⟨⟨by omega, q7⟩, ⟨by omega, q2_7⟩, ⟨by omega, q4_7⟩, ⟨by omega, q6_7⟩⟩⟩ (Nat.le_of_ble_eq_true rfl) (Nat.le_of_ble_eq_true rfl) dX0_init_36
abbrev rm_X0_init8 : Room := { frames := 1, cells := 3, slots := 24, locals := 21 }
set_option maxHeartbeats 40000000 in
set_option maxRecDepth 100000 in
theorem c_X0_init8 (l : Launch) (D : va_G) (b : Nat) : xKC l yX0_init (Cond.code yX0_init cX0_init 3 none :: wG) rm_X0_init8 3 24 D (fun ad => [.ref (ad (b)), .int 8]) b 4 shB0 (fun ad Sh _ => xIs0 D ad (b + 4) Sh 8 b) := by
  refine x_startC (own := RX0) (maxL := 3) (lv := fun ad => [(0, .ref (ad (b))), (1, .int 8)]) (by decide) rfl rfl rfl (fun _ => Nat.le_of_ble_eq_true rfl) (fun _ => rfl) (fun Γ ad0 Sh0 σ0 hl hnL hname hAO q0 t0 X0 => ?_)
  subst hl
  refine xr_aload_n (pc := 0) X0 (i := 0) 0 rfl rfl dX0_init_0 ?_
  refine xr_oinit (pc := 1) X0 wm_3_8 wm_1_8 wm_1_9 (Nat.le_of_ble_eq_true rfl) (Nat.le_of_ble_eq_true rfl) dX0_init_1 ?_
  refine xr_aload_n (pc := 4) X0 (i := 0) 0 rfl rfl dX0_init_4 ?_
  refine xr_iconst (pc := 5) X0 dX0_init_5 (v := 0) (by decide) ?_
  refine xr_putI (pc := 6) X0 (b) 3 _ (by omega) q0 rfl rfl (C := RX0) (T := TX0) (NF := 4) (tyf := tyX0) rfl hinX0 tyX0_ok nmX0 (by omega) wm_3_9 rfl rfl (by decide +kernel) (Nat.le_of_ble_eq_true rfl) dX0_init_6 ?_
  obtain ⟨σ1, w1⟩ : ∃ z, z = xu σ0 (b) 3 0 := ⟨_, rfl⟩
  rw [← w1]
  have s1 : ∀ i, i ≠ b → σ1 i = σ0 i := fun i hb => by rw [w1]; exact if_neg hb
  have u1 : σ1 b = upd (σ0 b) 3 0 := by rw [w1]; exact if_pos rfl
  clear w1
  have v1 : σ1 b 3 = 0 := by rw [u1]; rfl
  have cG1 : ∀ i, i < b → σ1 i = σ0 i := fun i hi => (s1 i (by omega))
  refine xr_iload_n (pc := 9) X0 (i := 1) 1 rfl rfl dX0_init_9 ?_
  refine xr_iconst (pc := 10) X0 dX0_init_10 (v := 0) (by decide) ?_
  refine xr_max (pc := 11) X0 (List.mem_cons_of_mem _ wm_3_10) (List.mem_cons_of_mem _ wm_3_11) (List.mem_cons_of_mem _ wm_3_12) (List.mem_cons_of_mem _ wm_3_13) (Nat.le_of_ble_eq_true rfl) (Nat.le_of_ble_eq_true rfl) (Nat.le_of_ble_eq_true rfl) (Nat.le_of_ble_eq_true rfl) dX0_init_11 ?_
  refine x_conv (lv2 := [(0, .ref (ad0 (b))), (1, .int 8)]) (st2 := [.int 8]) rfl rfl ?_
  refine xr_istore_n (pc := 14) X0 (hf := rfl) (i := 2) [1, 2, 0] (Nat.le_of_ble_eq_true rfl) hnL rfl dX0_init_14 ?_
  refine x_conv (lv2 := [(0, .ref (ad0 (b))), (1, .int 8), (2, .int 8)]) (st2 := []) rfl rfl ?_
  refine xr_aload_n (pc := 15) X0 (i := 0) 0 rfl rfl dX0_init_15 ?_
  refine xr_iload_n (pc := 16) X0 (i := 2) 2 rfl rfl dX0_init_16 ?_
  refine xr_newA (pc := 17) (t0 := 0) (N' := 8) X0 .int (shI D 8) (D.1 100) rfl (fun C h => by cases h) rfl wm_2_19 rfl rfl (by decide) (by decide) (by decide) (Nat.le_of_ble_eq_true rfl) (Nat.le_of_ble_eq_true rfl) dX0_init_17 (fun ad2 e2 X2 => ?_)
  obtain ⟨Sh2, y2⟩ : ∃ z, z = xupS Sh0 (b + 1) (shI D 8) := ⟨_, rfl⟩
  obtain ⟨σ2, w2⟩ : ∃ z, z = xz σ1 (b + 1) := ⟨_, rfl⟩
  rw [← y2, ← w2]
  have s2 : ∀ i, i < b + 1 → ad2 i = ad0 i ∧ Sh2 i = Sh0 i ∧ σ2 i = σ1 i := fun i hi => ⟨e2 i hi, by rw [y2]; exact if_neg (Nat.ne_of_lt hi), by rw [w2]; exact if_neg (Nat.ne_of_lt hi)⟩
  have q2 : Sh2 (b + 1) = (shI D 8) := by rw [y2]; exact if_pos rfl
  have t2 : σ2 (b + 1) = (fun _ => 0) := by rw [w2]; exact if_pos rfl
  clear e2 y2 w2
  have q0_2 : Sh2 (b) = (fun r => .inr (0, [.null, .null, .null, .int (r 3)])) := (s2 (b) (by omega)).2.1.trans q0
  have v1_2 : σ2 b 3 = 0 := by rw [(s2 (b) (by omega)).2.2]; exact v1
  have cA2 : ∀ i, i ≤ b → ad2 i = ad0 i := fun i hi => (s2 i (by omega)).1
  have cH2 : ∀ i, i < b → Sh2 i = Sh0 i := fun i hi => (s2 i (by omega)).2.1
  have cG2 : ∀ i, i < b → σ2 i = σ0 i := fun i hi => (s2 i (by omega)).2.2.trans (cG1 i hi)
  clear q0 v1 cG1
  refine x_conv (lv2 := [(0, .ref (ad2 (b))), (1, .int 8), (2, .int 8)]) (st2 := [.ref (ad2 (b + 1)), .ref (ad2 (b))]) (by simp only [(s2 (b) (by omega)).1]) (by simp only [(s2 (b) (by omega)).1]) ?_
  replace X2 : xC Γ _ _ _ _ _ D ad2 (b + 2) := X2
  refine x_convN (N2 := b + 2) rfl ?_
  refine xr_putR (pc := 19) X2 hname (b) (b + 1) 0 _ (fun r => .inr (0, [.ref (ad2 (b + 1)), .null, .null, .int (r 3)])) (by omega) q0_2 rfl rfl (C := RX0) (T := TX0) (NF := 4) (tyf := tyX0) (ty := .array .int) rfl hinX0 tyX0_ok nmX0 (by omega) wm_3_14 rfl rfl (by decide +kernel) (fun _ => rfl) (fun _ => rfl) (Nat.le_of_ble_eq_true rfl) dX0_init_19 ?_
  obtain ⟨Sh3, y3⟩ : ∃ z, z = xupS Sh2 (b) (fun r => .inr (0, [.ref (ad2 (b + 1)), .null, .null, .int (r 3)])) := ⟨_, rfl⟩
  rw [← y3]
  have s3 : ∀ i, i ≠ b → Sh3 i = Sh2 i := fun i hb => by rw [y3]; exact if_neg hb
  have q3 : Sh3 (b) = (fun r => .inr (0, [.ref (ad2 (b + 1)), .null, .null, .int (r 3)])) := by rw [y3]; exact if_pos rfl
  clear y3
  have q2_3 : Sh3 (b + 1) = (shI D 8) := (s3 (b + 1) (by omega)).trans q2
  have cH3 : ∀ i, i < b → Sh3 i = Sh0 i := fun i hi => (s3 i (by omega)).trans (cH2 i hi)
  clear q0_2 q2 cH2
  refine xr_aload_n (pc := 22) X2 (i := 0) 0 rfl rfl dX0_init_22 ?_
  refine xr_iload_n (pc := 23) X2 (i := 2) 2 rfl rfl dX0_init_23 ?_
  refine xr_newA (pc := 24) (t0 := 0) (N' := 8) X2 .int (shI D 8) (D.1 100) rfl (fun C h => by cases h) rfl wm_2_19 rfl rfl (by decide) (by decide) (by decide) (Nat.le_of_ble_eq_true rfl) (Nat.le_of_ble_eq_true rfl) dX0_init_24 (fun ad4 e4 X4 => ?_)
  obtain ⟨Sh4, y4⟩ : ∃ z, z = xupS Sh3 (b + 2) (shI D 8) := ⟨_, rfl⟩
  obtain ⟨σ4, w4⟩ : ∃ z, z = xz σ2 (b + 2) := ⟨_, rfl⟩
  rw [← y4, ← w4]
  have s4 : ∀ i, i < b + 2 → ad4 i = ad2 i ∧ Sh4 i = Sh3 i ∧ σ4 i = σ2 i := fun i hi => ⟨e4 i hi, by rw [y4]; exact if_neg (Nat.ne_of_lt hi), by rw [w4]; exact if_neg (Nat.ne_of_lt hi)⟩
  have q4 : Sh4 (b + 2) = (shI D 8) := by rw [y4]; exact if_pos rfl
  have t4 : σ4 (b + 2) = (fun _ => 0) := by rw [w4]; exact if_pos rfl
  clear e4 y4 w4
  have q2_4 : Sh4 (b + 1) = (shI D 8) := (s4 (b + 1) (by omega)).2.1.trans q2_3
  have q3_4 : Sh4 (b) = (fun r => .inr (0, [.ref (ad4 (b + 1)), .null, .null, .int (r 3)])) := ((s4 (b) (by omega)).2.1.trans q3).trans (by simp only [(s4 (b + 1) (by omega)).1])
  have v1_4 : σ4 b 3 = 0 := by rw [(s4 (b) (by omega)).2.2]; exact v1_2
  have t2_4 : σ4 (b + 1) = (fun _ => 0) := by rw [(s4 (b + 1) (by omega)).2.2]; exact t2
  have cA4 : ∀ i, i ≤ b → ad4 i = ad0 i := fun i hi => (s4 i (by omega)).1.trans (cA2 i hi)
  have cH4 : ∀ i, i < b → Sh4 i = Sh0 i := fun i hi => (s4 i (by omega)).2.1.trans (cH3 i hi)
  have cG4 : ∀ i, i < b → σ4 i = σ0 i := fun i hi => (s4 i (by omega)).2.2.trans (cG2 i hi)
  clear q2_3 q3 v1_2 t2 cA2 cH3 cG2
  refine x_conv (lv2 := [(0, .ref (ad4 (b))), (1, .int 8), (2, .int 8)]) (st2 := [.ref (ad4 (b + 2)), .ref (ad4 (b))]) (by simp only [(s4 (b) (by omega)).1]) (by simp only [(s4 (b) (by omega)).1]) ?_
  replace X4 : xC Γ _ _ _ _ _ D ad4 (b + 3) := X4
  refine x_convN (N2 := b + 3) rfl ?_
  refine xr_putR (pc := 26) X4 hname (b) (b + 2) 1 _ (fun r => .inr (0, [.ref (ad4 (b + 1)), .ref (ad4 (b + 2)), .null, .int (r 3)])) (by omega) q3_4 rfl rfl (C := RX0) (T := TX0) (NF := 4) (tyf := tyX0) (ty := .array .int) rfl hinX0 tyX0_ok nmX0 (by omega) wm_3_15 rfl rfl (by decide +kernel) (fun _ => rfl) (fun _ => rfl) (Nat.le_of_ble_eq_true rfl) dX0_init_26 ?_
  obtain ⟨Sh5, y5⟩ : ∃ z, z = xupS Sh4 (b) (fun r => .inr (0, [.ref (ad4 (b + 1)), .ref (ad4 (b + 2)), .null, .int (r 3)])) := ⟨_, rfl⟩
  rw [← y5]
  have s5 : ∀ i, i ≠ b → Sh5 i = Sh4 i := fun i hb => by rw [y5]; exact if_neg hb
  have q5 : Sh5 (b) = (fun r => .inr (0, [.ref (ad4 (b + 1)), .ref (ad4 (b + 2)), .null, .int (r 3)])) := by rw [y5]; exact if_pos rfl
  clear y5
  have q2_5 : Sh5 (b + 1) = (shI D 8) := (s5 (b + 1) (by omega)).trans q2_4
  have q4_5 : Sh5 (b + 2) = (shI D 8) := (s5 (b + 2) (by omega)).trans q4
  have cH5 : ∀ i, i < b → Sh5 i = Sh0 i := fun i hi => (s5 i (by omega)).trans (cH4 i hi)
  clear q2_4 q3_4 q4 cH4
  refine xr_aload_n (pc := 29) X4 (i := 0) 0 rfl rfl dX0_init_29 ?_
  refine xr_iload_n (pc := 30) X4 (i := 2) 2 rfl rfl dX0_init_30 ?_
  refine xr_newA (pc := 31) (t0 := 0) (N' := 8) X4 .int (shI D 8) (D.1 100) rfl (fun C h => by cases h) rfl wm_2_19 rfl rfl (by decide) (by decide) (by decide) (Nat.le_of_ble_eq_true rfl) (Nat.le_of_ble_eq_true rfl) dX0_init_31 (fun ad6 e6 X6 => ?_)
  obtain ⟨Sh6, y6⟩ : ∃ z, z = xupS Sh5 (b + 3) (shI D 8) := ⟨_, rfl⟩
  obtain ⟨σ6, w6⟩ : ∃ z, z = xz σ4 (b + 3) := ⟨_, rfl⟩
  rw [← y6, ← w6]
  have s6 : ∀ i, i < b + 3 → ad6 i = ad4 i ∧ Sh6 i = Sh5 i ∧ σ6 i = σ4 i := fun i hi => ⟨e6 i hi, by rw [y6]; exact if_neg (Nat.ne_of_lt hi), by rw [w6]; exact if_neg (Nat.ne_of_lt hi)⟩
  have q6 : Sh6 (b + 3) = (shI D 8) := by rw [y6]; exact if_pos rfl
  have t6 : σ6 (b + 3) = (fun _ => 0) := by rw [w6]; exact if_pos rfl
  clear e6 y6 w6
  have q2_6 : Sh6 (b + 1) = (shI D 8) := (s6 (b + 1) (by omega)).2.1.trans q2_5
  have q4_6 : Sh6 (b + 2) = (shI D 8) := (s6 (b + 2) (by omega)).2.1.trans q4_5
  have q5_6 : Sh6 (b) = (fun r => .inr (0, [.ref (ad6 (b + 1)), .ref (ad6 (b + 2)), .null, .int (r 3)])) := ((s6 (b) (by omega)).2.1.trans q5).trans (by simp only [(s6 (b + 1) (by omega)).1, (s6 (b + 2) (by omega)).1])
  have v1_6 : σ6 b 3 = 0 := by rw [(s6 (b) (by omega)).2.2]; exact v1_4
  have t2_6 : σ6 (b + 1) = (fun _ => 0) := by rw [(s6 (b + 1) (by omega)).2.2]; exact t2_4
  have t4_6 : σ6 (b + 2) = (fun _ => 0) := by rw [(s6 (b + 2) (by omega)).2.2]; exact t4
  have cA6 : ∀ i, i ≤ b → ad6 i = ad0 i := fun i hi => (s6 i (by omega)).1.trans (cA4 i hi)
  have cH6 : ∀ i, i < b → Sh6 i = Sh0 i := fun i hi => (s6 i (by omega)).2.1.trans (cH5 i hi)
  have cG6 : ∀ i, i < b → σ6 i = σ0 i := fun i hi => (s6 i (by omega)).2.2.trans (cG4 i hi)
  clear q2_5 q4_5 q5 v1_4 t2_4 t4 cA4 cH5 cG4
  refine x_conv (lv2 := [(0, .ref (ad6 (b))), (1, .int 8), (2, .int 8)]) (st2 := [.ref (ad6 (b + 3)), .ref (ad6 (b))]) (by simp only [(s6 (b) (by omega)).1]) (by simp only [(s6 (b) (by omega)).1]) ?_
  replace X6 : xC Γ _ _ _ _ _ D ad6 (b + 4) := X6
  refine x_convN (N2 := b + 4) rfl ?_
  refine xr_putR (pc := 33) X6 hname (b) (b + 3) 2 _ (fun r => .inr (0, [.ref (ad6 (b + 1)), .ref (ad6 (b + 2)), .ref (ad6 (b + 3)), .int (r 3)])) (by omega) q5_6 rfl rfl (C := RX0) (T := TX0) (NF := 4) (tyf := tyX0) (ty := .array .int) rfl hinX0 tyX0_ok nmX0 (by omega) wm_3_16 rfl rfl (by decide +kernel) (fun _ => rfl) (fun _ => rfl) (Nat.le_of_ble_eq_true rfl) dX0_init_33 ?_
  obtain ⟨Sh7, y7⟩ : ∃ z, z = xupS Sh6 (b) (fun r => .inr (0, [.ref (ad6 (b + 1)), .ref (ad6 (b + 2)), .ref (ad6 (b + 3)), .int (r 3)])) := ⟨_, rfl⟩
  rw [← y7]
  have s7 : ∀ i, i ≠ b → Sh7 i = Sh6 i := fun i hb => by rw [y7]; exact if_neg hb
  have q7 : Sh7 (b) = (fun r => .inr (0, [.ref (ad6 (b + 1)), .ref (ad6 (b + 2)), .ref (ad6 (b + 3)), .int (r 3)])) := by rw [y7]; exact if_pos rfl
  clear y7
  have q2_7 : Sh7 (b + 1) = (shI D 8) := (s7 (b + 1) (by omega)).trans q2_6
  have q4_7 : Sh7 (b + 2) = (shI D 8) := (s7 (b + 2) (by omega)).trans q4_6
  have q6_7 : Sh7 (b + 3) = (shI D 8) := (s7 (b + 3) (by omega)).trans q6
  have cH7 : ∀ i, i < b → Sh7 i = Sh0 i := fun i hi => (s7 i (by omega)).trans (cH6 i hi)
  clear q2_6 q4_6 q5_6 q6 cH6
  exact xr_cret (pc := 36) (nn := 4) X6 ⟨cA6, fun i hi => ⟨cH7 i hi, cG6 i hi⟩, ⟨⟨by omega, q7⟩, ⟨by omega, q2_7⟩, ⟨by omega, q4_7⟩, ⟨by omega, q6_7⟩⟩⟩ (Nat.le_of_ble_eq_true rfl) (Nat.le_of_ble_eq_true rfl) dX0_init_36
abbrev rm_X4_init : Room := { frames := 1, cells := 1, slots := 120, locals := 12 }
set_option maxHeartbeats 40000000 in
set_option maxRecDepth 100000 in
theorem c_X4_init (l : Launch) (D : va_G) (b : Nat) : xKC l yX4_init (Cond.code yX4_init cX4_init 1 none :: wG) rm_X4_init 1 120 D (fun ad => [.ref (ad (b))]) b 2 shB4 (fun ad Sh σ => xIs4 D ad (b + 2) Sh b ∧ σ b 1 = 0) := by
  refine x_startC (own := RX4) (maxL := 1) (lv := fun ad => [(0, .ref (ad (b)))]) (by decide) rfl rfl rfl (fun _ => Nat.le_of_ble_eq_true rfl) (fun _ => rfl) (fun Γ ad0 Sh0 σ0 hl hnL hname hAO q0 t0 X0 => ?_)
  subst hl
  refine xr_aload_n (pc := 0) X0 (i := 0) 0 rfl rfl dX4_init_0 ?_
  refine xr_oinit (pc := 1) X0 wm_2_5 wm_1_8 wm_1_9 (Nat.le_of_ble_eq_true rfl) (Nat.le_of_ble_eq_true rfl) dX4_init_1 ?_
  refine xr_aload_n (pc := 4) X0 (i := 0) 0 rfl rfl dX4_init_4 ?_
  refine xr_bipush (pc := 5) X0 dX4_init_5 (v := 120) (by decide) ?_
  refine xr_newA (pc := 7) (t0 := 1) (N' := 120) X0 .char (shC D 120) (D.1 101) rfl (fun C h => by cases h) rfl wm_2_6 rfl rfl (by decide) (by decide) (by decide) (Nat.le_of_ble_eq_true rfl) (Nat.le_of_ble_eq_true rfl) dX4_init_7 (fun ad1 e1 X1 => ?_)
  obtain ⟨Sh1, y1⟩ : ∃ z, z = xupS Sh0 (b + 1) (shC D 120) := ⟨_, rfl⟩
  obtain ⟨σ1, w1⟩ : ∃ z, z = xz σ0 (b + 1) := ⟨_, rfl⟩
  rw [← y1, ← w1]
  have s1 : ∀ i, i < b + 1 → ad1 i = ad0 i ∧ Sh1 i = Sh0 i ∧ σ1 i = σ0 i := fun i hi => ⟨e1 i hi, by rw [y1]; exact if_neg (Nat.ne_of_lt hi), by rw [w1]; exact if_neg (Nat.ne_of_lt hi)⟩
  have q1 : Sh1 (b + 1) = (shC D 120) := by rw [y1]; exact if_pos rfl
  have t1 : σ1 (b + 1) = (fun _ => 0) := by rw [w1]; exact if_pos rfl
  clear e1 y1 w1
  have q0_1 : Sh1 (b) = (fun r => .inr (4, [.null, .int (r 1), .int (r 2), .int (r 3), .int (r 4), .int (r 5), .int (r 6), .int (r 7)])) := (s1 (b) (by omega)).2.1.trans q0
  have t0_1 : σ1 (b) = (fun _ => 0) := by rw [(s1 (b) (by omega)).2.2]; exact t0
  have cA1 : ∀ i, i ≤ b → ad1 i = ad0 i := fun i hi => (s1 i (by omega)).1
  have cH1 : ∀ i, i < b → Sh1 i = Sh0 i := fun i hi => (s1 i (by omega)).2.1
  have cG1 : ∀ i, i < b → σ1 i = σ0 i := fun i hi => (s1 i (by omega)).2.2
  clear q0 t0
  refine x_conv (lv2 := [(0, .ref (ad1 (b)))]) (st2 := [.ref (ad1 (b + 1)), .ref (ad1 (b))]) (by simp only [(s1 (b) (by omega)).1]) (by simp only [(s1 (b) (by omega)).1]) ?_
  replace X1 : xC Γ _ _ _ _ _ D ad1 (b + 2) := X1
  refine x_convN (N2 := b + 2) rfl ?_
  refine xr_putR (pc := 9) X1 hname (b) (b + 1) 0 _ (fun r => .inr (4, [.ref (ad1 (b + 1)), .int (r 1), .int (r 2), .int (r 3), .int (r 4), .int (r 5), .int (r 6), .int (r 7)])) (by omega) q0_1 rfl rfl (C := RX4) (T := TX4) (NF := 8) (tyf := tyX4) (ty := .array .char) rfl hinX4 tyX4_ok nmX4 (by omega) wm_2_7 rfl rfl (by decide +kernel) (fun _ => rfl) (fun _ => rfl) (Nat.le_of_ble_eq_true rfl) dX4_init_9 ?_
  obtain ⟨Sh2, y2⟩ : ∃ z, z = xupS Sh1 (b) (fun r => .inr (4, [.ref (ad1 (b + 1)), .int (r 1), .int (r 2), .int (r 3), .int (r 4), .int (r 5), .int (r 6), .int (r 7)])) := ⟨_, rfl⟩
  rw [← y2]
  have s2 : ∀ i, i ≠ b → Sh2 i = Sh1 i := fun i hb => by rw [y2]; exact if_neg hb
  have q2 : Sh2 (b) = (fun r => .inr (4, [.ref (ad1 (b + 1)), .int (r 1), .int (r 2), .int (r 3), .int (r 4), .int (r 5), .int (r 6), .int (r 7)])) := by rw [y2]; exact if_pos rfl
  clear y2
  have q1_2 : Sh2 (b + 1) = (shC D 120) := (s2 (b + 1) (by omega)).trans q1
  have cH2 : ∀ i, i < b → Sh2 i = Sh0 i := fun i hi => (s2 i (by omega)).trans (cH1 i hi)
  clear q0_1 q1 cH1
  refine xr_aload_n (pc := 12) X1 (i := 0) 0 rfl rfl dX4_init_12 ?_
  refine xr_iconst (pc := 13) X1 dX4_init_13 (v := 0) (by decide) ?_
  refine xr_putI (pc := 14) X1 (b) 1 _ (by omega) q2 rfl rfl (C := RX4) (T := TX4) (NF := 8) (tyf := tyX4) rfl hinX4 tyX4_ok nmX4 (by omega) wm_2_8 rfl rfl (by decide +kernel) (Nat.le_of_ble_eq_true rfl) dX4_init_14 ?_
  obtain ⟨σ3, w3⟩ : ∃ z, z = xu σ1 (b) 1 0 := ⟨_, rfl⟩
  rw [← w3]
  have s3 : ∀ i, i ≠ b → σ3 i = σ1 i := fun i hb => by rw [w3]; exact if_neg hb
  have u3 : σ3 b = upd (σ1 b) 1 0 := by rw [w3]; exact if_pos rfl
  clear w3
  have t1_3 : σ3 (b + 1) = (fun _ => 0) := by rw [s3 (b + 1) (by omega)]; exact t1
  have v3 : σ3 b 1 = 0 := by rw [u3]; rfl
  have cG3 : ∀ i, i < b → σ3 i = σ0 i := fun i hi => (s3 i (by omega)).trans (cG1 i hi)
  refine xr_aload_n (pc := 17) X1 (i := 0) 0 rfl rfl dX4_init_17 ?_
  refine xr_iconst (pc := 18) X1 dX4_init_18 (v := 0) (by decide) ?_
  refine xr_putI (pc := 19) X1 (b) 2 _ (by omega) q2 rfl rfl (C := RX4) (T := TX4) (NF := 8) (tyf := tyX4) rfl hinX4 tyX4_ok nmX4 (by omega) wm_2_9 rfl rfl (by decide +kernel) (Nat.le_of_ble_eq_true rfl) dX4_init_19 ?_
  obtain ⟨σ4, w4⟩ : ∃ z, z = xu σ3 (b) 2 0 := ⟨_, rfl⟩
  rw [← w4]
  have s4 : ∀ i, i ≠ b → σ4 i = σ3 i := fun i hb => by rw [w4]; exact if_neg hb
  have u4 : σ4 b = upd (σ3 b) 2 0 := by rw [w4]; exact if_pos rfl
  clear w4
  have t1_4 : σ4 (b + 1) = (fun _ => 0) := by rw [s4 (b + 1) (by omega)]; exact t1_3
  have v3_4 : σ4 b 1 = 0 := by rw [u4]; exact v3
  have v4 : σ4 b 2 = 0 := by rw [u4]; rfl
  have cG4 : ∀ i, i < b → σ4 i = σ0 i := fun i hi => (s4 i (by omega)).trans (cG3 i hi)
  refine xr_aload_n (pc := 22) X1 (i := 0) 0 rfl rfl dX4_init_22 ?_
  refine xr_iconst (pc := 23) X1 dX4_init_23 (v := (-1)) (by decide) ?_
  refine xr_putI (pc := 24) X1 (b) 3 _ (by omega) q2 rfl rfl (C := RX4) (T := TX4) (NF := 8) (tyf := tyX4) rfl hinX4 tyX4_ok nmX4 (by omega) wm_2_10 rfl rfl (by decide +kernel) (Nat.le_of_ble_eq_true rfl) dX4_init_24 ?_
  obtain ⟨σ5, w5⟩ : ∃ z, z = xu σ4 (b) 3 (-1) := ⟨_, rfl⟩
  rw [← w5]
  have s5 : ∀ i, i ≠ b → σ5 i = σ4 i := fun i hb => by rw [w5]; exact if_neg hb
  have u5 : σ5 b = upd (σ4 b) 3 (-1) := by rw [w5]; exact if_pos rfl
  clear w5
  have t1_5 : σ5 (b + 1) = (fun _ => 0) := by rw [s5 (b + 1) (by omega)]; exact t1_4
  have v3_5 : σ5 b 1 = 0 := by rw [u5]; exact v3_4
  have v4_5 : σ5 b 2 = 0 := by rw [u5]; exact v4
  have v5 : σ5 b 3 = (-1) := by rw [u5]; rfl
  have cG5 : ∀ i, i < b → σ5 i = σ0 i := fun i hi => (s5 i (by omega)).trans (cG4 i hi)
  refine xr_aload_n (pc := 27) X1 (i := 0) 0 rfl rfl dX4_init_27 ?_
  refine xr_iconst (pc := 28) X1 dX4_init_28 (v := 0) (by decide) ?_
  refine xr_putI (pc := 29) X1 (b) 4 _ (by omega) q2 rfl rfl (C := RX4) (T := TX4) (NF := 8) (tyf := tyX4) rfl hinX4 tyX4_ok nmX4 (by omega) wm_2_11 rfl rfl (by decide +kernel) (Nat.le_of_ble_eq_true rfl) dX4_init_29 ?_
  obtain ⟨σ6, w6⟩ : ∃ z, z = xu σ5 (b) 4 0 := ⟨_, rfl⟩
  rw [← w6]
  have s6 : ∀ i, i ≠ b → σ6 i = σ5 i := fun i hb => by rw [w6]; exact if_neg hb
  have u6 : σ6 b = upd (σ5 b) 4 0 := by rw [w6]; exact if_pos rfl
  clear w6
  have t1_6 : σ6 (b + 1) = (fun _ => 0) := by rw [s6 (b + 1) (by omega)]; exact t1_5
  have v3_6 : σ6 b 1 = 0 := by rw [u6]; exact v3_5
  have v4_6 : σ6 b 2 = 0 := by rw [u6]; exact v4_5
  have v5_6 : σ6 b 3 = (-1) := by rw [u6]; exact v5
  have v6 : σ6 b 4 = 0 := by rw [u6]; rfl
  have cG6 : ∀ i, i < b → σ6 i = σ0 i := fun i hi => (s6 i (by omega)).trans (cG5 i hi)
  refine xr_aload_n (pc := 32) X1 (i := 0) 0 rfl rfl dX4_init_32 ?_
  refine xr_iconst (pc := 33) X1 dX4_init_33 (v := 0) (by decide) ?_
  refine xr_putI (pc := 34) X1 (b) 5 _ (by omega) q2 rfl rfl (C := RX4) (T := TX4) (NF := 8) (tyf := tyX4) rfl hinX4 tyX4_ok nmX4 (by omega) wm_2_12 rfl rfl (by decide +kernel) (Nat.le_of_ble_eq_true rfl) dX4_init_34 ?_
  obtain ⟨σ7, w7⟩ : ∃ z, z = xu σ6 (b) 5 0 := ⟨_, rfl⟩
  rw [← w7]
  have s7 : ∀ i, i ≠ b → σ7 i = σ6 i := fun i hb => by rw [w7]; exact if_neg hb
  have u7 : σ7 b = upd (σ6 b) 5 0 := by rw [w7]; exact if_pos rfl
  clear w7
  have t1_7 : σ7 (b + 1) = (fun _ => 0) := by rw [s7 (b + 1) (by omega)]; exact t1_6
  have v3_7 : σ7 b 1 = 0 := by rw [u7]; exact v3_6
  have v4_7 : σ7 b 2 = 0 := by rw [u7]; exact v4_6
  have v5_7 : σ7 b 3 = (-1) := by rw [u7]; exact v5_6
  have v6_7 : σ7 b 4 = 0 := by rw [u7]; exact v6
  have v7 : σ7 b 5 = 0 := by rw [u7]; rfl
  have cG7 : ∀ i, i < b → σ7 i = σ0 i := fun i hi => (s7 i (by omega)).trans (cG6 i hi)
  refine xr_aload_n (pc := 37) X1 (i := 0) 0 rfl rfl dX4_init_37 ?_
  refine xr_iconst (pc := 38) X1 dX4_init_38 (v := 0) (by decide) ?_
  refine xr_putI (pc := 39) X1 (b) 6 _ (by omega) q2 rfl rfl (C := RX4) (T := TX4) (NF := 8) (tyf := tyX4) rfl hinX4 tyX4_ok nmX4 (by omega) wm_2_13 rfl rfl (by decide +kernel) (Nat.le_of_ble_eq_true rfl) dX4_init_39 ?_
  obtain ⟨σ8, w8⟩ : ∃ z, z = xu σ7 (b) 6 0 := ⟨_, rfl⟩
  rw [← w8]
  have s8 : ∀ i, i ≠ b → σ8 i = σ7 i := fun i hb => by rw [w8]; exact if_neg hb
  have u8 : σ8 b = upd (σ7 b) 6 0 := by rw [w8]; exact if_pos rfl
  clear w8
  have t1_8 : σ8 (b + 1) = (fun _ => 0) := by rw [s8 (b + 1) (by omega)]; exact t1_7
  have v3_8 : σ8 b 1 = 0 := by rw [u8]; exact v3_7
  have v4_8 : σ8 b 2 = 0 := by rw [u8]; exact v4_7
  have v5_8 : σ8 b 3 = (-1) := by rw [u8]; exact v5_7
  have v6_8 : σ8 b 4 = 0 := by rw [u8]; exact v6_7
  have v7_8 : σ8 b 5 = 0 := by rw [u8]; exact v7
  have v8 : σ8 b 6 = 0 := by rw [u8]; rfl
  have cG8 : ∀ i, i < b → σ8 i = σ0 i := fun i hi => (s8 i (by omega)).trans (cG7 i hi)
  refine xr_aload_n (pc := 42) X1 (i := 0) 0 rfl rfl dX4_init_42 ?_
  refine xr_iconst (pc := 43) X1 dX4_init_43 (v := 0) (by decide) ?_
  refine xr_putI (pc := 44) X1 (b) 7 _ (by omega) q2 rfl rfl (C := RX4) (T := TX4) (NF := 8) (tyf := tyX4) rfl hinX4 tyX4_ok nmX4 (by omega) wm_2_14 rfl rfl (by decide +kernel) (Nat.le_of_ble_eq_true rfl) dX4_init_44 ?_
  obtain ⟨σ9, w9⟩ : ∃ z, z = xu σ8 (b) 7 0 := ⟨_, rfl⟩
  rw [← w9]
  have s9 : ∀ i, i ≠ b → σ9 i = σ8 i := fun i hb => by rw [w9]; exact if_neg hb
  have u9 : σ9 b = upd (σ8 b) 7 0 := by rw [w9]; exact if_pos rfl
  clear w9
  have t1_9 : σ9 (b + 1) = (fun _ => 0) := by rw [s9 (b + 1) (by omega)]; exact t1_8
  have v3_9 : σ9 b 1 = 0 := by rw [u9]; exact v3_8
  have v4_9 : σ9 b 2 = 0 := by rw [u9]; exact v4_8
  have v5_9 : σ9 b 3 = (-1) := by rw [u9]; exact v5_8
  have v6_9 : σ9 b 4 = 0 := by rw [u9]; exact v6_8
  have v7_9 : σ9 b 5 = 0 := by rw [u9]; exact v7_8
  have v8_9 : σ9 b 6 = 0 := by rw [u9]; exact v8
  have v9 : σ9 b 7 = 0 := by rw [u9]; rfl
  have cG9 : ∀ i, i < b → σ9 i = σ0 i := fun i hi => (s9 i (by omega)).trans (cG8 i hi)
  exact xr_cret (pc := 47) (nn := 2) X1 ⟨cA1, fun i hi => ⟨cH2 i hi, cG9 i hi⟩, ⟨⟨⟨by omega, q2⟩, ⟨by omega, q1_2⟩⟩, v3_9⟩⟩ (Nat.le_of_ble_eq_true rfl) (Nat.le_of_ble_eq_true rfl) dX4_init_47
abbrev rm_X2_init : Room := { frames := 2, cells := 8, slots := 44, locals := 43 }
set_option maxHeartbeats 40000000 in
set_option maxRecDepth 100000 in
theorem c_X2_init (l : Launch) (D : va_G) (b : Nat) (pp1 : Int32) : xKC l yX2_init (Cond.code yX2_init cX2_init 2 none :: wG) rm_X2_init 8 44 D (fun ad => [.ref (ad (b)), .int pp1]) b 9 shB2 (fun ad Sh _ => xIs2 D ad (b + 9) Sh b) := by
  refine x_startC (own := RX2) (maxL := 2) (lv := fun ad => [(0, .ref (ad (b))), (1, .int pp1)]) (by decide) rfl rfl rfl (fun _ => Nat.le_of_ble_eq_true rfl) (fun _ => rfl) (fun Γ ad0 Sh0 σ0 hl hnL hname hAO q0 t0 X0 => ?_)
  subst hl
  refine xr_aload_n (pc := 0) X0 (i := 0) 0 rfl rfl dX2_init_0 ?_
  refine xr_oinit (pc := 1) X0 wm_3_20 wm_1_8 wm_1_9 (Nat.le_of_ble_eq_true rfl) (Nat.le_of_ble_eq_true rfl) dX2_init_1 ?_
  refine xr_aload_n (pc := 4) X0 (i := 0) 0 rfl rfl dX2_init_4 ?_
  refine xr_new (pc := 5) X0 shB0 (C := RX0) (T := TX0) (NF := 4) (tyf := tyX0) rfl hinX0 tyX0_ok wm_3_21 wm_2_22 wm_2_23 rfl (fun j hj => by rcases (show j = 0 ∨ j = 1 ∨ j = 2 ∨ j = 3 by omega) with rfl | rfl | rfl | rfl <;> rfl) (Nat.le_of_ble_eq_true rfl) (Nat.le_of_ble_eq_true rfl) dX2_init_5 (fun ad1 e1 X1 => ?_)
  obtain ⟨Sh1, y1⟩ : ∃ z, z = xupS Sh0 (b + 1) shB0 := ⟨_, rfl⟩
  obtain ⟨σ1, w1⟩ : ∃ z, z = xz σ0 (b + 1) := ⟨_, rfl⟩
  rw [← y1, ← w1]
  have s1 : ∀ i, i < b + 1 → ad1 i = ad0 i ∧ Sh1 i = Sh0 i ∧ σ1 i = σ0 i := fun i hi => ⟨e1 i hi, by rw [y1]; exact if_neg (Nat.ne_of_lt hi), by rw [w1]; exact if_neg (Nat.ne_of_lt hi)⟩
  have q1 : Sh1 (b + 1) = shB0 := by rw [y1]; exact if_pos rfl
  have t1 : σ1 (b + 1) = (fun _ => 0) := by rw [w1]; exact if_pos rfl
  clear e1 y1 w1
  have q0_1 : Sh1 (b) = (fun r => .inr (2, [.int (r 0), .null, .int (r 2), .int (r 3), .int (r 4), .int (r 5), .int (r 6), .int (r 7), .null, .int (r 9), .int (r 10), .int (r 11), .int (r 12), .int (r 13)])) := (s1 (b) (by omega)).2.1.trans q0
  have t0_1 : σ1 (b) = (fun _ => 0) := by rw [(s1 (b) (by omega)).2.2]; exact t0
  have cA1 : ∀ i, i ≤ b → ad1 i = ad0 i := fun i hi => (s1 i (by omega)).1
  have cH1 : ∀ i, i < b → Sh1 i = Sh0 i := fun i hi => (s1 i (by omega)).2.1
  have cG1 : ∀ i, i < b → σ1 i = σ0 i := fun i hi => (s1 i (by omega)).2.2
  clear q0 t0
  refine x_conv (lv2 := [(0, .ref (ad1 (b))), (1, .int pp1)]) (st2 := [.ref (ad1 (b + 1)), .ref (ad1 (b))]) (by simp only [(s1 (b) (by omega)).1]) (by simp only [(s1 (b) (by omega)).1]) ?_
  replace X1 : xC Γ _ _ _ _ _ D ad1 (b + 2) := X1
  refine x_convN (N2 := b + 2) rfl ?_
  refine xr_dup (pc := 8) X1 rfl dX2_init_8 ?_
  refine xr_bipush (pc := 9) X1 dX2_init_9 (v := 6) (by decide) ?_
  refine xr_callC (pc := 11) (na := 1) (b + 1) [.int 6] X1 hAO (c_X0_init6 Γ.2.1 D _) q1 t1 rfl (wG_1 wm_3_7) rfl rfl rfl (List.mem_cons_of_mem _ wm_2_23) (List.mem_cons_of_mem _ wm_4_1) (List.mem_cons_of_mem _ wm_3_6) rfl (by decide +kernel) ⟨(Nat.le_of_ble_eq_true rfl), (Nat.le_of_ble_eq_true rfl)⟩ rfl rfl (Nat.le_of_ble_eq_true rfl) ⟨(Nat.le_of_ble_eq_true rfl), (Nat.le_of_ble_eq_true rfl)⟩ dX2_init_11 (fun ad2 Sh2 σ2 p2 X2 => ?_)
  have s2 : ∀ i, i < b + 1 → ad2 i = ad1 i ∧ Sh2 i = Sh1 i ∧ σ2 i = σ1 i := fun i hi => ⟨p2.1 i (by omega), (p2.2.1 i hi).1, (p2.2.1 i hi).2⟩
  have n2 := p2.2.2
  have r2 : ad2 (b + 1) = ad1 (b + 1) := p2.1 _ (Nat.le_refl _)
  clear p2
  replace X2 : xC Γ _ _ _ _ _ D ad2 (b + 5) := X2
  refine x_convN (N2 := b + 5) rfl ?_
  have q0_2 : Sh2 (b) = (fun r => .inr (2, [.int (r 0), .null, .int (r 2), .int (r 3), .int (r 4), .int (r 5), .int (r 6), .int (r 7), .null, .int (r 9), .int (r 10), .int (r 11), .int (r 12), .int (r 13)])) := (s2 (b) (by omega)).2.1.trans q0_1
  have t0_2 : σ2 (b) = (fun _ => 0) := by rw [(s2 (b) (by omega)).2.2]; exact t0_1
  have cA2 : ∀ i, i ≤ b → ad2 i = ad0 i := fun i hi => (s2 i (by omega)).1.trans (cA1 i hi)
  have cH2 : ∀ i, i < b → Sh2 i = Sh0 i := fun i hi => (s2 i (by omega)).2.1.trans (cH1 i hi)
  have cG2 : ∀ i, i < b → σ2 i = σ0 i := fun i hi => (s2 i (by omega)).2.2.trans (cG1 i hi)
  clear q0_1 t0_1 cA1 cH1 cG1
  have i2 : xIs0 D ad2 (b + 5) Sh2 6 (b + 1) := n2
  refine x_conv (lv2 := [(0, .ref (ad2 (b))), (1, .int pp1)]) (st2 := [.ref (ad2 (b + 1)), .ref (ad2 (b))]) (by simp only [(s2 (b) (by omega)).1]) (by simp only [r2, (s2 (b) (by omega)).1]) ?_
  refine xr_putR (pc := 14) X2 hname (b) (b + 1) 1 _ (fun r => .inr (2, [.int (r 0), .ref (ad2 (b + 1)), .int (r 2), .int (r 3), .int (r 4), .int (r 5), .int (r 6), .int (r 7), .null, .int (r 9), .int (r 10), .int (r 11), .int (r 12), .int (r 13)])) (by omega) q0_2 rfl rfl (C := RX2) (T := TX2) (NF := 14) (tyf := tyX2) (ty := .object "HeldNotes$Dated") rfl hinX2 tyX2_ok nmX2 (by omega) wm_3_22 rfl rfl (by decide +kernel) (fun _ => rfl) (fun _ => rfl) (Nat.le_of_ble_eq_true rfl) dX2_init_14 ?_
  obtain ⟨Sh3, y3⟩ : ∃ z, z = xupS Sh2 (b) (fun r => .inr (2, [.int (r 0), .ref (ad2 (b + 1)), .int (r 2), .int (r 3), .int (r 4), .int (r 5), .int (r 6), .int (r 7), .null, .int (r 9), .int (r 10), .int (r 11), .int (r 12), .int (r 13)])) := ⟨_, rfl⟩
  rw [← y3]
  have s3 : ∀ i, i ≠ b → Sh3 i = Sh2 i := fun i hb => by rw [y3]; exact if_neg hb
  have q3 : Sh3 (b) = (fun r => .inr (2, [.int (r 0), .ref (ad2 (b + 1)), .int (r 2), .int (r 3), .int (r 4), .int (r 5), .int (r 6), .int (r 7), .null, .int (r 9), .int (r 10), .int (r 11), .int (r 12), .int (r 13)])) := by rw [y3]; exact if_pos rfl
  clear y3
  have i2_3 : xIs0 D ad2 (b + 5) Sh3 6 (b + 1) := xIs0_ex i2 (fun i h1 h2 => ⟨rfl, s3 i (by omega)⟩) (by omega)
  have cH3 : ∀ i, i < b → Sh3 i = Sh0 i := fun i hi => (s3 i (by omega)).trans (cH2 i hi)
  clear q0_2 i2 cH2
  refine xr_aload_n (pc := 17) X2 (i := 0) 0 rfl rfl dX2_init_17 ?_
  refine xr_new (pc := 18) X2 shB0 (C := RX0) (T := TX0) (NF := 4) (tyf := tyX0) rfl hinX0 tyX0_ok wm_3_21 wm_2_22 wm_2_23 rfl (fun j hj => by rcases (show j = 0 ∨ j = 1 ∨ j = 2 ∨ j = 3 by omega) with rfl | rfl | rfl | rfl <;> rfl) (Nat.le_of_ble_eq_true rfl) (Nat.le_of_ble_eq_true rfl) dX2_init_18 (fun ad4 e4 X4 => ?_)
  obtain ⟨Sh4, y4⟩ : ∃ z, z = xupS Sh3 (b + 5) shB0 := ⟨_, rfl⟩
  obtain ⟨σ4, w4⟩ : ∃ z, z = xz σ2 (b + 5) := ⟨_, rfl⟩
  rw [← y4, ← w4]
  have s4 : ∀ i, i < b + 5 → ad4 i = ad2 i ∧ Sh4 i = Sh3 i ∧ σ4 i = σ2 i := fun i hi => ⟨e4 i hi, by rw [y4]; exact if_neg (Nat.ne_of_lt hi), by rw [w4]; exact if_neg (Nat.ne_of_lt hi)⟩
  have q4 : Sh4 (b + 5) = shB0 := by rw [y4]; exact if_pos rfl
  have t4 : σ4 (b + 5) = (fun _ => 0) := by rw [w4]; exact if_pos rfl
  clear e4 y4 w4
  have i2_4 : xIs0 D ad4 (b + 6) Sh4 6 (b + 1) := xIs0_ex i2_3 (fun i h1 h2 => ⟨(s4 i (by omega)).1, (s4 i (by omega)).2.1⟩) (by omega)
  have q3_4 : Sh4 (b) = (fun r => .inr (2, [.int (r 0), .ref (ad4 (b + 1)), .int (r 2), .int (r 3), .int (r 4), .int (r 5), .int (r 6), .int (r 7), .null, .int (r 9), .int (r 10), .int (r 11), .int (r 12), .int (r 13)])) := ((s4 (b) (by omega)).2.1.trans q3).trans (by simp only [(s4 (b + 1) (by omega)).1])
  have t0_4 : σ4 (b) = (fun _ => 0) := by rw [(s4 (b) (by omega)).2.2]; exact t0_2
  have cA4 : ∀ i, i ≤ b → ad4 i = ad0 i := fun i hi => (s4 i (by omega)).1.trans (cA2 i hi)
  have cH4 : ∀ i, i < b → Sh4 i = Sh0 i := fun i hi => (s4 i (by omega)).2.1.trans (cH3 i hi)
  have cG4 : ∀ i, i < b → σ4 i = σ0 i := fun i hi => (s4 i (by omega)).2.2.trans (cG2 i hi)
  clear i2_3 q3 t0_2 cA2 cH3 cG2
  refine x_conv (lv2 := [(0, .ref (ad4 (b))), (1, .int pp1)]) (st2 := [.ref (ad4 (b + 5)), .ref (ad4 (b))]) (by simp only [(s4 (b) (by omega)).1]) (by simp only [(s4 (b) (by omega)).1]) ?_
  replace X4 : xC Γ _ _ _ _ _ D ad4 (b + 6) := X4
  refine x_convN (N2 := b + 6) rfl ?_
  refine xr_dup (pc := 21) X4 rfl dX2_init_21 ?_
  refine xr_bipush (pc := 22) X4 dX2_init_22 (v := 6) (by decide) ?_
  refine xr_callC (pc := 24) (na := 1) (b + 5) [.int 6] X4 hAO (c_X0_init6 Γ.2.1 D _) q4 t4 rfl (wG_1 wm_3_7) rfl rfl rfl (List.mem_cons_of_mem _ wm_2_23) (List.mem_cons_of_mem _ wm_4_1) (List.mem_cons_of_mem _ wm_3_6) rfl (by decide +kernel) ⟨(Nat.le_of_ble_eq_true rfl), (Nat.le_of_ble_eq_true rfl)⟩ rfl rfl (Nat.le_of_ble_eq_true rfl) ⟨(Nat.le_of_ble_eq_true rfl), (Nat.le_of_ble_eq_true rfl)⟩ dX2_init_24 (fun ad5 Sh5 σ5 p5 X5 => ?_)
  have s5 : ∀ i, i < b + 5 → ad5 i = ad4 i ∧ Sh5 i = Sh4 i ∧ σ5 i = σ4 i := fun i hi => ⟨p5.1 i (by omega), (p5.2.1 i hi).1, (p5.2.1 i hi).2⟩
  have n5 := p5.2.2
  have r5 : ad5 (b + 5) = ad4 (b + 5) := p5.1 _ (Nat.le_refl _)
  clear p5
  replace X5 : xC Γ _ _ _ _ _ D ad5 (b + 9) := X5
  refine x_convN (N2 := b + 9) rfl ?_
  have i2_5 : xIs0 D ad5 (b + 9) Sh5 6 (b + 1) := xIs0_ex i2_4 (fun i h1 h2 => ⟨(s5 i (by omega)).1, (s5 i (by omega)).2.1⟩) (by omega)
  have q3_5 : Sh5 (b) = (fun r => .inr (2, [.int (r 0), .ref (ad5 (b + 1)), .int (r 2), .int (r 3), .int (r 4), .int (r 5), .int (r 6), .int (r 7), .null, .int (r 9), .int (r 10), .int (r 11), .int (r 12), .int (r 13)])) := ((s5 (b) (by omega)).2.1.trans q3_4).trans (by simp only [(s5 (b + 1) (by omega)).1])
  have t0_5 : σ5 (b) = (fun _ => 0) := by rw [(s5 (b) (by omega)).2.2]; exact t0_4
  have cA5 : ∀ i, i ≤ b → ad5 i = ad0 i := fun i hi => (s5 i (by omega)).1.trans (cA4 i hi)
  have cH5 : ∀ i, i < b → Sh5 i = Sh0 i := fun i hi => (s5 i (by omega)).2.1.trans (cH4 i hi)
  have cG5 : ∀ i, i < b → σ5 i = σ0 i := fun i hi => (s5 i (by omega)).2.2.trans (cG4 i hi)
  clear i2_4 q3_4 t0_4 cA4 cH4 cG4
  have i5 : xIs0 D ad5 (b + 9) Sh5 6 (b + 5) := n5
  refine x_conv (lv2 := [(0, .ref (ad5 (b))), (1, .int pp1)]) (st2 := [.ref (ad5 (b + 5)), .ref (ad5 (b))]) (by simp only [(s5 (b) (by omega)).1]) (by simp only [r5, (s5 (b) (by omega)).1]) ?_
  refine xr_putR (pc := 27) X5 hname (b) (b + 5) 8 _ (fun r => .inr (2, [.int (r 0), .ref (ad5 (b + 1)), .int (r 2), .int (r 3), .int (r 4), .int (r 5), .int (r 6), .int (r 7), .ref (ad5 (b + 5)), .int (r 9), .int (r 10), .int (r 11), .int (r 12), .int (r 13)])) (by omega) q3_5 rfl rfl (C := RX2) (T := TX2) (NF := 14) (tyf := tyX2) (ty := .object "HeldNotes$Dated") rfl hinX2 tyX2_ok nmX2 (by omega) wm_3_23 rfl rfl (by decide +kernel) (fun _ => rfl) (fun _ => rfl) (Nat.le_of_ble_eq_true rfl) dX2_init_27 ?_
  obtain ⟨Sh6, y6⟩ : ∃ z, z = xupS Sh5 (b) (fun r => .inr (2, [.int (r 0), .ref (ad5 (b + 1)), .int (r 2), .int (r 3), .int (r 4), .int (r 5), .int (r 6), .int (r 7), .ref (ad5 (b + 5)), .int (r 9), .int (r 10), .int (r 11), .int (r 12), .int (r 13)])) := ⟨_, rfl⟩
  rw [← y6]
  have s6 : ∀ i, i ≠ b → Sh6 i = Sh5 i := fun i hb => by rw [y6]; exact if_neg hb
  have q6 : Sh6 (b) = (fun r => .inr (2, [.int (r 0), .ref (ad5 (b + 1)), .int (r 2), .int (r 3), .int (r 4), .int (r 5), .int (r 6), .int (r 7), .ref (ad5 (b + 5)), .int (r 9), .int (r 10), .int (r 11), .int (r 12), .int (r 13)])) := by rw [y6]; exact if_pos rfl
  clear y6
  have i2_6 : xIs0 D ad5 (b + 9) Sh6 6 (b + 1) := xIs0_ex i2_5 (fun i h1 h2 => ⟨rfl, s6 i (by omega)⟩) (by omega)
  have i5_6 : xIs0 D ad5 (b + 9) Sh6 6 (b + 5) := xIs0_ex i5 (fun i h1 h2 => ⟨rfl, s6 i (by omega)⟩) (by omega)
  have cH6 : ∀ i, i < b → Sh6 i = Sh0 i := fun i hi => (s6 i (by omega)).trans (cH5 i hi)
  clear i2_5 q3_5 i5 cH5
  refine xr_aload_n (pc := 30) X5 (i := 0) 0 rfl rfl dX2_init_30 ?_
  refine xr_iload_n (pc := 31) X5 (i := 1) 1 rfl rfl dX2_init_31 ?_
  refine xr_putFI (pc := 32) X5 hname (b) 0 _ (by omega) q6 rfl rfl (C := RX2) (T := TX2) (NF := 14) (tyf := tyX2) rfl hinX2 tyX2_ok nmX2 (by omega) wm_4_0 rfl rfl (by decide +kernel) (Nat.le_of_ble_eq_true rfl) dX2_init_32 ?_
  obtain ⟨σ7, w7⟩ : ∃ z, z = xu σ5 (b) 0 pp1 := ⟨_, rfl⟩
  rw [← w7]
  have s7 : ∀ i, i ≠ b → σ7 i = σ5 i := fun i hb => by rw [w7]; exact if_neg hb
  have u7 : σ7 b = upd (σ5 b) 0 pp1 := by rw [w7]; exact if_pos rfl
  clear w7
  have v7 : σ7 b 0 = pp1 := by rw [u7]; rfl
  have cG7 : ∀ i, i < b → σ7 i = σ0 i := fun i hi => (s7 i (by omega)).trans (cG5 i hi)
  exact xr_cret (pc := 35) (nn := 9) X5 ⟨cA5, fun i hi => ⟨cH6 i hi, cG7 i hi⟩, ⟨⟨by omega, q6⟩, i2_6, i5_6⟩⟩ (Nat.le_of_ble_eq_true rfl) (Nat.le_of_ble_eq_true rfl) dX2_init_35
