abbrev rm_X5_init : Room := { frames := 5, cells := 823, slots := 5336, locals := 106 }
set_option maxHeartbeats 40000000 in
set_option maxRecDepth 100000 in
theorem c_X5_init (l : Launch) (D : va_G) (b : Nat) : xKC l yX5_init (Cond.code yX5_init cX5_init 2 none :: wG) rm_X5_init 823 5336 D (fun ad => [.ref (ad (b))]) b 824 shB5 (fun ad Sh σ => xIs5 D ad (b + 824) Sh b ∧ σ (b + 1) 1 = 0 ∧ xBg3 σ (b + 3) ∧ (σ (b + 46) 1 = 0 ∧ σ (b + 46) 2 = 0) ∧ σ (b + 651) = (fun _ => 0)) := by
  refine x_startC (own := RX5) (maxL := 2) (lv := fun ad => [(0, .ref (ad (b)))]) (by decide) rfl rfl rfl (fun _ => Nat.le_of_ble_eq_true rfl) (fun _ => rfl) (fun Γ ad0 Sh0 σ0 hl hnL hname hAO q0 t0 X0 => ?_)
  subst hl
  refine xr_aload_n (pc := 0) X0 (i := 0) 0 rfl rfl dX5_init_0 ?_
  refine xr_oinit (pc := 1) X0 wm_1_7 wm_1_8 wm_1_9 (Nat.le_of_ble_eq_true rfl) (Nat.le_of_ble_eq_true rfl) dX5_init_1 ?_
  refine xr_aload_n (pc := 4) X0 (i := 0) 0 rfl rfl dX5_init_4 ?_
  refine xr_new (pc := 5) X0 shB4 (C := RX4) (T := TX4) (NF := 8) (tyf := tyX4) rfl hinX4 tyX4_ok wm_1_10 wm_1_11 wm_1_12 rfl (fun j hj => by rcases (show j = 0 ∨ j = 1 ∨ j = 2 ∨ j = 3 ∨ j = 4 ∨ j = 5 ∨ j = 6 ∨ j = 7 by omega) with rfl | rfl | rfl | rfl | rfl | rfl | rfl | rfl <;> rfl) (Nat.le_of_ble_eq_true rfl) (Nat.le_of_ble_eq_true rfl) dX5_init_5 (fun ad1 e1 X1 => ?_)
  obtain ⟨Sh1, y1⟩ : ∃ z, z = xupS Sh0 (b + 1) shB4 := ⟨_, rfl⟩
  obtain ⟨σ1, w1⟩ : ∃ z, z = xz σ0 (b + 1) := ⟨_, rfl⟩
  rw [← y1, ← w1]
  have s1 : ∀ i, i < b + 1 → ad1 i = ad0 i ∧ Sh1 i = Sh0 i ∧ σ1 i = σ0 i := fun i hi => ⟨e1 i hi, by rw [y1]; exact if_neg (Nat.ne_of_lt hi), by rw [w1]; exact if_neg (Nat.ne_of_lt hi)⟩
  have q1 : Sh1 (b + 1) = shB4 := by rw [y1]; exact if_pos rfl
  have t1 : σ1 (b + 1) = (fun _ => 0) := by rw [w1]; exact if_pos rfl
  clear e1 y1 w1
  have q0_1 : Sh1 (b) = (fun r => .inr (5, [.null, .null, .null, .null, .null, .null, .null])) := (s1 (b) (by omega)).2.1.trans q0
  have t0_1 : σ1 (b) = (fun _ => 0) := by rw [(s1 (b) (by omega)).2.2]; exact t0
  have cA1 : ∀ i, i ≤ b → ad1 i = ad0 i := fun i hi => (s1 i (by omega)).1
  have cH1 : ∀ i, i < b → Sh1 i = Sh0 i := fun i hi => (s1 i (by omega)).2.1
  have cG1 : ∀ i, i < b → σ1 i = σ0 i := fun i hi => (s1 i (by omega)).2.2
  clear q0 t0
  refine x_conv (lv2 := [(0, .ref (ad1 (b)))]) (st2 := [.ref (ad1 (b + 1)), .ref (ad1 (b))]) (by simp only [(s1 (b) (by omega)).1]) (by simp only [(s1 (b) (by omega)).1]) ?_
  replace X1 : xC Γ _ _ _ _ _ D ad1 (b + 2) := X1
  refine x_convN (N2 := b + 2) rfl ?_
  refine xr_dup (pc := 8) X1 rfl dX5_init_8 ?_
  refine xr_callCN (pc := 9) (na := 0) (b + 1) [] X1 hAO (c_X4_init Γ.2.1 D _) q1 t1 rfl (wG_1 wm_2_4) rfl rfl rfl (List.mem_cons_of_mem _ wm_1_12) 27 rfl (List.mem_cons_of_mem _ wm_2_3) rfl (by decide +kernel) ⟨(Nat.le_of_ble_eq_true rfl), (Nat.le_of_ble_eq_true rfl)⟩ rfl rfl (Nat.le_of_ble_eq_true rfl) ⟨(Nat.le_of_ble_eq_true rfl), (Nat.le_of_ble_eq_true rfl)⟩ dX5_init_9 (fun ad2 Sh2 σ2 p2 X2 => ?_)
  have s2 : ∀ i, i < b + 1 → ad2 i = ad1 i ∧ Sh2 i = Sh1 i ∧ σ2 i = σ1 i := fun i hi => ⟨p2.1 i (by omega), (p2.2.1 i hi).1, (p2.2.1 i hi).2⟩
  have n2 := p2.2.2
  have r2 : ad2 (b + 1) = ad1 (b + 1) := p2.1 _ (Nat.le_refl _)
  clear p2
  replace X2 : xC Γ _ _ _ _ _ D ad2 (b + 3) := X2
  refine x_convN (N2 := b + 3) rfl ?_
  have q0_2 : Sh2 (b) = (fun r => .inr (5, [.null, .null, .null, .null, .null, .null, .null])) := (s2 (b) (by omega)).2.1.trans q0_1
  have t0_2 : σ2 (b) = (fun _ => 0) := by rw [(s2 (b) (by omega)).2.2]; exact t0_1
  have cA2 : ∀ i, i ≤ b → ad2 i = ad0 i := fun i hi => (s2 i (by omega)).1.trans (cA1 i hi)
  have cH2 : ∀ i, i < b → Sh2 i = Sh0 i := fun i hi => (s2 i (by omega)).2.1.trans (cH1 i hi)
  have cG2 : ∀ i, i < b → σ2 i = σ0 i := fun i hi => (s2 i (by omega)).2.2.trans (cG1 i hi)
  clear q0_1 t0_1 cA1 cH1 cG1
  have i2 : xIs4 D ad2 (b + 3) Sh2 (b + 1) := n2.1
  have j2 : σ2 (b + 1) 1 = 0 := n2.2
  refine x_conv (lv2 := [(0, .ref (ad2 (b)))]) (st2 := [.ref (ad2 (b + 1)), .ref (ad2 (b))]) (by simp only [(s2 (b) (by omega)).1]) (by simp only [r2, (s2 (b) (by omega)).1]) ?_
  refine xr_putR (pc := 12) X2 hname (b) (b + 1) 0 _ (fun r => .inr (5, [.ref (ad2 (b + 1)), .null, .null, .null, .null, .null, .null])) (by omega) q0_2 rfl rfl (C := RX5) (T := TX5) (NF := 7) (tyf := tyX5) (ty := .object "HeldNotes$TextBuffer") rfl hinX5 tyX5_ok nmX5 (by omega) wm_1_13 rfl rfl (by decide +kernel) (fun _ => rfl) (fun _ => rfl) (Nat.le_of_ble_eq_true rfl) dX5_init_12 ?_
  obtain ⟨Sh3, y3⟩ : ∃ z, z = xupS Sh2 (b) (fun r => .inr (5, [.ref (ad2 (b + 1)), .null, .null, .null, .null, .null, .null])) := ⟨_, rfl⟩
  rw [← y3]
  have s3 : ∀ i, i ≠ b → Sh3 i = Sh2 i := fun i hb => by rw [y3]; exact if_neg hb
  have q3 : Sh3 (b) = (fun r => .inr (5, [.ref (ad2 (b + 1)), .null, .null, .null, .null, .null, .null])) := by rw [y3]; exact if_pos rfl
  clear y3
  have i2_3 : xIs4 D ad2 (b + 3) Sh3 (b + 1) := xIs4_ex i2 (fun i h1 h2 => ⟨rfl, s3 i (by omega)⟩) (by omega)
  have cH3 : ∀ i, i < b → Sh3 i = Sh0 i := fun i hi => (s3 i (by omega)).trans (cH2 i hi)
  clear q0_2 i2 cH2
  refine xr_aload_n (pc := 15) X2 (i := 0) 0 rfl rfl dX5_init_15 ?_
  refine xr_new (pc := 16) X2 shB3 (C := RX3) (T := TX3) (NF := 5) (tyf := tyX3) rfl hinX3 tyX3_ok wm_1_14 wm_1_15 wm_1_16 rfl (fun j hj => by rcases (show j = 0 ∨ j = 1 ∨ j = 2 ∨ j = 3 ∨ j = 4 by omega) with rfl | rfl | rfl | rfl | rfl <;> rfl) (Nat.le_of_ble_eq_true rfl) (Nat.le_of_ble_eq_true rfl) dX5_init_16 (fun ad4 e4 X4 => ?_)
  obtain ⟨Sh4, y4⟩ : ∃ z, z = xupS Sh3 (b + 3) shB3 := ⟨_, rfl⟩
  obtain ⟨σ4, w4⟩ : ∃ z, z = xz σ2 (b + 3) := ⟨_, rfl⟩
  rw [← y4, ← w4]
  have s4 : ∀ i, i < b + 3 → ad4 i = ad2 i ∧ Sh4 i = Sh3 i ∧ σ4 i = σ2 i := fun i hi => ⟨e4 i hi, by rw [y4]; exact if_neg (Nat.ne_of_lt hi), by rw [w4]; exact if_neg (Nat.ne_of_lt hi)⟩
  have q4 : Sh4 (b + 3) = shB3 := by rw [y4]; exact if_pos rfl
  have t4 : σ4 (b + 3) = (fun _ => 0) := by rw [w4]; exact if_pos rfl
  clear e4 y4 w4
  have i2_4 : xIs4 D ad4 (b + 4) Sh4 (b + 1) := xIs4_ex i2_3 (fun i h1 h2 => ⟨(s4 i (by omega)).1, (s4 i (by omega)).2.1⟩) (by omega)
  have q3_4 : Sh4 (b) = (fun r => .inr (5, [.ref (ad4 (b + 1)), .null, .null, .null, .null, .null, .null])) := ((s4 (b) (by omega)).2.1.trans q3).trans (by simp only [(s4 (b + 1) (by omega)).1])
  have t0_4 : σ4 (b) = (fun _ => 0) := by rw [(s4 (b) (by omega)).2.2]; exact t0_2
  have j2_4 : σ4 (b + 1) 1 = 0 := by rw [(s4 (b + 1) (by omega)).2.2]; exact j2
  have cA4 : ∀ i, i ≤ b → ad4 i = ad0 i := fun i hi => (s4 i (by omega)).1.trans (cA2 i hi)
  have cH4 : ∀ i, i < b → Sh4 i = Sh0 i := fun i hi => (s4 i (by omega)).2.1.trans (cH3 i hi)
  have cG4 : ∀ i, i < b → σ4 i = σ0 i := fun i hi => (s4 i (by omega)).2.2.trans (cG2 i hi)
  clear i2_3 q3 t0_2 j2 cA2 cH3 cG2
  refine x_conv (lv2 := [(0, .ref (ad4 (b)))]) (st2 := [.ref (ad4 (b + 3)), .ref (ad4 (b))]) (by simp only [(s4 (b) (by omega)).1]) (by simp only [(s4 (b) (by omega)).1]) ?_
  replace X4 : xC Γ _ _ _ _ _ D ad4 (b + 4) := X4
  refine x_convN (N2 := b + 4) rfl ?_
  refine xr_dup (pc := 19) X4 rfl dX5_init_19 ?_
  refine xr_callC (pc := 20) (na := 0) (b + 3) [] X4 hAO (c_X3_init Γ.2.1 D _) q4 t4 rfl (wG_1 wm_2_17) rfl rfl rfl (List.mem_cons_of_mem _ wm_1_16) (List.mem_cons_of_mem _ wm_2_15) (List.mem_cons_of_mem _ wm_2_16) rfl (by decide +kernel) ⟨(Nat.le_of_ble_eq_true rfl), (Nat.le_of_ble_eq_true rfl)⟩ rfl rfl (Nat.le_of_ble_eq_true rfl) ⟨(Nat.le_of_ble_eq_true rfl), (Nat.le_of_ble_eq_true rfl)⟩ dX5_init_20 (fun ad5 Sh5 σ5 p5 X5 => ?_)
  have s5 : ∀ i, i < b + 3 → ad5 i = ad4 i ∧ Sh5 i = Sh4 i ∧ σ5 i = σ4 i := fun i hi => ⟨p5.1 i (by omega), (p5.2.1 i hi).1, (p5.2.1 i hi).2⟩
  have n5 := p5.2.2
  have r5 : ad5 (b + 3) = ad4 (b + 3) := p5.1 _ (Nat.le_refl _)
  clear p5
  replace X5 : xC Γ _ _ _ _ _ D ad5 (b + 46) := X5
  refine x_convN (N2 := b + 46) rfl ?_
  have i2_5 : xIs4 D ad5 (b + 46) Sh5 (b + 1) := xIs4_ex i2_4 (fun i h1 h2 => ⟨(s5 i (by omega)).1, (s5 i (by omega)).2.1⟩) (by omega)
  have q3_5 : Sh5 (b) = (fun r => .inr (5, [.ref (ad5 (b + 1)), .null, .null, .null, .null, .null, .null])) := ((s5 (b) (by omega)).2.1.trans q3_4).trans (by simp only [(s5 (b + 1) (by omega)).1])
  have t0_5 : σ5 (b) = (fun _ => 0) := by rw [(s5 (b) (by omega)).2.2]; exact t0_4
  have j2_5 : σ5 (b + 1) 1 = 0 := by rw [(s5 (b + 1) (by omega)).2.2]; exact j2_4
  have cA5 : ∀ i, i ≤ b → ad5 i = ad0 i := fun i hi => (s5 i (by omega)).1.trans (cA4 i hi)
  have cH5 : ∀ i, i < b → Sh5 i = Sh0 i := fun i hi => (s5 i (by omega)).2.1.trans (cH4 i hi)
  have cG5 : ∀ i, i < b → σ5 i = σ0 i := fun i hi => (s5 i (by omega)).2.2.trans (cG4 i hi)
  clear i2_4 q3_4 t0_4 j2_4 cA4 cH4 cG4
  have i5 : xIs3 D ad5 (b + 46) Sh5 (b + 3) := n5.1
  have j5 : xBg3 σ5 (b + 3) := n5.2
  refine x_conv (lv2 := [(0, .ref (ad5 (b)))]) (st2 := [.ref (ad5 (b + 3)), .ref (ad5 (b))]) (by simp only [(s5 (b) (by omega)).1]) (by simp only [r5, (s5 (b) (by omega)).1]) ?_
  refine xr_putR (pc := 23) X5 hname (b) (b + 3) 1 _ (fun r => .inr (5, [.ref (ad5 (b + 1)), .ref (ad5 (b + 3)), .null, .null, .null, .null, .null])) (by omega) q3_5 rfl rfl (C := RX5) (T := TX5) (NF := 7) (tyf := tyX5) (ty := .object "HeldNotes$Post") rfl hinX5 tyX5_ok nmX5 (by omega) wm_1_17 rfl rfl (by decide +kernel) (fun _ => rfl) (fun _ => rfl) (Nat.le_of_ble_eq_true rfl) dX5_init_23 ?_
  obtain ⟨Sh6, y6⟩ : ∃ z, z = xupS Sh5 (b) (fun r => .inr (5, [.ref (ad5 (b + 1)), .ref (ad5 (b + 3)), .null, .null, .null, .null, .null])) := ⟨_, rfl⟩
  rw [← y6]
  have s6 : ∀ i, i ≠ b → Sh6 i = Sh5 i := fun i hb => by rw [y6]; exact if_neg hb
  have q6 : Sh6 (b) = (fun r => .inr (5, [.ref (ad5 (b + 1)), .ref (ad5 (b + 3)), .null, .null, .null, .null, .null])) := by rw [y6]; exact if_pos rfl
  clear y6
  have i2_6 : xIs4 D ad5 (b + 46) Sh6 (b + 1) := xIs4_ex i2_5 (fun i h1 h2 => ⟨rfl, s6 i (by omega)⟩) (by omega)
  have i5_6 : xIs3 D ad5 (b + 46) Sh6 (b + 3) := xIs3_ex i5 (fun i h1 h2 => ⟨rfl, s6 i (by omega)⟩) (by omega)
  have cH6 : ∀ i, i < b → Sh6 i = Sh0 i := fun i hi => (s6 i (by omega)).trans (cH5 i hi)
  clear i2_5 q3_5 i5 cH5
  refine xr_aload_n (pc := 26) X5 (i := 0) 0 rfl rfl dX5_init_26 ?_
  refine xr_new (pc := 27) X5 shB1 (C := RX1) (T := TX1) (NF := 3) (tyf := tyX1) rfl hinX1 tyX1_ok wm_1_18 wm_1_19 wm_1_20 rfl (fun j hj => by rcases (show j = 0 ∨ j = 1 ∨ j = 2 by omega) with rfl | rfl | rfl <;> rfl) (Nat.le_of_ble_eq_true rfl) (Nat.le_of_ble_eq_true rfl) dX5_init_27 (fun ad7 e7 X7 => ?_)
  obtain ⟨Sh7, y7⟩ : ∃ z, z = xupS Sh6 (b + 46) shB1 := ⟨_, rfl⟩
  obtain ⟨σ7, w7⟩ : ∃ z, z = xz σ5 (b + 46) := ⟨_, rfl⟩
  rw [← y7, ← w7]
  have s7 : ∀ i, i < b + 46 → ad7 i = ad5 i ∧ Sh7 i = Sh6 i ∧ σ7 i = σ5 i := fun i hi => ⟨e7 i hi, by rw [y7]; exact if_neg (Nat.ne_of_lt hi), by rw [w7]; exact if_neg (Nat.ne_of_lt hi)⟩
  have q7 : Sh7 (b + 46) = shB1 := by rw [y7]; exact if_pos rfl
  have t7 : σ7 (b + 46) = (fun _ => 0) := by rw [w7]; exact if_pos rfl
  clear e7 y7 w7
  have i2_7 : xIs4 D ad7 (b + 47) Sh7 (b + 1) := xIs4_ex i2_6 (fun i h1 h2 => ⟨(s7 i (by omega)).1, (s7 i (by omega)).2.1⟩) (by omega)
  have i5_7 : xIs3 D ad7 (b + 47) Sh7 (b + 3) := xIs3_ex i5_6 (fun i h1 h2 => ⟨(s7 i (by omega)).1, (s7 i (by omega)).2.1⟩) (by omega)
  have q6_7 : Sh7 (b) = (fun r => .inr (5, [.ref (ad7 (b + 1)), .ref (ad7 (b + 3)), .null, .null, .null, .null, .null])) := ((s7 (b) (by omega)).2.1.trans q6).trans (by simp only [(s7 (b + 1) (by omega)).1, (s7 (b + 3) (by omega)).1])
  have t0_7 : σ7 (b) = (fun _ => 0) := by rw [(s7 (b) (by omega)).2.2]; exact t0_5
  have j2_7 : σ7 (b + 1) 1 = 0 := by rw [(s7 (b + 1) (by omega)).2.2]; exact j2_5
  have j5_7 : xBg3 σ7 (b + 3) := xBg3_ex j5 (fun i h1 h2 => (s7 i (by omega)).2.2)
  have cA7 : ∀ i, i ≤ b → ad7 i = ad0 i := fun i hi => (s7 i (by omega)).1.trans (cA5 i hi)
  have cH7 : ∀ i, i < b → Sh7 i = Sh0 i := fun i hi => (s7 i (by omega)).2.1.trans (cH6 i hi)
  have cG7 : ∀ i, i < b → σ7 i = σ0 i := fun i hi => (s7 i (by omega)).2.2.trans (cG5 i hi)
  clear i2_6 i5_6 q6 t0_5 j2_5 j5 cA5 cH6 cG5
  refine x_conv (lv2 := [(0, .ref (ad7 (b)))]) (st2 := [.ref (ad7 (b + 46)), .ref (ad7 (b))]) (by simp only [(s7 (b) (by omega)).1]) (by simp only [(s7 (b) (by omega)).1]) ?_
  replace X7 : xC Γ _ _ _ _ _ D ad7 (b + 47) := X7
  refine x_convN (N2 := b + 47) rfl ?_
  refine xr_dup (pc := 30) X7 rfl dX5_init_30 ?_
  refine xr_callC (pc := 31) (na := 0) (b + 46) [] X7 hAO (c_X1_init Γ.2.1 D _) q7 t7 rfl (wG_1 wm_5_5) rfl rfl rfl (List.mem_cons_of_mem _ wm_1_20) (List.mem_cons_of_mem _ wm_5_3) (List.mem_cons_of_mem _ wm_5_4) rfl (by decide +kernel) ⟨(Nat.le_of_ble_eq_true rfl), (Nat.le_of_ble_eq_true rfl)⟩ rfl rfl (Nat.le_of_ble_eq_true rfl) ⟨(Nat.le_of_ble_eq_true rfl), (Nat.le_of_ble_eq_true rfl)⟩ dX5_init_31 (fun ad8 Sh8 σ8 p8 X8 => ?_)
  have s8 : ∀ i, i < b + 46 → ad8 i = ad7 i ∧ Sh8 i = Sh7 i ∧ σ8 i = σ7 i := fun i hi => ⟨p8.1 i (by omega), (p8.2.1 i hi).1, (p8.2.1 i hi).2⟩
  have n8 := p8.2.2
  have r8 : ad8 (b + 46) = ad7 (b + 46) := p8.1 _ (Nat.le_refl _)
  clear p8
  replace X8 : xC Γ _ _ _ _ _ D ad8 (b + 650) := X8
  refine x_convN (N2 := b + 650) rfl ?_
  have i2_8 : xIs4 D ad8 (b + 650) Sh8 (b + 1) := xIs4_ex i2_7 (fun i h1 h2 => ⟨(s8 i (by omega)).1, (s8 i (by omega)).2.1⟩) (by omega)
  have i5_8 : xIs3 D ad8 (b + 650) Sh8 (b + 3) := xIs3_ex i5_7 (fun i h1 h2 => ⟨(s8 i (by omega)).1, (s8 i (by omega)).2.1⟩) (by omega)
  have q6_8 : Sh8 (b) = (fun r => .inr (5, [.ref (ad8 (b + 1)), .ref (ad8 (b + 3)), .null, .null, .null, .null, .null])) := ((s8 (b) (by omega)).2.1.trans q6_7).trans (by simp only [(s8 (b + 1) (by omega)).1, (s8 (b + 3) (by omega)).1])
  have t0_8 : σ8 (b) = (fun _ => 0) := by rw [(s8 (b) (by omega)).2.2]; exact t0_7
  have j2_8 : σ8 (b + 1) 1 = 0 := by rw [(s8 (b + 1) (by omega)).2.2]; exact j2_7
  have j5_8 : xBg3 σ8 (b + 3) := xBg3_ex j5_7 (fun i h1 h2 => (s8 i (by omega)).2.2)
  have cA8 : ∀ i, i ≤ b → ad8 i = ad0 i := fun i hi => (s8 i (by omega)).1.trans (cA7 i hi)
  have cH8 : ∀ i, i < b → Sh8 i = Sh0 i := fun i hi => (s8 i (by omega)).2.1.trans (cH7 i hi)
  have cG8 : ∀ i, i < b → σ8 i = σ0 i := fun i hi => (s8 i (by omega)).2.2.trans (cG7 i hi)
  clear i2_7 i5_7 q6_7 t0_7 j2_7 j5_7 cA7 cH7 cG7
  have i8 : xIs1 D ad8 (b + 650) Sh8 (b + 46) := n8.1
  have j8 : σ8 (b + 46) 1 = 0 ∧ σ8 (b + 46) 2 = 0 := n8.2
  refine x_conv (lv2 := [(0, .ref (ad8 (b)))]) (st2 := [.ref (ad8 (b + 46)), .ref (ad8 (b))]) (by simp only [(s8 (b) (by omega)).1]) (by simp only [r8, (s8 (b) (by omega)).1]) ?_
  refine xr_putR (pc := 34) X8 hname (b) (b + 46) 2 _ (fun r => .inr (5, [.ref (ad8 (b + 1)), .ref (ad8 (b + 3)), .ref (ad8 (b + 46)), .null, .null, .null, .null])) (by omega) q6_8 rfl rfl (C := RX5) (T := TX5) (NF := 7) (tyf := tyX5) (ty := .object "HeldNotes$Memory") rfl hinX5 tyX5_ok nmX5 (by omega) wm_1_21 rfl rfl (by decide +kernel) (fun _ => rfl) (fun _ => rfl) (Nat.le_of_ble_eq_true rfl) dX5_init_34 ?_
  obtain ⟨Sh9, y9⟩ : ∃ z, z = xupS Sh8 (b) (fun r => .inr (5, [.ref (ad8 (b + 1)), .ref (ad8 (b + 3)), .ref (ad8 (b + 46)), .null, .null, .null, .null])) := ⟨_, rfl⟩
  rw [← y9]
  have s9 : ∀ i, i ≠ b → Sh9 i = Sh8 i := fun i hb => by rw [y9]; exact if_neg hb
  have q9 : Sh9 (b) = (fun r => .inr (5, [.ref (ad8 (b + 1)), .ref (ad8 (b + 3)), .ref (ad8 (b + 46)), .null, .null, .null, .null])) := by rw [y9]; exact if_pos rfl
  clear y9
  have i2_9 : xIs4 D ad8 (b + 650) Sh9 (b + 1) := xIs4_ex i2_8 (fun i h1 h2 => ⟨rfl, s9 i (by omega)⟩) (by omega)
  have i5_9 : xIs3 D ad8 (b + 650) Sh9 (b + 3) := xIs3_ex i5_8 (fun i h1 h2 => ⟨rfl, s9 i (by omega)⟩) (by omega)
  have i8_9 : xIs1 D ad8 (b + 650) Sh9 (b + 46) := xIs1_ex i8 (fun i h1 h2 => ⟨rfl, s9 i (by omega)⟩) (by omega)
  have cH9 : ∀ i, i < b → Sh9 i = Sh0 i := fun i hi => (s9 i (by omega)).trans (cH8 i hi)
  clear i2_8 i5_8 q6_8 i8 cH8
  refine xr_aload_n (pc := 37) X8 (i := 0) 0 rfl rfl dX5_init_37 ?_
  refine xr_iconst (pc := 38) X8 dX5_init_38 (v := 2) (by decide) ?_
  refine xr_newq (pc := 39) (t0 := 5) (N' := 2) (cid := D.1 105) X8 (fun _ => .inl (D.1 105, 2, .inr (.inr (.inr (.inr (fun _ => none)))))) hAO.2 wm_1_14 rfl rfl (by decide) (by decide) (by decide) (Nat.le_of_ble_eq_true rfl) (Nat.le_of_ble_eq_true rfl) dX5_init_39 (fun ad10 e10 X10 => ?_)
  obtain ⟨Sh10, y10⟩ : ∃ z, z = xupS Sh9 (b + 650) (fun _ => .inl (D.1 105, 2, .inr (.inr (.inr (.inr (fun _ => none)))))) := ⟨_, rfl⟩
  obtain ⟨σ10, w10⟩ : ∃ z, z = xz σ8 (b + 650) := ⟨_, rfl⟩
  rw [← y10, ← w10]
  have s10 : ∀ i, i < b + 650 → ad10 i = ad8 i ∧ Sh10 i = Sh9 i ∧ σ10 i = σ8 i := fun i hi => ⟨e10 i hi, by rw [y10]; exact if_neg (Nat.ne_of_lt hi), by rw [w10]; exact if_neg (Nat.ne_of_lt hi)⟩
  have q10 : Sh10 (b + 650) = (fun _ => .inl (D.1 105, 2, .inr (.inr (.inr (.inr (fun _ => none)))))) := by rw [y10]; exact if_pos rfl
  have t10 : σ10 (b + 650) = (fun _ => 0) := by rw [w10]; exact if_pos rfl
  clear e10 y10 w10
  have i2_10 : xIs4 D ad10 (b + 651) Sh10 (b + 1) := xIs4_ex i2_9 (fun i h1 h2 => ⟨(s10 i (by omega)).1, (s10 i (by omega)).2.1⟩) (by omega)
  have i5_10 : xIs3 D ad10 (b + 651) Sh10 (b + 3) := xIs3_ex i5_9 (fun i h1 h2 => ⟨(s10 i (by omega)).1, (s10 i (by omega)).2.1⟩) (by omega)
  have i8_10 : xIs1 D ad10 (b + 651) Sh10 (b + 46) := xIs1_ex i8_9 (fun i h1 h2 => ⟨(s10 i (by omega)).1, (s10 i (by omega)).2.1⟩) (by omega)
  have q9_10 : Sh10 (b) = (fun r => .inr (5, [.ref (ad10 (b + 1)), .ref (ad10 (b + 3)), .ref (ad10 (b + 46)), .null, .null, .null, .null])) := ((s10 (b) (by omega)).2.1.trans q9).trans (by simp only [(s10 (b + 1) (by omega)).1, (s10 (b + 3) (by omega)).1, (s10 (b + 46) (by omega)).1])
  have t0_10 : σ10 (b) = (fun _ => 0) := by rw [(s10 (b) (by omega)).2.2]; exact t0_8
  have j2_10 : σ10 (b + 1) 1 = 0 := by rw [(s10 (b + 1) (by omega)).2.2]; exact j2_8
  have j5_10 : xBg3 σ10 (b + 3) := xBg3_ex j5_8 (fun i h1 h2 => (s10 i (by omega)).2.2)
  have j8_10 : σ10 (b + 46) 1 = 0 ∧ σ10 (b + 46) 2 = 0 := by rw [(s10 (b + 46) (by omega)).2.2]; exact j8
  have cA10 : ∀ i, i ≤ b → ad10 i = ad0 i := fun i hi => (s10 i (by omega)).1.trans (cA8 i hi)
  have cH10 : ∀ i, i < b → Sh10 i = Sh0 i := fun i hi => (s10 i (by omega)).2.1.trans (cH9 i hi)
  have cG10 : ∀ i, i < b → σ10 i = σ0 i := fun i hi => (s10 i (by omega)).2.2.trans (cG8 i hi)
  clear i2_9 i5_9 i8_9 q9 t0_8 j2_8 j5_8 j8 cA8 cH9 cG8
  refine x_conv (lv2 := [(0, .ref (ad10 (b)))]) (st2 := [.ref (ad10 (b + 650)), .ref (ad10 (b))]) (by simp only [(s10 (b) (by omega)).1]) (by simp only [(s10 (b) (by omega)).1]) ?_
  replace X10 : xC Γ _ _ _ _ _ D ad10 (b + 651) := X10
  refine x_convN (N2 := b + 651) rfl ?_
  refine xr_putR (pc := 42) X10 hname (b) (b + 650) 3 _ (fun r => .inr (5, [.ref (ad10 (b + 1)), .ref (ad10 (b + 3)), .ref (ad10 (b + 46)), .ref (ad10 (b + 650)), .null, .null, .null])) (by omega) q9_10 rfl rfl (C := RX5) (T := TX5) (NF := 7) (tyf := tyX5) (ty := .array (.object "HeldNotes$Post")) rfl hinX5 tyX5_ok nmX5 (by omega) wm_1_22 rfl rfl (by decide +kernel) (fun _ => rfl) (fun _ => rfl) (Nat.le_of_ble_eq_true rfl) dX5_init_42 ?_
  obtain ⟨Sh11, y11⟩ : ∃ z, z = xupS Sh10 (b) (fun r => .inr (5, [.ref (ad10 (b + 1)), .ref (ad10 (b + 3)), .ref (ad10 (b + 46)), .ref (ad10 (b + 650)), .null, .null, .null])) := ⟨_, rfl⟩
  rw [← y11]
  have s11 : ∀ i, i ≠ b → Sh11 i = Sh10 i := fun i hb => by rw [y11]; exact if_neg hb
  have q11 : Sh11 (b) = (fun r => .inr (5, [.ref (ad10 (b + 1)), .ref (ad10 (b + 3)), .ref (ad10 (b + 46)), .ref (ad10 (b + 650)), .null, .null, .null])) := by rw [y11]; exact if_pos rfl
  clear y11
  have i2_11 : xIs4 D ad10 (b + 651) Sh11 (b + 1) := xIs4_ex i2_10 (fun i h1 h2 => ⟨rfl, s11 i (by omega)⟩) (by omega)
  have i5_11 : xIs3 D ad10 (b + 651) Sh11 (b + 3) := xIs3_ex i5_10 (fun i h1 h2 => ⟨rfl, s11 i (by omega)⟩) (by omega)
  have i8_11 : xIs1 D ad10 (b + 651) Sh11 (b + 46) := xIs1_ex i8_10 (fun i h1 h2 => ⟨rfl, s11 i (by omega)⟩) (by omega)
  have q10_11 : Sh11 (b + 650) = (fun _ => .inl (D.1 105, 2, .inr (.inr (.inr (.inr (fun _ => none)))))) := (s11 (b + 650) (by omega)).trans q10
  have cH11 : ∀ i, i < b → Sh11 i = Sh0 i := fun i hi => (s11 i (by omega)).trans (cH10 i hi)
  clear i2_10 i5_10 i8_10 q9_10 q10 cH10
  refine xr_aload_n (pc := 45) X10 (i := 0) 0 rfl rfl dX5_init_45 ?_
  refine xr_iconst (pc := 46) X10 dX5_init_46 (v := 2) (by decide) ?_
  refine xr_newA (pc := 47) (t0 := 2) (N' := 2) X10 .boolean (shZ D 2) (D.1 102) rfl (fun C h => by cases h) rfl wm_1_23 rfl rfl (by decide) (by decide) (by decide) (Nat.le_of_ble_eq_true rfl) (Nat.le_of_ble_eq_true rfl) dX5_init_47 (fun ad12 e12 X12 => ?_)
  obtain ⟨Sh12, y12⟩ : ∃ z, z = xupS Sh11 (b + 651) (shZ D 2) := ⟨_, rfl⟩
  obtain ⟨σ12, w12⟩ : ∃ z, z = xz σ10 (b + 651) := ⟨_, rfl⟩
  rw [← y12, ← w12]
  have s12 : ∀ i, i < b + 651 → ad12 i = ad10 i ∧ Sh12 i = Sh11 i ∧ σ12 i = σ10 i := fun i hi => ⟨e12 i hi, by rw [y12]; exact if_neg (Nat.ne_of_lt hi), by rw [w12]; exact if_neg (Nat.ne_of_lt hi)⟩
  have q12 : Sh12 (b + 651) = (shZ D 2) := by rw [y12]; exact if_pos rfl
  have t12 : σ12 (b + 651) = (fun _ => 0) := by rw [w12]; exact if_pos rfl
  clear e12 y12 w12
  have i2_12 : xIs4 D ad12 (b + 652) Sh12 (b + 1) := xIs4_ex i2_11 (fun i h1 h2 => ⟨(s12 i (by omega)).1, (s12 i (by omega)).2.1⟩) (by omega)
  have i5_12 : xIs3 D ad12 (b + 652) Sh12 (b + 3) := xIs3_ex i5_11 (fun i h1 h2 => ⟨(s12 i (by omega)).1, (s12 i (by omega)).2.1⟩) (by omega)
  have i8_12 : xIs1 D ad12 (b + 652) Sh12 (b + 46) := xIs1_ex i8_11 (fun i h1 h2 => ⟨(s12 i (by omega)).1, (s12 i (by omega)).2.1⟩) (by omega)
  have q10_12 : Sh12 (b + 650) = (fun _ => .inl (D.1 105, 2, .inr (.inr (.inr (.inr (fun _ => none)))))) := (s12 (b + 650) (by omega)).2.1.trans q10_11
  have q11_12 : Sh12 (b) = (fun r => .inr (5, [.ref (ad12 (b + 1)), .ref (ad12 (b + 3)), .ref (ad12 (b + 46)), .ref (ad12 (b + 650)), .null, .null, .null])) := ((s12 (b) (by omega)).2.1.trans q11).trans (by simp only [(s12 (b + 1) (by omega)).1, (s12 (b + 3) (by omega)).1, (s12 (b + 46) (by omega)).1, (s12 (b + 650) (by omega)).1])
  have t0_12 : σ12 (b) = (fun _ => 0) := by rw [(s12 (b) (by omega)).2.2]; exact t0_10
  have j2_12 : σ12 (b + 1) 1 = 0 := by rw [(s12 (b + 1) (by omega)).2.2]; exact j2_10
  have j5_12 : xBg3 σ12 (b + 3) := xBg3_ex j5_10 (fun i h1 h2 => (s12 i (by omega)).2.2)
  have j8_12 : σ12 (b + 46) 1 = 0 ∧ σ12 (b + 46) 2 = 0 := by rw [(s12 (b + 46) (by omega)).2.2]; exact j8_10
  have t10_12 : σ12 (b + 650) = (fun _ => 0) := by rw [(s12 (b + 650) (by omega)).2.2]; exact t10
  have cA12 : ∀ i, i ≤ b → ad12 i = ad0 i := fun i hi => (s12 i (by omega)).1.trans (cA10 i hi)
  have cH12 : ∀ i, i < b → Sh12 i = Sh0 i := fun i hi => (s12 i (by omega)).2.1.trans (cH11 i hi)
  have cG12 : ∀ i, i < b → σ12 i = σ0 i := fun i hi => (s12 i (by omega)).2.2.trans (cG10 i hi)
  clear i2_11 i5_11 i8_11 q10_11 q11 t0_10 j2_10 j5_10 j8_10 t10 cA10 cH11 cG10
  refine x_conv (lv2 := [(0, .ref (ad12 (b)))]) (st2 := [.ref (ad12 (b + 651)), .ref (ad12 (b))]) (by simp only [(s12 (b) (by omega)).1]) (by simp only [(s12 (b) (by omega)).1]) ?_
  replace X12 : xC Γ _ _ _ _ _ D ad12 (b + 652) := X12
  refine x_convN (N2 := b + 652) rfl ?_
  refine xr_putR (pc := 49) X12 hname (b) (b + 651) 4 _ (fun r => .inr (5, [.ref (ad12 (b + 1)), .ref (ad12 (b + 3)), .ref (ad12 (b + 46)), .ref (ad12 (b + 650)), .ref (ad12 (b + 651)), .null, .null])) (by omega) q11_12 rfl rfl (C := RX5) (T := TX5) (NF := 7) (tyf := tyX5) (ty := .array .boolean) rfl hinX5 tyX5_ok nmX5 (by omega) wm_2_0 rfl rfl (by decide +kernel) (fun _ => rfl) (fun _ => rfl) (Nat.le_of_ble_eq_true rfl) dX5_init_49 ?_
  obtain ⟨Sh13, y13⟩ : ∃ z, z = xupS Sh12 (b) (fun r => .inr (5, [.ref (ad12 (b + 1)), .ref (ad12 (b + 3)), .ref (ad12 (b + 46)), .ref (ad12 (b + 650)), .ref (ad12 (b + 651)), .null, .null])) := ⟨_, rfl⟩
  rw [← y13]
  have s13 : ∀ i, i ≠ b → Sh13 i = Sh12 i := fun i hb => by rw [y13]; exact if_neg hb
  have q13 : Sh13 (b) = (fun r => .inr (5, [.ref (ad12 (b + 1)), .ref (ad12 (b + 3)), .ref (ad12 (b + 46)), .ref (ad12 (b + 650)), .ref (ad12 (b + 651)), .null, .null])) := by rw [y13]; exact if_pos rfl
  clear y13
  have i2_13 : xIs4 D ad12 (b + 652) Sh13 (b + 1) := xIs4_ex i2_12 (fun i h1 h2 => ⟨rfl, s13 i (by omega)⟩) (by omega)
  have i5_13 : xIs3 D ad12 (b + 652) Sh13 (b + 3) := xIs3_ex i5_12 (fun i h1 h2 => ⟨rfl, s13 i (by omega)⟩) (by omega)
  have i8_13 : xIs1 D ad12 (b + 652) Sh13 (b + 46) := xIs1_ex i8_12 (fun i h1 h2 => ⟨rfl, s13 i (by omega)⟩) (by omega)
  have q10_13 : Sh13 (b + 650) = (fun _ => .inl (D.1 105, 2, .inr (.inr (.inr (.inr (fun _ => none)))))) := (s13 (b + 650) (by omega)).trans q10_12
  have q12_13 : Sh13 (b + 651) = (shZ D 2) := (s13 (b + 651) (by omega)).trans q12
  have cH13 : ∀ i, i < b → Sh13 i = Sh0 i := fun i hi => (s13 i (by omega)).trans (cH12 i hi)
  clear i2_12 i5_12 i8_12 q10_12 q11_12 q12 cH12
  refine xr_aload_n (pc := 52) X12 (i := 0) 0 rfl rfl dX5_init_52 ?_
  refine xr_new (pc := 53) X12 shB3 (C := RX3) (T := TX3) (NF := 5) (tyf := tyX3) rfl hinX3 tyX3_ok wm_1_14 wm_1_15 wm_1_16 rfl (fun j hj => by rcases (show j = 0 ∨ j = 1 ∨ j = 2 ∨ j = 3 ∨ j = 4 by omega) with rfl | rfl | rfl | rfl | rfl <;> rfl) (Nat.le_of_ble_eq_true rfl) (Nat.le_of_ble_eq_true rfl) dX5_init_53 (fun ad14 e14 X14 => ?_)
  obtain ⟨Sh14, y14⟩ : ∃ z, z = xupS Sh13 (b + 652) shB3 := ⟨_, rfl⟩
  obtain ⟨σ14, w14⟩ : ∃ z, z = xz σ12 (b + 652) := ⟨_, rfl⟩
  rw [← y14, ← w14]
  have s14 : ∀ i, i < b + 652 → ad14 i = ad12 i ∧ Sh14 i = Sh13 i ∧ σ14 i = σ12 i := fun i hi => ⟨e14 i hi, by rw [y14]; exact if_neg (Nat.ne_of_lt hi), by rw [w14]; exact if_neg (Nat.ne_of_lt hi)⟩
  have q14 : Sh14 (b + 652) = shB3 := by rw [y14]; exact if_pos rfl
  have t14 : σ14 (b + 652) = (fun _ => 0) := by rw [w14]; exact if_pos rfl
  clear e14 y14 w14
  have i2_14 : xIs4 D ad14 (b + 653) Sh14 (b + 1) := xIs4_ex i2_13 (fun i h1 h2 => ⟨(s14 i (by omega)).1, (s14 i (by omega)).2.1⟩) (by omega)
  have i5_14 : xIs3 D ad14 (b + 653) Sh14 (b + 3) := xIs3_ex i5_13 (fun i h1 h2 => ⟨(s14 i (by omega)).1, (s14 i (by omega)).2.1⟩) (by omega)
  have i8_14 : xIs1 D ad14 (b + 653) Sh14 (b + 46) := xIs1_ex i8_13 (fun i h1 h2 => ⟨(s14 i (by omega)).1, (s14 i (by omega)).2.1⟩) (by omega)
  have q10_14 : Sh14 (b + 650) = (fun _ => .inl (D.1 105, 2, .inr (.inr (.inr (.inr (fun _ => none)))))) := (s14 (b + 650) (by omega)).2.1.trans q10_13
  have q12_14 : Sh14 (b + 651) = (shZ D 2) := (s14 (b + 651) (by omega)).2.1.trans q12_13
  have q13_14 : Sh14 (b) = (fun r => .inr (5, [.ref (ad14 (b + 1)), .ref (ad14 (b + 3)), .ref (ad14 (b + 46)), .ref (ad14 (b + 650)), .ref (ad14 (b + 651)), .null, .null])) := ((s14 (b) (by omega)).2.1.trans q13).trans (by simp only [(s14 (b + 1) (by omega)).1, (s14 (b + 3) (by omega)).1, (s14 (b + 46) (by omega)).1, (s14 (b + 650) (by omega)).1, (s14 (b + 651) (by omega)).1])
  have t0_14 : σ14 (b) = (fun _ => 0) := by rw [(s14 (b) (by omega)).2.2]; exact t0_12
  have j2_14 : σ14 (b + 1) 1 = 0 := by rw [(s14 (b + 1) (by omega)).2.2]; exact j2_12
  have j5_14 : xBg3 σ14 (b + 3) := xBg3_ex j5_12 (fun i h1 h2 => (s14 i (by omega)).2.2)
  have j8_14 : σ14 (b + 46) 1 = 0 ∧ σ14 (b + 46) 2 = 0 := by rw [(s14 (b + 46) (by omega)).2.2]; exact j8_12
  have t10_14 : σ14 (b + 650) = (fun _ => 0) := by rw [(s14 (b + 650) (by omega)).2.2]; exact t10_12
  have t12_14 : σ14 (b + 651) = (fun _ => 0) := by rw [(s14 (b + 651) (by omega)).2.2]; exact t12
  have cA14 : ∀ i, i ≤ b → ad14 i = ad0 i := fun i hi => (s14 i (by omega)).1.trans (cA12 i hi)
  have cH14 : ∀ i, i < b → Sh14 i = Sh0 i := fun i hi => (s14 i (by omega)).2.1.trans (cH13 i hi)
  have cG14 : ∀ i, i < b → σ14 i = σ0 i := fun i hi => (s14 i (by omega)).2.2.trans (cG12 i hi)
  clear i2_13 i5_13 i8_13 q10_13 q12_13 q13 t0_12 j2_12 j5_12 j8_12 t10_12 t12 cA12 cH13 cG12
  refine x_conv (lv2 := [(0, .ref (ad14 (b)))]) (st2 := [.ref (ad14 (b + 652)), .ref (ad14 (b))]) (by simp only [(s14 (b) (by omega)).1]) (by simp only [(s14 (b) (by omega)).1]) ?_
  replace X14 : xC Γ _ _ _ _ _ D ad14 (b + 653) := X14
  refine x_convN (N2 := b + 653) rfl ?_
  refine xr_dup (pc := 56) X14 rfl dX5_init_56 ?_
  refine xr_callC (pc := 57) (na := 0) (b + 652) [] X14 hAO (c_X3_init Γ.2.1 D _) q14 t14 rfl (wG_1 wm_2_17) rfl rfl rfl (List.mem_cons_of_mem _ wm_1_16) (List.mem_cons_of_mem _ wm_2_15) (List.mem_cons_of_mem _ wm_2_16) rfl (by decide +kernel) ⟨(Nat.le_of_ble_eq_true rfl), (Nat.le_of_ble_eq_true rfl)⟩ rfl rfl (Nat.le_of_ble_eq_true rfl) ⟨(Nat.le_of_ble_eq_true rfl), (Nat.le_of_ble_eq_true rfl)⟩ dX5_init_57 (fun ad15 Sh15 σ15 p15 X15 => ?_)
  have s15 : ∀ i, i < b + 652 → ad15 i = ad14 i ∧ Sh15 i = Sh14 i ∧ σ15 i = σ14 i := fun i hi => ⟨p15.1 i (by omega), (p15.2.1 i hi).1, (p15.2.1 i hi).2⟩
  have n15 := p15.2.2
  have r15 : ad15 (b + 652) = ad14 (b + 652) := p15.1 _ (Nat.le_refl _)
  clear p15
  replace X15 : xC Γ _ _ _ _ _ D ad15 (b + 695) := X15
  refine x_convN (N2 := b + 695) rfl ?_
  have i2_15 : xIs4 D ad15 (b + 695) Sh15 (b + 1) := xIs4_ex i2_14 (fun i h1 h2 => ⟨(s15 i (by omega)).1, (s15 i (by omega)).2.1⟩) (by omega)
  have i5_15 : xIs3 D ad15 (b + 695) Sh15 (b + 3) := xIs3_ex i5_14 (fun i h1 h2 => ⟨(s15 i (by omega)).1, (s15 i (by omega)).2.1⟩) (by omega)
  have i8_15 : xIs1 D ad15 (b + 695) Sh15 (b + 46) := xIs1_ex i8_14 (fun i h1 h2 => ⟨(s15 i (by omega)).1, (s15 i (by omega)).2.1⟩) (by omega)
  have q10_15 : Sh15 (b + 650) = (fun _ => .inl (D.1 105, 2, .inr (.inr (.inr (.inr (fun _ => none)))))) := (s15 (b + 650) (by omega)).2.1.trans q10_14
  have q12_15 : Sh15 (b + 651) = (shZ D 2) := (s15 (b + 651) (by omega)).2.1.trans q12_14
  have q13_15 : Sh15 (b) = (fun r => .inr (5, [.ref (ad15 (b + 1)), .ref (ad15 (b + 3)), .ref (ad15 (b + 46)), .ref (ad15 (b + 650)), .ref (ad15 (b + 651)), .null, .null])) := ((s15 (b) (by omega)).2.1.trans q13_14).trans (by simp only [(s15 (b + 1) (by omega)).1, (s15 (b + 3) (by omega)).1, (s15 (b + 46) (by omega)).1, (s15 (b + 650) (by omega)).1, (s15 (b + 651) (by omega)).1])
  have t0_15 : σ15 (b) = (fun _ => 0) := by rw [(s15 (b) (by omega)).2.2]; exact t0_14
  have j2_15 : σ15 (b + 1) 1 = 0 := by rw [(s15 (b + 1) (by omega)).2.2]; exact j2_14
  have j5_15 : xBg3 σ15 (b + 3) := xBg3_ex j5_14 (fun i h1 h2 => (s15 i (by omega)).2.2)
  have j8_15 : σ15 (b + 46) 1 = 0 ∧ σ15 (b + 46) 2 = 0 := by rw [(s15 (b + 46) (by omega)).2.2]; exact j8_14
  have t10_15 : σ15 (b + 650) = (fun _ => 0) := by rw [(s15 (b + 650) (by omega)).2.2]; exact t10_14
  have t12_15 : σ15 (b + 651) = (fun _ => 0) := by rw [(s15 (b + 651) (by omega)).2.2]; exact t12_14
  have cA15 : ∀ i, i ≤ b → ad15 i = ad0 i := fun i hi => (s15 i (by omega)).1.trans (cA14 i hi)
  have cH15 : ∀ i, i < b → Sh15 i = Sh0 i := fun i hi => (s15 i (by omega)).2.1.trans (cH14 i hi)
  have cG15 : ∀ i, i < b → σ15 i = σ0 i := fun i hi => (s15 i (by omega)).2.2.trans (cG14 i hi)
  clear i2_14 i5_14 i8_14 q10_14 q12_14 q13_14 t0_14 j2_14 j5_14 j8_14 t10_14 t12_14 cA14 cH14 cG14
  have i15 : xIs3 D ad15 (b + 695) Sh15 (b + 652) := n15.1
  refine x_conv (lv2 := [(0, .ref (ad15 (b)))]) (st2 := [.ref (ad15 (b + 652)), .ref (ad15 (b))]) (by simp only [(s15 (b) (by omega)).1]) (by simp only [r15, (s15 (b) (by omega)).1]) ?_
  refine xr_putR (pc := 60) X15 hname (b) (b + 652) 5 _ (fun r => .inr (5, [.ref (ad15 (b + 1)), .ref (ad15 (b + 3)), .ref (ad15 (b + 46)), .ref (ad15 (b + 650)), .ref (ad15 (b + 651)), .ref (ad15 (b + 652)), .null])) (by omega) q13_15 rfl rfl (C := RX5) (T := TX5) (NF := 7) (tyf := tyX5) (ty := .object "HeldNotes$Post") rfl hinX5 tyX5_ok nmX5 (by omega) wm_2_1 rfl rfl (by decide +kernel) (fun _ => rfl) (fun _ => rfl) (Nat.le_of_ble_eq_true rfl) dX5_init_60 ?_
  obtain ⟨Sh16, y16⟩ : ∃ z, z = xupS Sh15 (b) (fun r => .inr (5, [.ref (ad15 (b + 1)), .ref (ad15 (b + 3)), .ref (ad15 (b + 46)), .ref (ad15 (b + 650)), .ref (ad15 (b + 651)), .ref (ad15 (b + 652)), .null])) := ⟨_, rfl⟩
  rw [← y16]
  have s16 : ∀ i, i ≠ b → Sh16 i = Sh15 i := fun i hb => by rw [y16]; exact if_neg hb
  have q16 : Sh16 (b) = (fun r => .inr (5, [.ref (ad15 (b + 1)), .ref (ad15 (b + 3)), .ref (ad15 (b + 46)), .ref (ad15 (b + 650)), .ref (ad15 (b + 651)), .ref (ad15 (b + 652)), .null])) := by rw [y16]; exact if_pos rfl
  clear y16
  have i2_16 : xIs4 D ad15 (b + 695) Sh16 (b + 1) := xIs4_ex i2_15 (fun i h1 h2 => ⟨rfl, s16 i (by omega)⟩) (by omega)
  have i5_16 : xIs3 D ad15 (b + 695) Sh16 (b + 3) := xIs3_ex i5_15 (fun i h1 h2 => ⟨rfl, s16 i (by omega)⟩) (by omega)
  have i8_16 : xIs1 D ad15 (b + 695) Sh16 (b + 46) := xIs1_ex i8_15 (fun i h1 h2 => ⟨rfl, s16 i (by omega)⟩) (by omega)
  have q10_16 : Sh16 (b + 650) = (fun _ => .inl (D.1 105, 2, .inr (.inr (.inr (.inr (fun _ => none)))))) := (s16 (b + 650) (by omega)).trans q10_15
  have q12_16 : Sh16 (b + 651) = (shZ D 2) := (s16 (b + 651) (by omega)).trans q12_15
  have i15_16 : xIs3 D ad15 (b + 695) Sh16 (b + 652) := xIs3_ex i15 (fun i h1 h2 => ⟨rfl, s16 i (by omega)⟩) (by omega)
  have cH16 : ∀ i, i < b → Sh16 i = Sh0 i := fun i hi => (s16 i (by omega)).trans (cH15 i hi)
  clear i2_15 i5_15 i8_15 q10_15 q12_15 q13_15 i15 cH15
  refine xr_aload_n (pc := 63) X15 (i := 0) 0 rfl rfl dX5_init_63 ?_
  refine xr_new (pc := 64) X15 shB3 (C := RX3) (T := TX3) (NF := 5) (tyf := tyX3) rfl hinX3 tyX3_ok wm_1_14 wm_1_15 wm_1_16 rfl (fun j hj => by rcases (show j = 0 ∨ j = 1 ∨ j = 2 ∨ j = 3 ∨ j = 4 by omega) with rfl | rfl | rfl | rfl | rfl <;> rfl) (Nat.le_of_ble_eq_true rfl) (Nat.le_of_ble_eq_true rfl) dX5_init_64 (fun ad17 e17 X17 => ?_)
  obtain ⟨Sh17, y17⟩ : ∃ z, z = xupS Sh16 (b + 695) shB3 := ⟨_, rfl⟩
  obtain ⟨σ17, w17⟩ : ∃ z, z = xz σ15 (b + 695) := ⟨_, rfl⟩
  rw [← y17, ← w17]
  have s17 : ∀ i, i < b + 695 → ad17 i = ad15 i ∧ Sh17 i = Sh16 i ∧ σ17 i = σ15 i := fun i hi => ⟨e17 i hi, by rw [y17]; exact if_neg (Nat.ne_of_lt hi), by rw [w17]; exact if_neg (Nat.ne_of_lt hi)⟩
  have q17 : Sh17 (b + 695) = shB3 := by rw [y17]; exact if_pos rfl
  have t17 : σ17 (b + 695) = (fun _ => 0) := by rw [w17]; exact if_pos rfl
  clear e17 y17 w17
  have i2_17 : xIs4 D ad17 (b + 696) Sh17 (b + 1) := xIs4_ex i2_16 (fun i h1 h2 => ⟨(s17 i (by omega)).1, (s17 i (by omega)).2.1⟩) (by omega)
  have i5_17 : xIs3 D ad17 (b + 696) Sh17 (b + 3) := xIs3_ex i5_16 (fun i h1 h2 => ⟨(s17 i (by omega)).1, (s17 i (by omega)).2.1⟩) (by omega)
  have i8_17 : xIs1 D ad17 (b + 696) Sh17 (b + 46) := xIs1_ex i8_16 (fun i h1 h2 => ⟨(s17 i (by omega)).1, (s17 i (by omega)).2.1⟩) (by omega)
  have q10_17 : Sh17 (b + 650) = (fun _ => .inl (D.1 105, 2, .inr (.inr (.inr (.inr (fun _ => none)))))) := (s17 (b + 650) (by omega)).2.1.trans q10_16
  have q12_17 : Sh17 (b + 651) = (shZ D 2) := (s17 (b + 651) (by omega)).2.1.trans q12_16
  have i15_17 : xIs3 D ad17 (b + 696) Sh17 (b + 652) := xIs3_ex i15_16 (fun i h1 h2 => ⟨(s17 i (by omega)).1, (s17 i (by omega)).2.1⟩) (by omega)
  have q16_17 : Sh17 (b) = (fun r => .inr (5, [.ref (ad17 (b + 1)), .ref (ad17 (b + 3)), .ref (ad17 (b + 46)), .ref (ad17 (b + 650)), .ref (ad17 (b + 651)), .ref (ad17 (b + 652)), .null])) := ((s17 (b) (by omega)).2.1.trans q16).trans (by simp only [(s17 (b + 1) (by omega)).1, (s17 (b + 3) (by omega)).1, (s17 (b + 46) (by omega)).1, (s17 (b + 650) (by omega)).1, (s17 (b + 651) (by omega)).1, (s17 (b + 652) (by omega)).1])
  have t0_17 : σ17 (b) = (fun _ => 0) := by rw [(s17 (b) (by omega)).2.2]; exact t0_15
  have j2_17 : σ17 (b + 1) 1 = 0 := by rw [(s17 (b + 1) (by omega)).2.2]; exact j2_15
  have j5_17 : xBg3 σ17 (b + 3) := xBg3_ex j5_15 (fun i h1 h2 => (s17 i (by omega)).2.2)
  have j8_17 : σ17 (b + 46) 1 = 0 ∧ σ17 (b + 46) 2 = 0 := by rw [(s17 (b + 46) (by omega)).2.2]; exact j8_15
  have t10_17 : σ17 (b + 650) = (fun _ => 0) := by rw [(s17 (b + 650) (by omega)).2.2]; exact t10_15
  have t12_17 : σ17 (b + 651) = (fun _ => 0) := by rw [(s17 (b + 651) (by omega)).2.2]; exact t12_15
  have cA17 : ∀ i, i ≤ b → ad17 i = ad0 i := fun i hi => (s17 i (by omega)).1.trans (cA15 i hi)
  have cH17 : ∀ i, i < b → Sh17 i = Sh0 i := fun i hi => (s17 i (by omega)).2.1.trans (cH16 i hi)
  have cG17 : ∀ i, i < b → σ17 i = σ0 i := fun i hi => (s17 i (by omega)).2.2.trans (cG15 i hi)
  clear i2_16 i5_16 i8_16 q10_16 q12_16 i15_16 q16 t0_15 j2_15 j5_15 j8_15 t10_15 t12_15 cA15 cH16 cG15
  refine x_conv (lv2 := [(0, .ref (ad17 (b)))]) (st2 := [.ref (ad17 (b + 695)), .ref (ad17 (b))]) (by simp only [(s17 (b) (by omega)).1]) (by simp only [(s17 (b) (by omega)).1]) ?_
  replace X17 : xC Γ _ _ _ _ _ D ad17 (b + 696) := X17
  refine x_convN (N2 := b + 696) rfl ?_
  refine xr_dup (pc := 67) X17 rfl dX5_init_67 ?_
  refine xr_callC (pc := 68) (na := 0) (b + 695) [] X17 hAO (c_X3_init Γ.2.1 D _) q17 t17 rfl (wG_1 wm_2_17) rfl rfl rfl (List.mem_cons_of_mem _ wm_1_16) (List.mem_cons_of_mem _ wm_2_15) (List.mem_cons_of_mem _ wm_2_16) rfl (by decide +kernel) ⟨(Nat.le_of_ble_eq_true rfl), (Nat.le_of_ble_eq_true rfl)⟩ rfl rfl (Nat.le_of_ble_eq_true rfl) ⟨(Nat.le_of_ble_eq_true rfl), (Nat.le_of_ble_eq_true rfl)⟩ dX5_init_68 (fun ad18 Sh18 σ18 p18 X18 => ?_)
  have s18 : ∀ i, i < b + 695 → ad18 i = ad17 i ∧ Sh18 i = Sh17 i ∧ σ18 i = σ17 i := fun i hi => ⟨p18.1 i (by omega), (p18.2.1 i hi).1, (p18.2.1 i hi).2⟩
  have n18 := p18.2.2
  have r18 : ad18 (b + 695) = ad17 (b + 695) := p18.1 _ (Nat.le_refl _)
  clear p18
  replace X18 : xC Γ _ _ _ _ _ D ad18 (b + 738) := X18
  refine x_convN (N2 := b + 738) rfl ?_
  have i2_18 : xIs4 D ad18 (b + 738) Sh18 (b + 1) := xIs4_ex i2_17 (fun i h1 h2 => ⟨(s18 i (by omega)).1, (s18 i (by omega)).2.1⟩) (by omega)
  have i5_18 : xIs3 D ad18 (b + 738) Sh18 (b + 3) := xIs3_ex i5_17 (fun i h1 h2 => ⟨(s18 i (by omega)).1, (s18 i (by omega)).2.1⟩) (by omega)
  have i8_18 : xIs1 D ad18 (b + 738) Sh18 (b + 46) := xIs1_ex i8_17 (fun i h1 h2 => ⟨(s18 i (by omega)).1, (s18 i (by omega)).2.1⟩) (by omega)
  have q10_18 : Sh18 (b + 650) = (fun _ => .inl (D.1 105, 2, .inr (.inr (.inr (.inr (fun _ => none)))))) := (s18 (b + 650) (by omega)).2.1.trans q10_17
  have q12_18 : Sh18 (b + 651) = (shZ D 2) := (s18 (b + 651) (by omega)).2.1.trans q12_17
  have i15_18 : xIs3 D ad18 (b + 738) Sh18 (b + 652) := xIs3_ex i15_17 (fun i h1 h2 => ⟨(s18 i (by omega)).1, (s18 i (by omega)).2.1⟩) (by omega)
  have q16_18 : Sh18 (b) = (fun r => .inr (5, [.ref (ad18 (b + 1)), .ref (ad18 (b + 3)), .ref (ad18 (b + 46)), .ref (ad18 (b + 650)), .ref (ad18 (b + 651)), .ref (ad18 (b + 652)), .null])) := ((s18 (b) (by omega)).2.1.trans q16_17).trans (by simp only [(s18 (b + 1) (by omega)).1, (s18 (b + 3) (by omega)).1, (s18 (b + 46) (by omega)).1, (s18 (b + 650) (by omega)).1, (s18 (b + 651) (by omega)).1, (s18 (b + 652) (by omega)).1])
  have t0_18 : σ18 (b) = (fun _ => 0) := by rw [(s18 (b) (by omega)).2.2]; exact t0_17
  have j2_18 : σ18 (b + 1) 1 = 0 := by rw [(s18 (b + 1) (by omega)).2.2]; exact j2_17
  have j5_18 : xBg3 σ18 (b + 3) := xBg3_ex j5_17 (fun i h1 h2 => (s18 i (by omega)).2.2)
  have j8_18 : σ18 (b + 46) 1 = 0 ∧ σ18 (b + 46) 2 = 0 := by rw [(s18 (b + 46) (by omega)).2.2]; exact j8_17
  have t10_18 : σ18 (b + 650) = (fun _ => 0) := by rw [(s18 (b + 650) (by omega)).2.2]; exact t10_17
  have t12_18 : σ18 (b + 651) = (fun _ => 0) := by rw [(s18 (b + 651) (by omega)).2.2]; exact t12_17
  have cA18 : ∀ i, i ≤ b → ad18 i = ad0 i := fun i hi => (s18 i (by omega)).1.trans (cA17 i hi)
  have cH18 : ∀ i, i < b → Sh18 i = Sh0 i := fun i hi => (s18 i (by omega)).2.1.trans (cH17 i hi)
  have cG18 : ∀ i, i < b → σ18 i = σ0 i := fun i hi => (s18 i (by omega)).2.2.trans (cG17 i hi)
  clear i2_17 i5_17 i8_17 q10_17 q12_17 i15_17 q16_17 t0_17 j2_17 j5_17 j8_17 t10_17 t12_17 cA17 cH17 cG17
  have i18 : xIs3 D ad18 (b + 738) Sh18 (b + 695) := n18.1
  refine x_conv (lv2 := [(0, .ref (ad18 (b)))]) (st2 := [.ref (ad18 (b + 695)), .ref (ad18 (b))]) (by simp only [(s18 (b) (by omega)).1]) (by simp only [r18, (s18 (b) (by omega)).1]) ?_
  refine xr_putR (pc := 71) X18 hname (b) (b + 695) 6 _ (fun r => .inr (5, [.ref (ad18 (b + 1)), .ref (ad18 (b + 3)), .ref (ad18 (b + 46)), .ref (ad18 (b + 650)), .ref (ad18 (b + 651)), .ref (ad18 (b + 652)), .ref (ad18 (b + 695))])) (by omega) q16_18 rfl rfl (C := RX5) (T := TX5) (NF := 7) (tyf := tyX5) (ty := .object "HeldNotes$Post") rfl hinX5 tyX5_ok nmX5 (by omega) wm_2_2 rfl rfl (by decide +kernel) (fun _ => rfl) (fun _ => rfl) (Nat.le_of_ble_eq_true rfl) dX5_init_71 ?_
  obtain ⟨Sh19, y19⟩ : ∃ z, z = xupS Sh18 (b) (fun r => .inr (5, [.ref (ad18 (b + 1)), .ref (ad18 (b + 3)), .ref (ad18 (b + 46)), .ref (ad18 (b + 650)), .ref (ad18 (b + 651)), .ref (ad18 (b + 652)), .ref (ad18 (b + 695))])) := ⟨_, rfl⟩
  rw [← y19]
  have s19 : ∀ i, i ≠ b → Sh19 i = Sh18 i := fun i hb => by rw [y19]; exact if_neg hb
  have q19 : Sh19 (b) = (fun r => .inr (5, [.ref (ad18 (b + 1)), .ref (ad18 (b + 3)), .ref (ad18 (b + 46)), .ref (ad18 (b + 650)), .ref (ad18 (b + 651)), .ref (ad18 (b + 652)), .ref (ad18 (b + 695))])) := by rw [y19]; exact if_pos rfl
  clear y19
  have i2_19 : xIs4 D ad18 (b + 738) Sh19 (b + 1) := xIs4_ex i2_18 (fun i h1 h2 => ⟨rfl, s19 i (by omega)⟩) (by omega)
  have i5_19 : xIs3 D ad18 (b + 738) Sh19 (b + 3) := xIs3_ex i5_18 (fun i h1 h2 => ⟨rfl, s19 i (by omega)⟩) (by omega)
  have i8_19 : xIs1 D ad18 (b + 738) Sh19 (b + 46) := xIs1_ex i8_18 (fun i h1 h2 => ⟨rfl, s19 i (by omega)⟩) (by omega)
  have q10_19 : Sh19 (b + 650) = (fun _ => .inl (D.1 105, 2, .inr (.inr (.inr (.inr (fun _ => none)))))) := (s19 (b + 650) (by omega)).trans q10_18
  have q12_19 : Sh19 (b + 651) = (shZ D 2) := (s19 (b + 651) (by omega)).trans q12_18
  have i15_19 : xIs3 D ad18 (b + 738) Sh19 (b + 652) := xIs3_ex i15_18 (fun i h1 h2 => ⟨rfl, s19 i (by omega)⟩) (by omega)
  have i18_19 : xIs3 D ad18 (b + 738) Sh19 (b + 695) := xIs3_ex i18 (fun i h1 h2 => ⟨rfl, s19 i (by omega)⟩) (by omega)
  have cH19 : ∀ i, i < b → Sh19 i = Sh0 i := fun i hi => (s19 i (by omega)).trans (cH18 i hi)
  clear i2_18 i5_18 i8_18 q10_18 q12_18 i15_18 q16_18 i18 cH18
  refine xr_iconst (pc := 74) X18 dX5_init_74 (v := 0) (by decide) ?_
  refine xr_istore_n (pc := 75) X18 (hf := rfl) (i := 1) [1, 0] (Nat.le_of_ble_eq_true rfl) hnL rfl dX5_init_75 ?_
  refine x_conv (lv2 := [(0, .ref (ad18 (b))), (1, .int 0)]) (st2 := []) rfl rfl ?_
  refine xr_iload_n (pc := 76) X18 (i := 1) 1 rfl rfl dX5_init_76 ?_
  refine xr_iconst (pc := 77) X18 dX5_init_77 (v := 2) (by decide) ?_
  refine x_convE (ex2 := if (2 : Int32) ≤ (0 : Int32) then some () else some ()) (by decide) ?_
  refine xr_icmp_ge (pc := 78) X18 100 (by decide) dX5_init_78 (fun hc => absurd hc (by decide)) (fun hc => ?_)
  refine xr_aload_n (pc := 81) X18 (i := 0) 0 rfl rfl dX5_init_81 ?_
  refine xr_getB (pc := 82) X18 (b) 3 (by omega) (by rw [q19]) (C := RX5) (T := TX5) (NF := 7) rfl hinX5 (by omega) wm_1_22 rfl rfl dX5_init_82 ?_
  refine xr_iload_n (pc := 85) X18 (i := 1) 1 rfl rfl dX5_init_85 ?_
  refine xr_new (pc := 86) X18 shB3 (C := RX3) (T := TX3) (NF := 5) (tyf := tyX3) rfl hinX3 tyX3_ok wm_1_14 wm_1_15 wm_1_16 rfl (fun j hj => by rcases (show j = 0 ∨ j = 1 ∨ j = 2 ∨ j = 3 ∨ j = 4 by omega) with rfl | rfl | rfl | rfl | rfl <;> rfl) (Nat.le_of_ble_eq_true rfl) (Nat.le_of_ble_eq_true rfl) dX5_init_86 (fun ad20 e20 X20 => ?_)
  obtain ⟨Sh20, y20⟩ : ∃ z, z = xupS Sh19 (b + 738) shB3 := ⟨_, rfl⟩
  obtain ⟨σ20, w20⟩ : ∃ z, z = xz σ18 (b + 738) := ⟨_, rfl⟩
  rw [← y20, ← w20]
  have s20 : ∀ i, i < b + 738 → ad20 i = ad18 i ∧ Sh20 i = Sh19 i ∧ σ20 i = σ18 i := fun i hi => ⟨e20 i hi, by rw [y20]; exact if_neg (Nat.ne_of_lt hi), by rw [w20]; exact if_neg (Nat.ne_of_lt hi)⟩
  have q20 : Sh20 (b + 738) = shB3 := by rw [y20]; exact if_pos rfl
  have t20 : σ20 (b + 738) = (fun _ => 0) := by rw [w20]; exact if_pos rfl
  clear e20 y20 w20
  have i2_20 : xIs4 D ad20 (b + 739) Sh20 (b + 1) := xIs4_ex i2_19 (fun i h1 h2 => ⟨(s20 i (by omega)).1, (s20 i (by omega)).2.1⟩) (by omega)
  have i5_20 : xIs3 D ad20 (b + 739) Sh20 (b + 3) := xIs3_ex i5_19 (fun i h1 h2 => ⟨(s20 i (by omega)).1, (s20 i (by omega)).2.1⟩) (by omega)
  have i8_20 : xIs1 D ad20 (b + 739) Sh20 (b + 46) := xIs1_ex i8_19 (fun i h1 h2 => ⟨(s20 i (by omega)).1, (s20 i (by omega)).2.1⟩) (by omega)
  have q10_20 : Sh20 (b + 650) = (fun _ => .inl (D.1 105, 2, .inr (.inr (.inr (.inr (fun _ => none)))))) := (s20 (b + 650) (by omega)).2.1.trans q10_19
  have q12_20 : Sh20 (b + 651) = (shZ D 2) := (s20 (b + 651) (by omega)).2.1.trans q12_19
  have i15_20 : xIs3 D ad20 (b + 739) Sh20 (b + 652) := xIs3_ex i15_19 (fun i h1 h2 => ⟨(s20 i (by omega)).1, (s20 i (by omega)).2.1⟩) (by omega)
  have i18_20 : xIs3 D ad20 (b + 739) Sh20 (b + 695) := xIs3_ex i18_19 (fun i h1 h2 => ⟨(s20 i (by omega)).1, (s20 i (by omega)).2.1⟩) (by omega)
  have q19_20 : Sh20 (b) = (fun r => .inr (5, [.ref (ad20 (b + 1)), .ref (ad20 (b + 3)), .ref (ad20 (b + 46)), .ref (ad20 (b + 650)), .ref (ad20 (b + 651)), .ref (ad20 (b + 652)), .ref (ad20 (b + 695))])) := ((s20 (b) (by omega)).2.1.trans q19).trans (by simp only [(s20 (b + 1) (by omega)).1, (s20 (b + 3) (by omega)).1, (s20 (b + 46) (by omega)).1, (s20 (b + 650) (by omega)).1, (s20 (b + 651) (by omega)).1, (s20 (b + 652) (by omega)).1, (s20 (b + 695) (by omega)).1])
  have t0_20 : σ20 (b) = (fun _ => 0) := by rw [(s20 (b) (by omega)).2.2]; exact t0_18
  have j2_20 : σ20 (b + 1) 1 = 0 := by rw [(s20 (b + 1) (by omega)).2.2]; exact j2_18
  have j5_20 : xBg3 σ20 (b + 3) := xBg3_ex j5_18 (fun i h1 h2 => (s20 i (by omega)).2.2)
  have j8_20 : σ20 (b + 46) 1 = 0 ∧ σ20 (b + 46) 2 = 0 := by rw [(s20 (b + 46) (by omega)).2.2]; exact j8_18
  have t10_20 : σ20 (b + 650) = (fun _ => 0) := by rw [(s20 (b + 650) (by omega)).2.2]; exact t10_18
  have t12_20 : σ20 (b + 651) = (fun _ => 0) := by rw [(s20 (b + 651) (by omega)).2.2]; exact t12_18
  have cA20 : ∀ i, i ≤ b → ad20 i = ad0 i := fun i hi => (s20 i (by omega)).1.trans (cA18 i hi)
  have cH20 : ∀ i, i < b → Sh20 i = Sh0 i := fun i hi => (s20 i (by omega)).2.1.trans (cH19 i hi)
  have cG20 : ∀ i, i < b → σ20 i = σ0 i := fun i hi => (s20 i (by omega)).2.2.trans (cG18 i hi)
  clear i2_19 i5_19 i8_19 q10_19 q12_19 i15_19 i18_19 q19 t0_18 j2_18 j5_18 j8_18 t10_18 t12_18 cA18 cH19 cG18
  refine x_conv (lv2 := [(0, .ref (ad20 (b))), (1, .int 0)]) (st2 := [.ref (ad20 (b + 738)), .int 0, .ref (ad20 (b + 650))]) (by simp only [(s20 (b) (by omega)).1]) (by simp only [(s20 (b + 650) (by omega)).1]) ?_
  replace X20 : xC Γ _ _ _ _ _ D ad20 (b + 739) := X20
  refine x_convN (N2 := b + 739) rfl ?_
  refine xr_dup (pc := 89) X20 rfl dX5_init_89 ?_
  refine xr_callC (pc := 90) (na := 0) (b + 738) [] X20 hAO (c_X3_init Γ.2.1 D _) q20 t20 rfl (wG_1 wm_2_17) rfl rfl rfl (List.mem_cons_of_mem _ wm_1_16) (List.mem_cons_of_mem _ wm_2_15) (List.mem_cons_of_mem _ wm_2_16) rfl (by decide +kernel) ⟨(Nat.le_of_ble_eq_true rfl), (Nat.le_of_ble_eq_true rfl)⟩ rfl rfl (Nat.le_of_ble_eq_true rfl) ⟨(Nat.le_of_ble_eq_true rfl), (Nat.le_of_ble_eq_true rfl)⟩ dX5_init_90 (fun ad21 Sh21 σ21 p21 X21 => ?_)
  have s21 : ∀ i, i < b + 738 → ad21 i = ad20 i ∧ Sh21 i = Sh20 i ∧ σ21 i = σ20 i := fun i hi => ⟨p21.1 i (by omega), (p21.2.1 i hi).1, (p21.2.1 i hi).2⟩
  have n21 := p21.2.2
  have r21 : ad21 (b + 738) = ad20 (b + 738) := p21.1 _ (Nat.le_refl _)
  clear p21
  replace X21 : xC Γ _ _ _ _ _ D ad21 (b + 781) := X21
  refine x_convN (N2 := b + 781) rfl ?_
  have i2_21 : xIs4 D ad21 (b + 781) Sh21 (b + 1) := xIs4_ex i2_20 (fun i h1 h2 => ⟨(s21 i (by omega)).1, (s21 i (by omega)).2.1⟩) (by omega)
  have i5_21 : xIs3 D ad21 (b + 781) Sh21 (b + 3) := xIs3_ex i5_20 (fun i h1 h2 => ⟨(s21 i (by omega)).1, (s21 i (by omega)).2.1⟩) (by omega)
  have i8_21 : xIs1 D ad21 (b + 781) Sh21 (b + 46) := xIs1_ex i8_20 (fun i h1 h2 => ⟨(s21 i (by omega)).1, (s21 i (by omega)).2.1⟩) (by omega)
  have q10_21 : Sh21 (b + 650) = (fun _ => .inl (D.1 105, 2, .inr (.inr (.inr (.inr (fun _ => none)))))) := (s21 (b + 650) (by omega)).2.1.trans q10_20
  have q12_21 : Sh21 (b + 651) = (shZ D 2) := (s21 (b + 651) (by omega)).2.1.trans q12_20
  have i15_21 : xIs3 D ad21 (b + 781) Sh21 (b + 652) := xIs3_ex i15_20 (fun i h1 h2 => ⟨(s21 i (by omega)).1, (s21 i (by omega)).2.1⟩) (by omega)
  have i18_21 : xIs3 D ad21 (b + 781) Sh21 (b + 695) := xIs3_ex i18_20 (fun i h1 h2 => ⟨(s21 i (by omega)).1, (s21 i (by omega)).2.1⟩) (by omega)
  have q19_21 : Sh21 (b) = (fun r => .inr (5, [.ref (ad21 (b + 1)), .ref (ad21 (b + 3)), .ref (ad21 (b + 46)), .ref (ad21 (b + 650)), .ref (ad21 (b + 651)), .ref (ad21 (b + 652)), .ref (ad21 (b + 695))])) := ((s21 (b) (by omega)).2.1.trans q19_20).trans (by simp only [(s21 (b + 1) (by omega)).1, (s21 (b + 3) (by omega)).1, (s21 (b + 46) (by omega)).1, (s21 (b + 650) (by omega)).1, (s21 (b + 651) (by omega)).1, (s21 (b + 652) (by omega)).1, (s21 (b + 695) (by omega)).1])
  have t0_21 : σ21 (b) = (fun _ => 0) := by rw [(s21 (b) (by omega)).2.2]; exact t0_20
  have j2_21 : σ21 (b + 1) 1 = 0 := by rw [(s21 (b + 1) (by omega)).2.2]; exact j2_20
  have j5_21 : xBg3 σ21 (b + 3) := xBg3_ex j5_20 (fun i h1 h2 => (s21 i (by omega)).2.2)
  have j8_21 : σ21 (b + 46) 1 = 0 ∧ σ21 (b + 46) 2 = 0 := by rw [(s21 (b + 46) (by omega)).2.2]; exact j8_20
  have t10_21 : σ21 (b + 650) = (fun _ => 0) := by rw [(s21 (b + 650) (by omega)).2.2]; exact t10_20
  have t12_21 : σ21 (b + 651) = (fun _ => 0) := by rw [(s21 (b + 651) (by omega)).2.2]; exact t12_20
  have cA21 : ∀ i, i ≤ b → ad21 i = ad0 i := fun i hi => (s21 i (by omega)).1.trans (cA20 i hi)
  have cH21 : ∀ i, i < b → Sh21 i = Sh0 i := fun i hi => (s21 i (by omega)).2.1.trans (cH20 i hi)
  have cG21 : ∀ i, i < b → σ21 i = σ0 i := fun i hi => (s21 i (by omega)).2.2.trans (cG20 i hi)
  clear i2_20 i5_20 i8_20 q10_20 q12_20 i15_20 i18_20 q19_20 t0_20 j2_20 j5_20 j8_20 t10_20 t12_20 cA20 cH20 cG20
  have i21 : xIs3 D ad21 (b + 781) Sh21 (b + 738) := n21.1
  refine x_conv (lv2 := [(0, .ref (ad21 (b))), (1, .int 0)]) (st2 := [.ref (ad21 (b + 738)), .int 0, .ref (ad21 (b + 650))]) (by simp only [(s21 (b) (by omega)).1]) (by simp only [r21, (s21 (b + 650) (by omega)).1]) ?_
  refine xr_astq (pc := 93) (t0 := 5) (n0 := 2) (cid := D.1 105) X21 (b + 650) (b + 738) (fun _ => .inl (D.1 105, 2, .inr (.inr (.inr (.inr (va_up (fun _ => none) 0 (some (ad21 (b + 738))))))))) (by omega) (by omega) (by rw [q10_21]) rfl (by rw [i21.1.2]; rfl) (C := RX3) (T := TX3) (NF := 5) (ci := 3) rfl (vp_in_nI (n := 0) (N := 2) (by decide) (by decide)) rfl dX5_init_93 ?_
  obtain ⟨Sh22, y22⟩ : ∃ z, z = xupS Sh21 (b + 650) (fun _ => .inl (D.1 105, 2, .inr (.inr (.inr (.inr (va_up (fun _ => none) 0 (some (ad21 (b + 738))))))))) := ⟨_, rfl⟩
  rw [← y22]
  have s22 : ∀ i, i ≠ b + 650 → Sh22 i = Sh21 i := fun i hb => by rw [y22]; exact if_neg hb
  have q22 : Sh22 (b + 650) = (fun _ => .inl (D.1 105, 2, .inr (.inr (.inr (.inr (va_up (fun _ => none) 0 (some (ad21 (b + 738))))))))) := by rw [y22]; exact if_pos rfl
  clear y22
  have i2_22 : xIs4 D ad21 (b + 781) Sh22 (b + 1) := xIs4_ex i2_21 (fun i h1 h2 => ⟨rfl, s22 i (by omega)⟩) (by omega)
  have i5_22 : xIs3 D ad21 (b + 781) Sh22 (b + 3) := xIs3_ex i5_21 (fun i h1 h2 => ⟨rfl, s22 i (by omega)⟩) (by omega)
  have i8_22 : xIs1 D ad21 (b + 781) Sh22 (b + 46) := xIs1_ex i8_21 (fun i h1 h2 => ⟨rfl, s22 i (by omega)⟩) (by omega)
  have q12_22 : Sh22 (b + 651) = (shZ D 2) := (s22 (b + 651) (by omega)).trans q12_21
  have i15_22 : xIs3 D ad21 (b + 781) Sh22 (b + 652) := xIs3_ex i15_21 (fun i h1 h2 => ⟨rfl, s22 i (by omega)⟩) (by omega)
  have i18_22 : xIs3 D ad21 (b + 781) Sh22 (b + 695) := xIs3_ex i18_21 (fun i h1 h2 => ⟨rfl, s22 i (by omega)⟩) (by omega)
  have q19_22 : Sh22 (b) = (fun r => .inr (5, [.ref (ad21 (b + 1)), .ref (ad21 (b + 3)), .ref (ad21 (b + 46)), .ref (ad21 (b + 650)), .ref (ad21 (b + 651)), .ref (ad21 (b + 652)), .ref (ad21 (b + 695))])) := (s22 (b) (by omega)).trans q19_21
  have i21_22 : xIs3 D ad21 (b + 781) Sh22 (b + 738) := xIs3_ex i21 (fun i h1 h2 => ⟨rfl, s22 i (by omega)⟩) (by omega)
  have cH22 : ∀ i, i < b → Sh22 i = Sh0 i := fun i hi => (s22 i (by omega)).trans (cH21 i hi)
  clear i2_21 i5_21 i8_21 q10_21 q12_21 i15_21 i18_21 q19_21 i21 cH21
  refine xr_iincC (pc := 94) X21 (i := 1) (j := 1) (v := 1) [1, 0] (Nat.le_of_ble_eq_true rfl) hnL rfl (by decide) rfl dX5_init_94 ?_
  refine x_conv (lv2 := [(0, .ref (ad21 (b))), (1, .int 1)]) (st2 := []) rfl rfl ?_
  refine xr_goto (pc := 97) X21 76 (by decide) dX5_init_97 ?_
  refine xr_iload_n (pc := 76) X21 (i := 1) 1 rfl rfl dX5_init_76 ?_
  refine xr_iconst (pc := 77) X21 dX5_init_77 (v := 2) (by decide) ?_
  refine x_convE (ex2 := if (2 : Int32) ≤ (1 : Int32) then some () else some ()) (by decide) ?_
  refine xr_icmp_ge (pc := 78) X21 100 (by decide) dX5_init_78 (fun hc => absurd hc (by decide)) (fun hc => ?_)
  refine xr_aload_n (pc := 81) X21 (i := 0) 0 rfl rfl dX5_init_81 ?_
  refine xr_getB (pc := 82) X21 (b) 3 (by omega) (by rw [q19_22]) (C := RX5) (T := TX5) (NF := 7) rfl hinX5 (by omega) wm_1_22 rfl rfl dX5_init_82 ?_
  refine xr_iload_n (pc := 85) X21 (i := 1) 1 rfl rfl dX5_init_85 ?_
  refine xr_new (pc := 86) X21 shB3 (C := RX3) (T := TX3) (NF := 5) (tyf := tyX3) rfl hinX3 tyX3_ok wm_1_14 wm_1_15 wm_1_16 rfl (fun j hj => by rcases (show j = 0 ∨ j = 1 ∨ j = 2 ∨ j = 3 ∨ j = 4 by omega) with rfl | rfl | rfl | rfl | rfl <;> rfl) (Nat.le_of_ble_eq_true rfl) (Nat.le_of_ble_eq_true rfl) dX5_init_86 (fun ad23 e23 X23 => ?_)
  obtain ⟨Sh23, y23⟩ : ∃ z, z = xupS Sh22 (b + 781) shB3 := ⟨_, rfl⟩
  obtain ⟨σ23, w23⟩ : ∃ z, z = xz σ21 (b + 781) := ⟨_, rfl⟩
  rw [← y23, ← w23]
  have s23 : ∀ i, i < b + 781 → ad23 i = ad21 i ∧ Sh23 i = Sh22 i ∧ σ23 i = σ21 i := fun i hi => ⟨e23 i hi, by rw [y23]; exact if_neg (Nat.ne_of_lt hi), by rw [w23]; exact if_neg (Nat.ne_of_lt hi)⟩
  have q23 : Sh23 (b + 781) = shB3 := by rw [y23]; exact if_pos rfl
  have t23 : σ23 (b + 781) = (fun _ => 0) := by rw [w23]; exact if_pos rfl
  clear e23 y23 w23
  have i2_23 : xIs4 D ad23 (b + 782) Sh23 (b + 1) := xIs4_ex i2_22 (fun i h1 h2 => ⟨(s23 i (by omega)).1, (s23 i (by omega)).2.1⟩) (by omega)
  have i5_23 : xIs3 D ad23 (b + 782) Sh23 (b + 3) := xIs3_ex i5_22 (fun i h1 h2 => ⟨(s23 i (by omega)).1, (s23 i (by omega)).2.1⟩) (by omega)
  have i8_23 : xIs1 D ad23 (b + 782) Sh23 (b + 46) := xIs1_ex i8_22 (fun i h1 h2 => ⟨(s23 i (by omega)).1, (s23 i (by omega)).2.1⟩) (by omega)
  have q12_23 : Sh23 (b + 651) = (shZ D 2) := (s23 (b + 651) (by omega)).2.1.trans q12_22
  have i15_23 : xIs3 D ad23 (b + 782) Sh23 (b + 652) := xIs3_ex i15_22 (fun i h1 h2 => ⟨(s23 i (by omega)).1, (s23 i (by omega)).2.1⟩) (by omega)
  have i18_23 : xIs3 D ad23 (b + 782) Sh23 (b + 695) := xIs3_ex i18_22 (fun i h1 h2 => ⟨(s23 i (by omega)).1, (s23 i (by omega)).2.1⟩) (by omega)
  have q19_23 : Sh23 (b) = (fun r => .inr (5, [.ref (ad23 (b + 1)), .ref (ad23 (b + 3)), .ref (ad23 (b + 46)), .ref (ad23 (b + 650)), .ref (ad23 (b + 651)), .ref (ad23 (b + 652)), .ref (ad23 (b + 695))])) := ((s23 (b) (by omega)).2.1.trans q19_22).trans (by simp only [(s23 (b + 1) (by omega)).1, (s23 (b + 3) (by omega)).1, (s23 (b + 46) (by omega)).1, (s23 (b + 650) (by omega)).1, (s23 (b + 651) (by omega)).1, (s23 (b + 652) (by omega)).1, (s23 (b + 695) (by omega)).1])
  have i21_23 : xIs3 D ad23 (b + 782) Sh23 (b + 738) := xIs3_ex i21_22 (fun i h1 h2 => ⟨(s23 i (by omega)).1, (s23 i (by omega)).2.1⟩) (by omega)
  have q22_23 : Sh23 (b + 650) = (fun _ => .inl (D.1 105, 2, .inr (.inr (.inr (.inr (va_up (fun _ => none) 0 (some (ad23 (b + 738))))))))) := ((s23 (b + 650) (by omega)).2.1.trans q22).trans (by simp only [(s23 (b + 738) (by omega)).1])
  have t0_23 : σ23 (b) = (fun _ => 0) := by rw [(s23 (b) (by omega)).2.2]; exact t0_21
  have j2_23 : σ23 (b + 1) 1 = 0 := by rw [(s23 (b + 1) (by omega)).2.2]; exact j2_21
  have j5_23 : xBg3 σ23 (b + 3) := xBg3_ex j5_21 (fun i h1 h2 => (s23 i (by omega)).2.2)
  have j8_23 : σ23 (b + 46) 1 = 0 ∧ σ23 (b + 46) 2 = 0 := by rw [(s23 (b + 46) (by omega)).2.2]; exact j8_21
  have t10_23 : σ23 (b + 650) = (fun _ => 0) := by rw [(s23 (b + 650) (by omega)).2.2]; exact t10_21
  have t12_23 : σ23 (b + 651) = (fun _ => 0) := by rw [(s23 (b + 651) (by omega)).2.2]; exact t12_21
  have cA23 : ∀ i, i ≤ b → ad23 i = ad0 i := fun i hi => (s23 i (by omega)).1.trans (cA21 i hi)
  have cH23 : ∀ i, i < b → Sh23 i = Sh0 i := fun i hi => (s23 i (by omega)).2.1.trans (cH22 i hi)
  have cG23 : ∀ i, i < b → σ23 i = σ0 i := fun i hi => (s23 i (by omega)).2.2.trans (cG21 i hi)
  clear i2_22 i5_22 i8_22 q12_22 i15_22 i18_22 q19_22 i21_22 q22 t0_21 j2_21 j5_21 j8_21 t10_21 t12_21 cA21 cH22 cG21
  refine x_conv (lv2 := [(0, .ref (ad23 (b))), (1, .int 1)]) (st2 := [.ref (ad23 (b + 781)), .int 1, .ref (ad23 (b + 650))]) (by simp only [(s23 (b) (by omega)).1]) (by simp only [(s23 (b + 650) (by omega)).1]) ?_
  replace X23 : xC Γ _ _ _ _ _ D ad23 (b + 782) := X23
  refine x_convN (N2 := b + 782) rfl ?_
  refine xr_dup (pc := 89) X23 rfl dX5_init_89 ?_
  refine xr_callC (pc := 90) (na := 0) (b + 781) [] X23 hAO (c_X3_init Γ.2.1 D _) q23 t23 rfl (wG_1 wm_2_17) rfl rfl rfl (List.mem_cons_of_mem _ wm_1_16) (List.mem_cons_of_mem _ wm_2_15) (List.mem_cons_of_mem _ wm_2_16) rfl (by decide +kernel) ⟨(Nat.le_of_ble_eq_true rfl), (Nat.le_of_ble_eq_true rfl)⟩ rfl rfl (Nat.le_of_ble_eq_true rfl) ⟨(Nat.le_of_ble_eq_true rfl), (Nat.le_of_ble_eq_true rfl)⟩ dX5_init_90 (fun ad24 Sh24 σ24 p24 X24 => ?_)
  have s24 : ∀ i, i < b + 781 → ad24 i = ad23 i ∧ Sh24 i = Sh23 i ∧ σ24 i = σ23 i := fun i hi => ⟨p24.1 i (by omega), (p24.2.1 i hi).1, (p24.2.1 i hi).2⟩
  have n24 := p24.2.2
  have r24 : ad24 (b + 781) = ad23 (b + 781) := p24.1 _ (Nat.le_refl _)
  clear p24
  replace X24 : xC Γ _ _ _ _ _ D ad24 (b + 824) := X24
  refine x_convN (N2 := b + 824) rfl ?_
  have i2_24 : xIs4 D ad24 (b + 824) Sh24 (b + 1) := xIs4_ex i2_23 (fun i h1 h2 => ⟨(s24 i (by omega)).1, (s24 i (by omega)).2.1⟩) (by omega)
  have i5_24 : xIs3 D ad24 (b + 824) Sh24 (b + 3) := xIs3_ex i5_23 (fun i h1 h2 => ⟨(s24 i (by omega)).1, (s24 i (by omega)).2.1⟩) (by omega)
  have i8_24 : xIs1 D ad24 (b + 824) Sh24 (b + 46) := xIs1_ex i8_23 (fun i h1 h2 => ⟨(s24 i (by omega)).1, (s24 i (by omega)).2.1⟩) (by omega)
  have q12_24 : Sh24 (b + 651) = (shZ D 2) := (s24 (b + 651) (by omega)).2.1.trans q12_23
  have i15_24 : xIs3 D ad24 (b + 824) Sh24 (b + 652) := xIs3_ex i15_23 (fun i h1 h2 => ⟨(s24 i (by omega)).1, (s24 i (by omega)).2.1⟩) (by omega)
  have i18_24 : xIs3 D ad24 (b + 824) Sh24 (b + 695) := xIs3_ex i18_23 (fun i h1 h2 => ⟨(s24 i (by omega)).1, (s24 i (by omega)).2.1⟩) (by omega)
  have q19_24 : Sh24 (b) = (fun r => .inr (5, [.ref (ad24 (b + 1)), .ref (ad24 (b + 3)), .ref (ad24 (b + 46)), .ref (ad24 (b + 650)), .ref (ad24 (b + 651)), .ref (ad24 (b + 652)), .ref (ad24 (b + 695))])) := ((s24 (b) (by omega)).2.1.trans q19_23).trans (by simp only [(s24 (b + 1) (by omega)).1, (s24 (b + 3) (by omega)).1, (s24 (b + 46) (by omega)).1, (s24 (b + 650) (by omega)).1, (s24 (b + 651) (by omega)).1, (s24 (b + 652) (by omega)).1, (s24 (b + 695) (by omega)).1])
  have i21_24 : xIs3 D ad24 (b + 824) Sh24 (b + 738) := xIs3_ex i21_23 (fun i h1 h2 => ⟨(s24 i (by omega)).1, (s24 i (by omega)).2.1⟩) (by omega)
  have q22_24 : Sh24 (b + 650) = (fun _ => .inl (D.1 105, 2, .inr (.inr (.inr (.inr (va_up (fun _ => none) 0 (some (ad24 (b + 738))))))))) := ((s24 (b + 650) (by omega)).2.1.trans q22_23).trans (by simp only [(s24 (b + 738) (by omega)).1])
  have t0_24 : σ24 (b) = (fun _ => 0) := by rw [(s24 (b) (by omega)).2.2]; exact t0_23
  have j2_24 : σ24 (b + 1) 1 = 0 := by rw [(s24 (b + 1) (by omega)).2.2]; exact j2_23
  have j5_24 : xBg3 σ24 (b + 3) := xBg3_ex j5_23 (fun i h1 h2 => (s24 i (by omega)).2.2)
  have j8_24 : σ24 (b + 46) 1 = 0 ∧ σ24 (b + 46) 2 = 0 := by rw [(s24 (b + 46) (by omega)).2.2]; exact j8_23
  have t10_24 : σ24 (b + 650) = (fun _ => 0) := by rw [(s24 (b + 650) (by omega)).2.2]; exact t10_23
  have t12_24 : σ24 (b + 651) = (fun _ => 0) := by rw [(s24 (b + 651) (by omega)).2.2]; exact t12_23
  have cA24 : ∀ i, i ≤ b → ad24 i = ad0 i := fun i hi => (s24 i (by omega)).1.trans (cA23 i hi)
  have cH24 : ∀ i, i < b → Sh24 i = Sh0 i := fun i hi => (s24 i (by omega)).2.1.trans (cH23 i hi)
  have cG24 : ∀ i, i < b → σ24 i = σ0 i := fun i hi => (s24 i (by omega)).2.2.trans (cG23 i hi)
  clear i2_23 i5_23 i8_23 q12_23 i15_23 i18_23 q19_23 i21_23 q22_23 t0_23 j2_23 j5_23 j8_23 t10_23 t12_23 cA23 cH23 cG23
  have i24 : xIs3 D ad24 (b + 824) Sh24 (b + 781) := n24.1
  refine x_conv (lv2 := [(0, .ref (ad24 (b))), (1, .int 1)]) (st2 := [.ref (ad24 (b + 781)), .int 1, .ref (ad24 (b + 650))]) (by simp only [(s24 (b) (by omega)).1]) (by simp only [r24, (s24 (b + 650) (by omega)).1]) ?_
  refine xr_astq (pc := 93) (t0 := 5) (n0 := 2) (cid := D.1 105) X24 (b + 650) (b + 781) (fun _ => .inl (D.1 105, 2, .inr (.inr (.inr (.inr (va_up (va_up (fun _ => none) 0 (some (ad24 (b + 738)))) 1 (some (ad24 (b + 781))))))))) (by omega) (by omega) (by rw [q22_24]) rfl (by rw [i24.1.2]; rfl) (C := RX3) (T := TX3) (NF := 5) (ci := 3) rfl (vp_in_nI (n := 1) (N := 2) (by decide) (by decide)) rfl dX5_init_93 ?_
  obtain ⟨Sh25, y25⟩ : ∃ z, z = xupS Sh24 (b + 650) (fun _ => .inl (D.1 105, 2, .inr (.inr (.inr (.inr (va_up (va_up (fun _ => none) 0 (some (ad24 (b + 738)))) 1 (some (ad24 (b + 781))))))))) := ⟨_, rfl⟩
  rw [← y25]
  have s25 : ∀ i, i ≠ b + 650 → Sh25 i = Sh24 i := fun i hb => by rw [y25]; exact if_neg hb
  have q25 : Sh25 (b + 650) = (fun _ => .inl (D.1 105, 2, .inr (.inr (.inr (.inr (va_up (va_up (fun _ => none) 0 (some (ad24 (b + 738)))) 1 (some (ad24 (b + 781))))))))) := by rw [y25]; exact if_pos rfl
  clear y25
  have i2_25 : xIs4 D ad24 (b + 824) Sh25 (b + 1) := xIs4_ex i2_24 (fun i h1 h2 => ⟨rfl, s25 i (by omega)⟩) (by omega)
  have i5_25 : xIs3 D ad24 (b + 824) Sh25 (b + 3) := xIs3_ex i5_24 (fun i h1 h2 => ⟨rfl, s25 i (by omega)⟩) (by omega)
  have i8_25 : xIs1 D ad24 (b + 824) Sh25 (b + 46) := xIs1_ex i8_24 (fun i h1 h2 => ⟨rfl, s25 i (by omega)⟩) (by omega)
  have q12_25 : Sh25 (b + 651) = (shZ D 2) := (s25 (b + 651) (by omega)).trans q12_24
  have i15_25 : xIs3 D ad24 (b + 824) Sh25 (b + 652) := xIs3_ex i15_24 (fun i h1 h2 => ⟨rfl, s25 i (by omega)⟩) (by omega)
  have i18_25 : xIs3 D ad24 (b + 824) Sh25 (b + 695) := xIs3_ex i18_24 (fun i h1 h2 => ⟨rfl, s25 i (by omega)⟩) (by omega)
  have q19_25 : Sh25 (b) = (fun r => .inr (5, [.ref (ad24 (b + 1)), .ref (ad24 (b + 3)), .ref (ad24 (b + 46)), .ref (ad24 (b + 650)), .ref (ad24 (b + 651)), .ref (ad24 (b + 652)), .ref (ad24 (b + 695))])) := (s25 (b) (by omega)).trans q19_24
  have i21_25 : xIs3 D ad24 (b + 824) Sh25 (b + 738) := xIs3_ex i21_24 (fun i h1 h2 => ⟨rfl, s25 i (by omega)⟩) (by omega)
  have i24_25 : xIs3 D ad24 (b + 824) Sh25 (b + 781) := xIs3_ex i24 (fun i h1 h2 => ⟨rfl, s25 i (by omega)⟩) (by omega)
  have cH25 : ∀ i, i < b → Sh25 i = Sh0 i := fun i hi => (s25 i (by omega)).trans (cH24 i hi)
  clear i2_24 i5_24 i8_24 q12_24 i15_24 i18_24 q19_24 i21_24 q22_24 i24 cH24
  refine xr_iincC (pc := 94) X24 (i := 1) (j := 1) (v := 2) [1, 0] (Nat.le_of_ble_eq_true rfl) hnL rfl (by decide) rfl dX5_init_94 ?_
  refine x_conv (lv2 := [(0, .ref (ad24 (b))), (1, .int 2)]) (st2 := []) rfl rfl ?_
  refine xr_goto (pc := 97) X24 76 (by decide) dX5_init_97 ?_
  refine xr_iload_n (pc := 76) X24 (i := 1) 1 rfl rfl dX5_init_76 ?_
  refine xr_iconst (pc := 77) X24 dX5_init_77 (v := 2) (by decide) ?_
  refine x_convE (ex2 := if (2 : Int32) ≤ (2 : Int32) then some () else some ()) (by decide) ?_
  refine xr_icmp_ge (pc := 78) X24 100 (by decide) dX5_init_78 (fun hc => ?_) (fun hc => absurd (by decide) hc)
  exact xr_cret (pc := 100) (nn := 824) X24 ⟨cA24, fun i hi => ⟨cH25 i hi, cG24 i hi⟩, ⟨⟨⟨by omega, q19_25⟩, i2_25, i5_25, i8_25, ⟨by omega, q25.trans (shOs_of (fun j => by rcases (show j = 0 ∨ j = 1 ∨ 2 ≤ j by omega) with rfl | rfl | h <;> first | rfl | (simp only [va_up]; rw [if_neg (by omega), if_neg (by omega), if_neg (by omega)])))⟩, ⟨by omega, q12_25⟩, i15_25, i18_25, fun j hj => by rcases (show j = 0 ∨ j = 1 by omega) with rfl | rfl <;> first | exact i21_25 | exact i24_25⟩, j2_24, j5_24, j8_24, t12_24⟩⟩ (Nat.le_of_ble_eq_true rfl) (Nat.le_of_ble_eq_true rfl) dX5_init_100
