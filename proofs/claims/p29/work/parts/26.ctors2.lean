abbrev rm_X3_init : Room := { frames := 3, cells := 42, slots := 268, locals := 64 }
set_option maxHeartbeats 40000000 in
set_option maxRecDepth 100000 in
theorem c_X3_init (l : Launch) (D : va_G) (b : Nat) : xKC l yX3_init (Cond.code yX3_init cX3_init 2 none :: wG) rm_X3_init 42 268 D (fun ad => [.ref (ad (b))]) b 43 shB3 (fun ad Sh σ => xIs3 D ad (b + 43) Sh b ∧ xBg3 σ b) := by
  refine x_startC (own := RX3) (maxL := 2) (lv := fun ad => [(0, .ref (ad (b)))]) (by decide) rfl rfl rfl (fun _ => Nat.le_of_ble_eq_true rfl) (fun _ => rfl) (fun Γ ad0 Sh0 σ0 hl hnL hname hAO q0 t0 X0 => ?_)
  subst hl
  refine xr_aload_n (pc := 0) X0 (i := 0) 0 rfl rfl dX3_init_0 ?_
  refine xr_oinit (pc := 1) X0 wm_2_18 wm_1_8 wm_1_9 (Nat.le_of_ble_eq_true rfl) (Nat.le_of_ble_eq_true rfl) dX3_init_1 ?_
  refine xr_aload_n (pc := 4) X0 (i := 0) 0 rfl rfl dX3_init_4 ?_
  refine xr_iconst (pc := 5) X0 dX3_init_5 (v := 4) (by decide) ?_
  refine xr_newA (pc := 6) (t0 := 0) (N' := 4) X0 .int (shI D 4) (D.1 100) rfl (fun C h => by cases h) rfl wm_2_19 rfl rfl (by decide) (by decide) (by decide) (Nat.le_of_ble_eq_true rfl) (Nat.le_of_ble_eq_true rfl) dX3_init_6 (fun ad1 e1 X1 => ?_)
  obtain ⟨Sh1, y1⟩ : ∃ z, z = xupS Sh0 (b + 1) (shI D 4) := ⟨_, rfl⟩
  obtain ⟨σ1, w1⟩ : ∃ z, z = xz σ0 (b + 1) := ⟨_, rfl⟩
  rw [← y1, ← w1]
  have s1 : ∀ i, i < b + 1 → ad1 i = ad0 i ∧ Sh1 i = Sh0 i ∧ σ1 i = σ0 i := fun i hi => ⟨e1 i hi, by rw [y1]; exact if_neg (Nat.ne_of_lt hi), by rw [w1]; exact if_neg (Nat.ne_of_lt hi)⟩
  have q1 : Sh1 (b + 1) = (shI D 4) := by rw [y1]; exact if_pos rfl
  have t1 : σ1 (b + 1) = (fun _ => 0) := by rw [w1]; exact if_pos rfl
  clear e1 y1 w1
  have q0_1 : Sh1 (b) = (fun r => .inr (3, [.int (r 0), .int (r 1), .null, .null, .null])) := (s1 (b) (by omega)).2.1.trans q0
  have t0_1 : σ1 (b) = (fun _ => 0) := by rw [(s1 (b) (by omega)).2.2]; exact t0
  have cA1 : ∀ i, i ≤ b → ad1 i = ad0 i := fun i hi => (s1 i (by omega)).1
  have cH1 : ∀ i, i < b → Sh1 i = Sh0 i := fun i hi => (s1 i (by omega)).2.1
  have cG1 : ∀ i, i < b → σ1 i = σ0 i := fun i hi => (s1 i (by omega)).2.2
  clear q0 t0
  refine x_conv (lv2 := [(0, .ref (ad1 (b)))]) (st2 := [.ref (ad1 (b + 1)), .ref (ad1 (b))]) (by simp only [(s1 (b) (by omega)).1]) (by simp only [(s1 (b) (by omega)).1]) ?_
  replace X1 : xC Γ _ _ _ _ _ D ad1 (b + 2) := X1
  refine x_convN (N2 := b + 2) rfl ?_
  refine xr_putR (pc := 8) X1 hname (b) (b + 1) 2 _ (fun r => .inr (3, [.int (r 0), .int (r 1), .ref (ad1 (b + 1)), .null, .null])) (by omega) q0_1 rfl rfl (C := RX3) (T := TX3) (NF := 5) (tyf := tyX3) (ty := .array .int) rfl hinX3 tyX3_ok nmX3 (by omega) wm_2_20 rfl rfl (by decide +kernel) (fun _ => rfl) (fun _ => rfl) (Nat.le_of_ble_eq_true rfl) dX3_init_8 ?_
  obtain ⟨Sh2, y2⟩ : ∃ z, z = xupS Sh1 (b) (fun r => .inr (3, [.int (r 0), .int (r 1), .ref (ad1 (b + 1)), .null, .null])) := ⟨_, rfl⟩
  rw [← y2]
  have s2 : ∀ i, i ≠ b → Sh2 i = Sh1 i := fun i hb => by rw [y2]; exact if_neg hb
  have q2 : Sh2 (b) = (fun r => .inr (3, [.int (r 0), .int (r 1), .ref (ad1 (b + 1)), .null, .null])) := by rw [y2]; exact if_pos rfl
  clear y2
  have q1_2 : Sh2 (b + 1) = (shI D 4) := (s2 (b + 1) (by omega)).trans q1
  have cH2 : ∀ i, i < b → Sh2 i = Sh0 i := fun i hi => (s2 i (by omega)).trans (cH1 i hi)
  clear q0_1 q1 cH1
  refine xr_aload_n (pc := 11) X1 (i := 0) 0 rfl rfl dX3_init_11 ?_
  refine xr_new (pc := 12) X1 shB0 (C := RX0) (T := TX0) (NF := 4) (tyf := tyX0) rfl hinX0 tyX0_ok wm_2_21 wm_2_22 wm_2_23 rfl (fun j hj => by rcases (show j = 0 ∨ j = 1 ∨ j = 2 ∨ j = 3 by omega) with rfl | rfl | rfl | rfl <;> rfl) (Nat.le_of_ble_eq_true rfl) (Nat.le_of_ble_eq_true rfl) dX3_init_12 (fun ad3 e3 X3 => ?_)
  obtain ⟨Sh3, y3⟩ : ∃ z, z = xupS Sh2 (b + 2) shB0 := ⟨_, rfl⟩
  obtain ⟨σ3, w3⟩ : ∃ z, z = xz σ1 (b + 2) := ⟨_, rfl⟩
  rw [← y3, ← w3]
  have s3 : ∀ i, i < b + 2 → ad3 i = ad1 i ∧ Sh3 i = Sh2 i ∧ σ3 i = σ1 i := fun i hi => ⟨e3 i hi, by rw [y3]; exact if_neg (Nat.ne_of_lt hi), by rw [w3]; exact if_neg (Nat.ne_of_lt hi)⟩
  have q3 : Sh3 (b + 2) = shB0 := by rw [y3]; exact if_pos rfl
  have t3 : σ3 (b + 2) = (fun _ => 0) := by rw [w3]; exact if_pos rfl
  clear e3 y3 w3
  have q1_3 : Sh3 (b + 1) = (shI D 4) := (s3 (b + 1) (by omega)).2.1.trans q1_2
  have q2_3 : Sh3 (b) = (fun r => .inr (3, [.int (r 0), .int (r 1), .ref (ad3 (b + 1)), .null, .null])) := ((s3 (b) (by omega)).2.1.trans q2).trans (by simp only [(s3 (b + 1) (by omega)).1])
  have t0_3 : σ3 (b) = (fun _ => 0) := by rw [(s3 (b) (by omega)).2.2]; exact t0_1
  have t1_3 : σ3 (b + 1) = (fun _ => 0) := by rw [(s3 (b + 1) (by omega)).2.2]; exact t1
  have cA3 : ∀ i, i ≤ b → ad3 i = ad0 i := fun i hi => (s3 i (by omega)).1.trans (cA1 i hi)
  have cH3 : ∀ i, i < b → Sh3 i = Sh0 i := fun i hi => (s3 i (by omega)).2.1.trans (cH2 i hi)
  have cG3 : ∀ i, i < b → σ3 i = σ0 i := fun i hi => (s3 i (by omega)).2.2.trans (cG1 i hi)
  clear q1_2 q2 t0_1 t1 cA1 cH2 cG1
  refine x_conv (lv2 := [(0, .ref (ad3 (b)))]) (st2 := [.ref (ad3 (b + 2)), .ref (ad3 (b))]) (by simp only [(s3 (b) (by omega)).1]) (by simp only [(s3 (b) (by omega)).1]) ?_
  replace X3 : xC Γ _ _ _ _ _ D ad3 (b + 3) := X3
  refine x_convN (N2 := b + 3) rfl ?_
  refine xr_dup (pc := 15) X3 rfl dX3_init_15 ?_
  refine xr_bipush (pc := 16) X3 dX3_init_16 (v := 8) (by decide) ?_
  refine xr_callC (pc := 18) (na := 1) (b + 2) [.int 8] X3 hAO (c_X0_init8 Γ.2.1 D _) q3 t3 rfl (wG_1 wm_3_7) rfl rfl rfl (List.mem_cons_of_mem _ wm_2_23) (List.mem_cons_of_mem _ wm_3_5) (List.mem_cons_of_mem _ wm_3_6) rfl (by decide +kernel) ⟨(Nat.le_of_ble_eq_true rfl), (Nat.le_of_ble_eq_true rfl)⟩ rfl rfl (Nat.le_of_ble_eq_true rfl) ⟨(Nat.le_of_ble_eq_true rfl), (Nat.le_of_ble_eq_true rfl)⟩ dX3_init_18 (fun ad4 Sh4 σ4 p4 X4 => ?_)
  have s4 : ∀ i, i < b + 2 → ad4 i = ad3 i ∧ Sh4 i = Sh3 i ∧ σ4 i = σ3 i := fun i hi => ⟨p4.1 i (by omega), (p4.2.1 i hi).1, (p4.2.1 i hi).2⟩
  have n4 := p4.2.2
  have r4 : ad4 (b + 2) = ad3 (b + 2) := p4.1 _ (Nat.le_refl _)
  clear p4
  replace X4 : xC Γ _ _ _ _ _ D ad4 (b + 6) := X4
  refine x_convN (N2 := b + 6) rfl ?_
  have q1_4 : Sh4 (b + 1) = (shI D 4) := (s4 (b + 1) (by omega)).2.1.trans q1_3
  have q2_4 : Sh4 (b) = (fun r => .inr (3, [.int (r 0), .int (r 1), .ref (ad4 (b + 1)), .null, .null])) := ((s4 (b) (by omega)).2.1.trans q2_3).trans (by simp only [(s4 (b + 1) (by omega)).1])
  have t0_4 : σ4 (b) = (fun _ => 0) := by rw [(s4 (b) (by omega)).2.2]; exact t0_3
  have t1_4 : σ4 (b + 1) = (fun _ => 0) := by rw [(s4 (b + 1) (by omega)).2.2]; exact t1_3
  have cA4 : ∀ i, i ≤ b → ad4 i = ad0 i := fun i hi => (s4 i (by omega)).1.trans (cA3 i hi)
  have cH4 : ∀ i, i < b → Sh4 i = Sh0 i := fun i hi => (s4 i (by omega)).2.1.trans (cH3 i hi)
  have cG4 : ∀ i, i < b → σ4 i = σ0 i := fun i hi => (s4 i (by omega)).2.2.trans (cG3 i hi)
  clear q1_3 q2_3 t0_3 t1_3 cA3 cH3 cG3
  have i4 : xIs0 D ad4 (b + 6) Sh4 8 (b + 2) := n4
  refine x_conv (lv2 := [(0, .ref (ad4 (b)))]) (st2 := [.ref (ad4 (b + 2)), .ref (ad4 (b))]) (by simp only [(s4 (b) (by omega)).1]) (by simp only [r4, (s4 (b) (by omega)).1]) ?_
  refine xr_putR (pc := 21) X4 hname (b) (b + 2) 3 _ (fun r => .inr (3, [.int (r 0), .int (r 1), .ref (ad4 (b + 1)), .ref (ad4 (b + 2)), .null])) (by omega) q2_4 rfl rfl (C := RX3) (T := TX3) (NF := 5) (tyf := tyX3) (ty := .object "HeldNotes$Dated") rfl hinX3 tyX3_ok nmX3 (by omega) wm_3_0 rfl rfl (by decide +kernel) (fun _ => rfl) (fun _ => rfl) (Nat.le_of_ble_eq_true rfl) dX3_init_21 ?_
  obtain ⟨Sh5, y5⟩ : ∃ z, z = xupS Sh4 (b) (fun r => .inr (3, [.int (r 0), .int (r 1), .ref (ad4 (b + 1)), .ref (ad4 (b + 2)), .null])) := ⟨_, rfl⟩
  rw [← y5]
  have s5 : ∀ i, i ≠ b → Sh5 i = Sh4 i := fun i hb => by rw [y5]; exact if_neg hb
  have q5 : Sh5 (b) = (fun r => .inr (3, [.int (r 0), .int (r 1), .ref (ad4 (b + 1)), .ref (ad4 (b + 2)), .null])) := by rw [y5]; exact if_pos rfl
  clear y5
  have q1_5 : Sh5 (b + 1) = (shI D 4) := (s5 (b + 1) (by omega)).trans q1_4
  have i4_5 : xIs0 D ad4 (b + 6) Sh5 8 (b + 2) := xIs0_ex i4 (fun i h1 h2 => ⟨rfl, s5 i (by omega)⟩) (by omega)
  have cH5 : ∀ i, i < b → Sh5 i = Sh0 i := fun i hi => (s5 i (by omega)).trans (cH4 i hi)
  clear q1_4 q2_4 i4 cH4
  refine xr_aload_n (pc := 24) X4 (i := 0) 0 rfl rfl dX3_init_24 ?_
  refine xr_iconst (pc := 25) X4 dX3_init_25 (v := 4) (by decide) ?_
  refine xr_newq (pc := 26) (t0 := 4) (N' := 4) (cid := D.1 104) X4 (fun _ => .inl (D.1 104, 4, .inr (.inr (.inr (.inr (fun _ => none)))))) hAO.1 wm_3_1 rfl rfl (by decide) (by decide) (by decide) (Nat.le_of_ble_eq_true rfl) (Nat.le_of_ble_eq_true rfl) dX3_init_26 (fun ad6 e6 X6 => ?_)
  obtain ⟨Sh6, y6⟩ : ∃ z, z = xupS Sh5 (b + 6) (fun _ => .inl (D.1 104, 4, .inr (.inr (.inr (.inr (fun _ => none)))))) := ⟨_, rfl⟩
  obtain ⟨σ6, w6⟩ : ∃ z, z = xz σ4 (b + 6) := ⟨_, rfl⟩
  rw [← y6, ← w6]
  have s6 : ∀ i, i < b + 6 → ad6 i = ad4 i ∧ Sh6 i = Sh5 i ∧ σ6 i = σ4 i := fun i hi => ⟨e6 i hi, by rw [y6]; exact if_neg (Nat.ne_of_lt hi), by rw [w6]; exact if_neg (Nat.ne_of_lt hi)⟩
  have q6 : Sh6 (b + 6) = (fun _ => .inl (D.1 104, 4, .inr (.inr (.inr (.inr (fun _ => none)))))) := by rw [y6]; exact if_pos rfl
  have t6 : σ6 (b + 6) = (fun _ => 0) := by rw [w6]; exact if_pos rfl
  clear e6 y6 w6
  have q1_6 : Sh6 (b + 1) = (shI D 4) := (s6 (b + 1) (by omega)).2.1.trans q1_5
  have i4_6 : xIs0 D ad6 (b + 7) Sh6 8 (b + 2) := xIs0_ex i4_5 (fun i h1 h2 => ⟨(s6 i (by omega)).1, (s6 i (by omega)).2.1⟩) (by omega)
  have q5_6 : Sh6 (b) = (fun r => .inr (3, [.int (r 0), .int (r 1), .ref (ad6 (b + 1)), .ref (ad6 (b + 2)), .null])) := ((s6 (b) (by omega)).2.1.trans q5).trans (by simp only [(s6 (b + 1) (by omega)).1, (s6 (b + 2) (by omega)).1])
  have t0_6 : σ6 (b) = (fun _ => 0) := by rw [(s6 (b) (by omega)).2.2]; exact t0_4
  have t1_6 : σ6 (b + 1) = (fun _ => 0) := by rw [(s6 (b + 1) (by omega)).2.2]; exact t1_4
  have cA6 : ∀ i, i ≤ b → ad6 i = ad0 i := fun i hi => (s6 i (by omega)).1.trans (cA4 i hi)
  have cH6 : ∀ i, i < b → Sh6 i = Sh0 i := fun i hi => (s6 i (by omega)).2.1.trans (cH5 i hi)
  have cG6 : ∀ i, i < b → σ6 i = σ0 i := fun i hi => (s6 i (by omega)).2.2.trans (cG4 i hi)
  clear q1_5 i4_5 q5 t0_4 t1_4 cA4 cH5 cG4
  refine x_conv (lv2 := [(0, .ref (ad6 (b)))]) (st2 := [.ref (ad6 (b + 6)), .ref (ad6 (b))]) (by simp only [(s6 (b) (by omega)).1]) (by simp only [(s6 (b) (by omega)).1]) ?_
  replace X6 : xC Γ _ _ _ _ _ D ad6 (b + 7) := X6
  refine x_convN (N2 := b + 7) rfl ?_
  refine xr_putR (pc := 29) X6 hname (b) (b + 6) 4 _ (fun r => .inr (3, [.int (r 0), .int (r 1), .ref (ad6 (b + 1)), .ref (ad6 (b + 2)), .ref (ad6 (b + 6))])) (by omega) q5_6 rfl rfl (C := RX3) (T := TX3) (NF := 5) (tyf := tyX3) (ty := .array (.object "HeldNotes$Pair")) rfl hinX3 tyX3_ok nmX3 (by omega) wm_3_2 rfl rfl (by decide +kernel) (fun _ => rfl) (fun _ => rfl) (Nat.le_of_ble_eq_true rfl) dX3_init_29 ?_
  obtain ⟨Sh7, y7⟩ : ∃ z, z = xupS Sh6 (b) (fun r => .inr (3, [.int (r 0), .int (r 1), .ref (ad6 (b + 1)), .ref (ad6 (b + 2)), .ref (ad6 (b + 6))])) := ⟨_, rfl⟩
  rw [← y7]
  have s7 : ∀ i, i ≠ b → Sh7 i = Sh6 i := fun i hb => by rw [y7]; exact if_neg hb
  have q7 : Sh7 (b) = (fun r => .inr (3, [.int (r 0), .int (r 1), .ref (ad6 (b + 1)), .ref (ad6 (b + 2)), .ref (ad6 (b + 6))])) := by rw [y7]; exact if_pos rfl
  clear y7
  have q1_7 : Sh7 (b + 1) = (shI D 4) := (s7 (b + 1) (by omega)).trans q1_6
  have i4_7 : xIs0 D ad6 (b + 7) Sh7 8 (b + 2) := xIs0_ex i4_6 (fun i h1 h2 => ⟨rfl, s7 i (by omega)⟩) (by omega)
  have q6_7 : Sh7 (b + 6) = (fun _ => .inl (D.1 104, 4, .inr (.inr (.inr (.inr (fun _ => none)))))) := (s7 (b + 6) (by omega)).trans q6
  have cH7 : ∀ i, i < b → Sh7 i = Sh0 i := fun i hi => (s7 i (by omega)).trans (cH6 i hi)
  clear q1_6 i4_6 q5_6 q6 cH6
  refine xr_iconst (pc := 32) X6 dX3_init_32 (v := 0) (by decide) ?_
  refine xr_istore_n (pc := 33) X6 (hf := rfl) (i := 1) [1, 0] (Nat.le_of_ble_eq_true rfl) hnL rfl dX3_init_33 ?_
  refine x_conv (lv2 := [(0, .ref (ad6 (b))), (1, .int 0)]) (st2 := []) rfl rfl ?_
  refine xr_iload_n (pc := 34) X6 (i := 1) 1 rfl rfl dX3_init_34 ?_
  refine xr_iconst (pc := 35) X6 dX3_init_35 (v := 4) (by decide) ?_
  refine x_convE (ex2 := if (4 : Int32) ≤ (0 : Int32) then some () else some ()) (by decide) ?_
  refine xr_icmp_ge (pc := 36) X6 59 (by decide) dX3_init_36 (fun hc => absurd hc (by decide)) (fun hc => ?_)
  refine xr_aload_n (pc := 39) X6 (i := 0) 0 rfl rfl dX3_init_39 ?_
  refine xr_getB (pc := 40) X6 (b) 4 (by omega) (by rw [q7]) (C := RX3) (T := TX3) (NF := 5) rfl hinX3 (by omega) wm_3_2 rfl rfl dX3_init_40 ?_
  refine xr_iload_n (pc := 43) X6 (i := 1) 1 rfl rfl dX3_init_43 ?_
  refine xr_new (pc := 44) X6 shB2 (C := RX2) (T := TX2) (NF := 14) (tyf := tyX2) rfl hinX2 tyX2_ok wm_3_1 wm_3_3 wm_3_4 rfl (fun j hj => by rcases (show j = 0 ∨ j = 1 ∨ j = 2 ∨ j = 3 ∨ j = 4 ∨ j = 5 ∨ j = 6 ∨ j = 7 ∨ j = 8 ∨ j = 9 ∨ j = 10 ∨ j = 11 ∨ j = 12 ∨ j = 13 by omega) with rfl | rfl | rfl | rfl | rfl | rfl | rfl | rfl | rfl | rfl | rfl | rfl | rfl | rfl <;> rfl) (Nat.le_of_ble_eq_true rfl) (Nat.le_of_ble_eq_true rfl) dX3_init_44 (fun ad8 e8 X8 => ?_)
  obtain ⟨Sh8, y8⟩ : ∃ z, z = xupS Sh7 (b + 7) shB2 := ⟨_, rfl⟩
  obtain ⟨σ8, w8⟩ : ∃ z, z = xz σ6 (b + 7) := ⟨_, rfl⟩
  rw [← y8, ← w8]
  have s8 : ∀ i, i < b + 7 → ad8 i = ad6 i ∧ Sh8 i = Sh7 i ∧ σ8 i = σ6 i := fun i hi => ⟨e8 i hi, by rw [y8]; exact if_neg (Nat.ne_of_lt hi), by rw [w8]; exact if_neg (Nat.ne_of_lt hi)⟩
  have q8 : Sh8 (b + 7) = shB2 := by rw [y8]; exact if_pos rfl
  have t8 : σ8 (b + 7) = (fun _ => 0) := by rw [w8]; exact if_pos rfl
  clear e8 y8 w8
  have q1_8 : Sh8 (b + 1) = (shI D 4) := (s8 (b + 1) (by omega)).2.1.trans q1_7
  have i4_8 : xIs0 D ad8 (b + 8) Sh8 8 (b + 2) := xIs0_ex i4_7 (fun i h1 h2 => ⟨(s8 i (by omega)).1, (s8 i (by omega)).2.1⟩) (by omega)
  have q6_8 : Sh8 (b + 6) = (fun _ => .inl (D.1 104, 4, .inr (.inr (.inr (.inr (fun _ => none)))))) := (s8 (b + 6) (by omega)).2.1.trans q6_7
  have q7_8 : Sh8 (b) = (fun r => .inr (3, [.int (r 0), .int (r 1), .ref (ad8 (b + 1)), .ref (ad8 (b + 2)), .ref (ad8 (b + 6))])) := ((s8 (b) (by omega)).2.1.trans q7).trans (by simp only [(s8 (b + 1) (by omega)).1, (s8 (b + 2) (by omega)).1, (s8 (b + 6) (by omega)).1])
  have t0_8 : σ8 (b) = (fun _ => 0) := by rw [(s8 (b) (by omega)).2.2]; exact t0_6
  have t1_8 : σ8 (b + 1) = (fun _ => 0) := by rw [(s8 (b + 1) (by omega)).2.2]; exact t1_6
  have t6_8 : σ8 (b + 6) = (fun _ => 0) := by rw [(s8 (b + 6) (by omega)).2.2]; exact t6
  have cA8 : ∀ i, i ≤ b → ad8 i = ad0 i := fun i hi => (s8 i (by omega)).1.trans (cA6 i hi)
  have cH8 : ∀ i, i < b → Sh8 i = Sh0 i := fun i hi => (s8 i (by omega)).2.1.trans (cH7 i hi)
  have cG8 : ∀ i, i < b → σ8 i = σ0 i := fun i hi => (s8 i (by omega)).2.2.trans (cG6 i hi)
  clear q1_7 i4_7 q6_7 q7 t0_6 t1_6 t6 cA6 cH7 cG6
  refine x_conv (lv2 := [(0, .ref (ad8 (b))), (1, .int 0)]) (st2 := [.ref (ad8 (b + 7)), .int 0, .ref (ad8 (b + 6))]) (by simp only [(s8 (b) (by omega)).1]) (by simp only [(s8 (b + 6) (by omega)).1]) ?_
  replace X8 : xC Γ _ _ _ _ _ D ad8 (b + 8) := X8
  refine x_convN (N2 := b + 8) rfl ?_
  refine xr_dup (pc := 47) X8 rfl dX3_init_47 ?_
  refine xr_iload_n (pc := 48) X8 (i := 1) 1 rfl rfl dX3_init_48 ?_
  refine xr_callC (pc := 49) (na := 1) (b + 7) [.int 0] X8 hAO (c_X2_init Γ.2.1 D _ 0) q8 t8 rfl (wG_1 wm_3_19) rfl rfl rfl (List.mem_cons_of_mem _ wm_3_4) (List.mem_cons_of_mem _ wm_3_17) (List.mem_cons_of_mem _ wm_3_18) rfl (by decide +kernel) ⟨(Nat.le_of_ble_eq_true rfl), (Nat.le_of_ble_eq_true rfl)⟩ rfl rfl (Nat.le_of_ble_eq_true rfl) ⟨(Nat.le_of_ble_eq_true rfl), (Nat.le_of_ble_eq_true rfl)⟩ dX3_init_49 (fun ad9 Sh9 σ9 p9 X9 => ?_)
  have s9 : ∀ i, i < b + 7 → ad9 i = ad8 i ∧ Sh9 i = Sh8 i ∧ σ9 i = σ8 i := fun i hi => ⟨p9.1 i (by omega), (p9.2.1 i hi).1, (p9.2.1 i hi).2⟩
  have n9 := p9.2.2
  have r9 : ad9 (b + 7) = ad8 (b + 7) := p9.1 _ (Nat.le_refl _)
  clear p9
  replace X9 : xC Γ _ _ _ _ _ D ad9 (b + 16) := X9
  refine x_convN (N2 := b + 16) rfl ?_
  have q1_9 : Sh9 (b + 1) = (shI D 4) := (s9 (b + 1) (by omega)).2.1.trans q1_8
  have i4_9 : xIs0 D ad9 (b + 16) Sh9 8 (b + 2) := xIs0_ex i4_8 (fun i h1 h2 => ⟨(s9 i (by omega)).1, (s9 i (by omega)).2.1⟩) (by omega)
  have q6_9 : Sh9 (b + 6) = (fun _ => .inl (D.1 104, 4, .inr (.inr (.inr (.inr (fun _ => none)))))) := (s9 (b + 6) (by omega)).2.1.trans q6_8
  have q7_9 : Sh9 (b) = (fun r => .inr (3, [.int (r 0), .int (r 1), .ref (ad9 (b + 1)), .ref (ad9 (b + 2)), .ref (ad9 (b + 6))])) := ((s9 (b) (by omega)).2.1.trans q7_8).trans (by simp only [(s9 (b + 1) (by omega)).1, (s9 (b + 2) (by omega)).1, (s9 (b + 6) (by omega)).1])
  have t0_9 : σ9 (b) = (fun _ => 0) := by rw [(s9 (b) (by omega)).2.2]; exact t0_8
  have t1_9 : σ9 (b + 1) = (fun _ => 0) := by rw [(s9 (b + 1) (by omega)).2.2]; exact t1_8
  have t6_9 : σ9 (b + 6) = (fun _ => 0) := by rw [(s9 (b + 6) (by omega)).2.2]; exact t6_8
  have cA9 : ∀ i, i ≤ b → ad9 i = ad0 i := fun i hi => (s9 i (by omega)).1.trans (cA8 i hi)
  have cH9 : ∀ i, i < b → Sh9 i = Sh0 i := fun i hi => (s9 i (by omega)).2.1.trans (cH8 i hi)
  have cG9 : ∀ i, i < b → σ9 i = σ0 i := fun i hi => (s9 i (by omega)).2.2.trans (cG8 i hi)
  clear q1_8 i4_8 q6_8 q7_8 t0_8 t1_8 t6_8 cA8 cH8 cG8
  have i9 : xIs2 D ad9 (b + 16) Sh9 (b + 7) := n9
  refine x_conv (lv2 := [(0, .ref (ad9 (b))), (1, .int 0)]) (st2 := [.ref (ad9 (b + 7)), .int 0, .ref (ad9 (b + 6))]) (by simp only [(s9 (b) (by omega)).1]) (by simp only [r9, (s9 (b + 6) (by omega)).1]) ?_
  refine xr_astq (pc := 52) (t0 := 4) (n0 := 4) (cid := D.1 104) X9 (b + 6) (b + 7) (fun _ => .inl (D.1 104, 4, .inr (.inr (.inr (.inr (va_up (fun _ => none) 0 (some (ad9 (b + 7))))))))) (by omega) (by omega) (by rw [q6_9]) rfl (by rw [i9.1.2]; rfl) (C := RX2) (T := TX2) (NF := 14) (ci := 2) rfl (vp_in_nI (n := 0) (N := 4) (by decide) (by decide)) rfl dX3_init_52 ?_
  obtain ⟨Sh10, y10⟩ : ∃ z, z = xupS Sh9 (b + 6) (fun _ => .inl (D.1 104, 4, .inr (.inr (.inr (.inr (va_up (fun _ => none) 0 (some (ad9 (b + 7))))))))) := ⟨_, rfl⟩
  rw [← y10]
  have s10 : ∀ i, i ≠ b + 6 → Sh10 i = Sh9 i := fun i hb => by rw [y10]; exact if_neg hb
  have q10 : Sh10 (b + 6) = (fun _ => .inl (D.1 104, 4, .inr (.inr (.inr (.inr (va_up (fun _ => none) 0 (some (ad9 (b + 7))))))))) := by rw [y10]; exact if_pos rfl
  clear y10
  have q1_10 : Sh10 (b + 1) = (shI D 4) := (s10 (b + 1) (by omega)).trans q1_9
  have i4_10 : xIs0 D ad9 (b + 16) Sh10 8 (b + 2) := xIs0_ex i4_9 (fun i h1 h2 => ⟨rfl, s10 i (by omega)⟩) (by omega)
  have q7_10 : Sh10 (b) = (fun r => .inr (3, [.int (r 0), .int (r 1), .ref (ad9 (b + 1)), .ref (ad9 (b + 2)), .ref (ad9 (b + 6))])) := (s10 (b) (by omega)).trans q7_9
  have i9_10 : xIs2 D ad9 (b + 16) Sh10 (b + 7) := xIs2_ex i9 (fun i h1 h2 => ⟨rfl, s10 i (by omega)⟩) (by omega)
  have cH10 : ∀ i, i < b → Sh10 i = Sh0 i := fun i hi => (s10 i (by omega)).trans (cH9 i hi)
  clear q1_9 i4_9 q6_9 q7_9 i9 cH9
  refine xr_iincC (pc := 53) X9 (i := 1) (j := 1) (v := 1) [1, 0] (Nat.le_of_ble_eq_true rfl) hnL rfl (by decide) rfl dX3_init_53 ?_
  refine x_conv (lv2 := [(0, .ref (ad9 (b))), (1, .int 1)]) (st2 := []) rfl rfl ?_
  refine xr_goto (pc := 56) X9 34 (by decide) dX3_init_56 ?_
  refine xr_iload_n (pc := 34) X9 (i := 1) 1 rfl rfl dX3_init_34 ?_
  refine xr_iconst (pc := 35) X9 dX3_init_35 (v := 4) (by decide) ?_
  refine x_convE (ex2 := if (4 : Int32) ≤ (1 : Int32) then some () else some ()) (by decide) ?_
  refine xr_icmp_ge (pc := 36) X9 59 (by decide) dX3_init_36 (fun hc => absurd hc (by decide)) (fun hc => ?_)
  refine xr_aload_n (pc := 39) X9 (i := 0) 0 rfl rfl dX3_init_39 ?_
  refine xr_getB (pc := 40) X9 (b) 4 (by omega) (by rw [q7_10]) (C := RX3) (T := TX3) (NF := 5) rfl hinX3 (by omega) wm_3_2 rfl rfl dX3_init_40 ?_
  refine xr_iload_n (pc := 43) X9 (i := 1) 1 rfl rfl dX3_init_43 ?_
  refine xr_new (pc := 44) X9 shB2 (C := RX2) (T := TX2) (NF := 14) (tyf := tyX2) rfl hinX2 tyX2_ok wm_3_1 wm_3_3 wm_3_4 rfl (fun j hj => by rcases (show j = 0 ∨ j = 1 ∨ j = 2 ∨ j = 3 ∨ j = 4 ∨ j = 5 ∨ j = 6 ∨ j = 7 ∨ j = 8 ∨ j = 9 ∨ j = 10 ∨ j = 11 ∨ j = 12 ∨ j = 13 by omega) with rfl | rfl | rfl | rfl | rfl | rfl | rfl | rfl | rfl | rfl | rfl | rfl | rfl | rfl <;> rfl) (Nat.le_of_ble_eq_true rfl) (Nat.le_of_ble_eq_true rfl) dX3_init_44 (fun ad11 e11 X11 => ?_)
  obtain ⟨Sh11, y11⟩ : ∃ z, z = xupS Sh10 (b + 16) shB2 := ⟨_, rfl⟩
  obtain ⟨σ11, w11⟩ : ∃ z, z = xz σ9 (b + 16) := ⟨_, rfl⟩
  rw [← y11, ← w11]
  have s11 : ∀ i, i < b + 16 → ad11 i = ad9 i ∧ Sh11 i = Sh10 i ∧ σ11 i = σ9 i := fun i hi => ⟨e11 i hi, by rw [y11]; exact if_neg (Nat.ne_of_lt hi), by rw [w11]; exact if_neg (Nat.ne_of_lt hi)⟩
  have q11 : Sh11 (b + 16) = shB2 := by rw [y11]; exact if_pos rfl
  have t11 : σ11 (b + 16) = (fun _ => 0) := by rw [w11]; exact if_pos rfl
  clear e11 y11 w11
  have q1_11 : Sh11 (b + 1) = (shI D 4) := (s11 (b + 1) (by omega)).2.1.trans q1_10
  have i4_11 : xIs0 D ad11 (b + 17) Sh11 8 (b + 2) := xIs0_ex i4_10 (fun i h1 h2 => ⟨(s11 i (by omega)).1, (s11 i (by omega)).2.1⟩) (by omega)
  have q7_11 : Sh11 (b) = (fun r => .inr (3, [.int (r 0), .int (r 1), .ref (ad11 (b + 1)), .ref (ad11 (b + 2)), .ref (ad11 (b + 6))])) := ((s11 (b) (by omega)).2.1.trans q7_10).trans (by simp only [(s11 (b + 1) (by omega)).1, (s11 (b + 2) (by omega)).1, (s11 (b + 6) (by omega)).1])
  have i9_11 : xIs2 D ad11 (b + 17) Sh11 (b + 7) := xIs2_ex i9_10 (fun i h1 h2 => ⟨(s11 i (by omega)).1, (s11 i (by omega)).2.1⟩) (by omega)
  have q10_11 : Sh11 (b + 6) = (fun _ => .inl (D.1 104, 4, .inr (.inr (.inr (.inr (va_up (fun _ => none) 0 (some (ad11 (b + 7))))))))) := ((s11 (b + 6) (by omega)).2.1.trans q10).trans (by simp only [(s11 (b + 7) (by omega)).1])
  have t0_11 : σ11 (b) = (fun _ => 0) := by rw [(s11 (b) (by omega)).2.2]; exact t0_9
  have t1_11 : σ11 (b + 1) = (fun _ => 0) := by rw [(s11 (b + 1) (by omega)).2.2]; exact t1_9
  have t6_11 : σ11 (b + 6) = (fun _ => 0) := by rw [(s11 (b + 6) (by omega)).2.2]; exact t6_9
  have cA11 : ∀ i, i ≤ b → ad11 i = ad0 i := fun i hi => (s11 i (by omega)).1.trans (cA9 i hi)
  have cH11 : ∀ i, i < b → Sh11 i = Sh0 i := fun i hi => (s11 i (by omega)).2.1.trans (cH10 i hi)
  have cG11 : ∀ i, i < b → σ11 i = σ0 i := fun i hi => (s11 i (by omega)).2.2.trans (cG9 i hi)
  clear q1_10 i4_10 q7_10 i9_10 q10 t0_9 t1_9 t6_9 cA9 cH10 cG9
  refine x_conv (lv2 := [(0, .ref (ad11 (b))), (1, .int 1)]) (st2 := [.ref (ad11 (b + 16)), .int 1, .ref (ad11 (b + 6))]) (by simp only [(s11 (b) (by omega)).1]) (by simp only [(s11 (b + 6) (by omega)).1]) ?_
  replace X11 : xC Γ _ _ _ _ _ D ad11 (b + 17) := X11
  refine x_convN (N2 := b + 17) rfl ?_
  refine xr_dup (pc := 47) X11 rfl dX3_init_47 ?_
  refine xr_iload_n (pc := 48) X11 (i := 1) 1 rfl rfl dX3_init_48 ?_
  refine xr_callC (pc := 49) (na := 1) (b + 16) [.int 1] X11 hAO (c_X2_init Γ.2.1 D _ 1) q11 t11 rfl (wG_1 wm_3_19) rfl rfl rfl (List.mem_cons_of_mem _ wm_3_4) (List.mem_cons_of_mem _ wm_3_17) (List.mem_cons_of_mem _ wm_3_18) rfl (by decide +kernel) ⟨(Nat.le_of_ble_eq_true rfl), (Nat.le_of_ble_eq_true rfl)⟩ rfl rfl (Nat.le_of_ble_eq_true rfl) ⟨(Nat.le_of_ble_eq_true rfl), (Nat.le_of_ble_eq_true rfl)⟩ dX3_init_49 (fun ad12 Sh12 σ12 p12 X12 => ?_)
  have s12 : ∀ i, i < b + 16 → ad12 i = ad11 i ∧ Sh12 i = Sh11 i ∧ σ12 i = σ11 i := fun i hi => ⟨p12.1 i (by omega), (p12.2.1 i hi).1, (p12.2.1 i hi).2⟩
  have n12 := p12.2.2
  have r12 : ad12 (b + 16) = ad11 (b + 16) := p12.1 _ (Nat.le_refl _)
  clear p12
  replace X12 : xC Γ _ _ _ _ _ D ad12 (b + 25) := X12
  refine x_convN (N2 := b + 25) rfl ?_
  have q1_12 : Sh12 (b + 1) = (shI D 4) := (s12 (b + 1) (by omega)).2.1.trans q1_11
  have i4_12 : xIs0 D ad12 (b + 25) Sh12 8 (b + 2) := xIs0_ex i4_11 (fun i h1 h2 => ⟨(s12 i (by omega)).1, (s12 i (by omega)).2.1⟩) (by omega)
  have q7_12 : Sh12 (b) = (fun r => .inr (3, [.int (r 0), .int (r 1), .ref (ad12 (b + 1)), .ref (ad12 (b + 2)), .ref (ad12 (b + 6))])) := ((s12 (b) (by omega)).2.1.trans q7_11).trans (by simp only [(s12 (b + 1) (by omega)).1, (s12 (b + 2) (by omega)).1, (s12 (b + 6) (by omega)).1])
  have i9_12 : xIs2 D ad12 (b + 25) Sh12 (b + 7) := xIs2_ex i9_11 (fun i h1 h2 => ⟨(s12 i (by omega)).1, (s12 i (by omega)).2.1⟩) (by omega)
  have q10_12 : Sh12 (b + 6) = (fun _ => .inl (D.1 104, 4, .inr (.inr (.inr (.inr (va_up (fun _ => none) 0 (some (ad12 (b + 7))))))))) := ((s12 (b + 6) (by omega)).2.1.trans q10_11).trans (by simp only [(s12 (b + 7) (by omega)).1])
  have t0_12 : σ12 (b) = (fun _ => 0) := by rw [(s12 (b) (by omega)).2.2]; exact t0_11
  have t1_12 : σ12 (b + 1) = (fun _ => 0) := by rw [(s12 (b + 1) (by omega)).2.2]; exact t1_11
  have t6_12 : σ12 (b + 6) = (fun _ => 0) := by rw [(s12 (b + 6) (by omega)).2.2]; exact t6_11
  have cA12 : ∀ i, i ≤ b → ad12 i = ad0 i := fun i hi => (s12 i (by omega)).1.trans (cA11 i hi)
  have cH12 : ∀ i, i < b → Sh12 i = Sh0 i := fun i hi => (s12 i (by omega)).2.1.trans (cH11 i hi)
  have cG12 : ∀ i, i < b → σ12 i = σ0 i := fun i hi => (s12 i (by omega)).2.2.trans (cG11 i hi)
  clear q1_11 i4_11 q7_11 i9_11 q10_11 t0_11 t1_11 t6_11 cA11 cH11 cG11
  have i12 : xIs2 D ad12 (b + 25) Sh12 (b + 16) := n12
  refine x_conv (lv2 := [(0, .ref (ad12 (b))), (1, .int 1)]) (st2 := [.ref (ad12 (b + 16)), .int 1, .ref (ad12 (b + 6))]) (by simp only [(s12 (b) (by omega)).1]) (by simp only [r12, (s12 (b + 6) (by omega)).1]) ?_
  refine xr_astq (pc := 52) (t0 := 4) (n0 := 4) (cid := D.1 104) X12 (b + 6) (b + 16) (fun _ => .inl (D.1 104, 4, .inr (.inr (.inr (.inr (va_up (va_up (fun _ => none) 0 (some (ad12 (b + 7)))) 1 (some (ad12 (b + 16))))))))) (by omega) (by omega) (by rw [q10_12]) rfl (by rw [i12.1.2]; rfl) (C := RX2) (T := TX2) (NF := 14) (ci := 2) rfl (vp_in_nI (n := 1) (N := 4) (by decide) (by decide)) rfl dX3_init_52 ?_
  obtain ⟨Sh13, y13⟩ : ∃ z, z = xupS Sh12 (b + 6) (fun _ => .inl (D.1 104, 4, .inr (.inr (.inr (.inr (va_up (va_up (fun _ => none) 0 (some (ad12 (b + 7)))) 1 (some (ad12 (b + 16))))))))) := ⟨_, rfl⟩
  rw [← y13]
  have s13 : ∀ i, i ≠ b + 6 → Sh13 i = Sh12 i := fun i hb => by rw [y13]; exact if_neg hb
  have q13 : Sh13 (b + 6) = (fun _ => .inl (D.1 104, 4, .inr (.inr (.inr (.inr (va_up (va_up (fun _ => none) 0 (some (ad12 (b + 7)))) 1 (some (ad12 (b + 16))))))))) := by rw [y13]; exact if_pos rfl
  clear y13
  have q1_13 : Sh13 (b + 1) = (shI D 4) := (s13 (b + 1) (by omega)).trans q1_12
  have i4_13 : xIs0 D ad12 (b + 25) Sh13 8 (b + 2) := xIs0_ex i4_12 (fun i h1 h2 => ⟨rfl, s13 i (by omega)⟩) (by omega)
  have q7_13 : Sh13 (b) = (fun r => .inr (3, [.int (r 0), .int (r 1), .ref (ad12 (b + 1)), .ref (ad12 (b + 2)), .ref (ad12 (b + 6))])) := (s13 (b) (by omega)).trans q7_12
  have i9_13 : xIs2 D ad12 (b + 25) Sh13 (b + 7) := xIs2_ex i9_12 (fun i h1 h2 => ⟨rfl, s13 i (by omega)⟩) (by omega)
  have i12_13 : xIs2 D ad12 (b + 25) Sh13 (b + 16) := xIs2_ex i12 (fun i h1 h2 => ⟨rfl, s13 i (by omega)⟩) (by omega)
  have cH13 : ∀ i, i < b → Sh13 i = Sh0 i := fun i hi => (s13 i (by omega)).trans (cH12 i hi)
  clear q1_12 i4_12 q7_12 i9_12 q10_12 i12 cH12
  refine xr_iincC (pc := 53) X12 (i := 1) (j := 1) (v := 2) [1, 0] (Nat.le_of_ble_eq_true rfl) hnL rfl (by decide) rfl dX3_init_53 ?_
  refine x_conv (lv2 := [(0, .ref (ad12 (b))), (1, .int 2)]) (st2 := []) rfl rfl ?_
  refine xr_goto (pc := 56) X12 34 (by decide) dX3_init_56 ?_
  refine xr_iload_n (pc := 34) X12 (i := 1) 1 rfl rfl dX3_init_34 ?_
  refine xr_iconst (pc := 35) X12 dX3_init_35 (v := 4) (by decide) ?_
  refine x_convE (ex2 := if (4 : Int32) ≤ (2 : Int32) then some () else some ()) (by decide) ?_
  refine xr_icmp_ge (pc := 36) X12 59 (by decide) dX3_init_36 (fun hc => absurd hc (by decide)) (fun hc => ?_)
  refine xr_aload_n (pc := 39) X12 (i := 0) 0 rfl rfl dX3_init_39 ?_
  refine xr_getB (pc := 40) X12 (b) 4 (by omega) (by rw [q7_13]) (C := RX3) (T := TX3) (NF := 5) rfl hinX3 (by omega) wm_3_2 rfl rfl dX3_init_40 ?_
  refine xr_iload_n (pc := 43) X12 (i := 1) 1 rfl rfl dX3_init_43 ?_
  refine xr_new (pc := 44) X12 shB2 (C := RX2) (T := TX2) (NF := 14) (tyf := tyX2) rfl hinX2 tyX2_ok wm_3_1 wm_3_3 wm_3_4 rfl (fun j hj => by rcases (show j = 0 ∨ j = 1 ∨ j = 2 ∨ j = 3 ∨ j = 4 ∨ j = 5 ∨ j = 6 ∨ j = 7 ∨ j = 8 ∨ j = 9 ∨ j = 10 ∨ j = 11 ∨ j = 12 ∨ j = 13 by omega) with rfl | rfl | rfl | rfl | rfl | rfl | rfl | rfl | rfl | rfl | rfl | rfl | rfl | rfl <;> rfl) (Nat.le_of_ble_eq_true rfl) (Nat.le_of_ble_eq_true rfl) dX3_init_44 (fun ad14 e14 X14 => ?_)
  obtain ⟨Sh14, y14⟩ : ∃ z, z = xupS Sh13 (b + 25) shB2 := ⟨_, rfl⟩
  obtain ⟨σ14, w14⟩ : ∃ z, z = xz σ12 (b + 25) := ⟨_, rfl⟩
  rw [← y14, ← w14]
  have s14 : ∀ i, i < b + 25 → ad14 i = ad12 i ∧ Sh14 i = Sh13 i ∧ σ14 i = σ12 i := fun i hi => ⟨e14 i hi, by rw [y14]; exact if_neg (Nat.ne_of_lt hi), by rw [w14]; exact if_neg (Nat.ne_of_lt hi)⟩
  have q14 : Sh14 (b + 25) = shB2 := by rw [y14]; exact if_pos rfl
  have t14 : σ14 (b + 25) = (fun _ => 0) := by rw [w14]; exact if_pos rfl
  clear e14 y14 w14
  have q1_14 : Sh14 (b + 1) = (shI D 4) := (s14 (b + 1) (by omega)).2.1.trans q1_13
  have i4_14 : xIs0 D ad14 (b + 26) Sh14 8 (b + 2) := xIs0_ex i4_13 (fun i h1 h2 => ⟨(s14 i (by omega)).1, (s14 i (by omega)).2.1⟩) (by omega)
  have q7_14 : Sh14 (b) = (fun r => .inr (3, [.int (r 0), .int (r 1), .ref (ad14 (b + 1)), .ref (ad14 (b + 2)), .ref (ad14 (b + 6))])) := ((s14 (b) (by omega)).2.1.trans q7_13).trans (by simp only [(s14 (b + 1) (by omega)).1, (s14 (b + 2) (by omega)).1, (s14 (b + 6) (by omega)).1])
  have i9_14 : xIs2 D ad14 (b + 26) Sh14 (b + 7) := xIs2_ex i9_13 (fun i h1 h2 => ⟨(s14 i (by omega)).1, (s14 i (by omega)).2.1⟩) (by omega)
  have i12_14 : xIs2 D ad14 (b + 26) Sh14 (b + 16) := xIs2_ex i12_13 (fun i h1 h2 => ⟨(s14 i (by omega)).1, (s14 i (by omega)).2.1⟩) (by omega)
  have q13_14 : Sh14 (b + 6) = (fun _ => .inl (D.1 104, 4, .inr (.inr (.inr (.inr (va_up (va_up (fun _ => none) 0 (some (ad14 (b + 7)))) 1 (some (ad14 (b + 16))))))))) := ((s14 (b + 6) (by omega)).2.1.trans q13).trans (by simp only [(s14 (b + 7) (by omega)).1, (s14 (b + 16) (by omega)).1])
  have t0_14 : σ14 (b) = (fun _ => 0) := by rw [(s14 (b) (by omega)).2.2]; exact t0_12
  have t1_14 : σ14 (b + 1) = (fun _ => 0) := by rw [(s14 (b + 1) (by omega)).2.2]; exact t1_12
  have t6_14 : σ14 (b + 6) = (fun _ => 0) := by rw [(s14 (b + 6) (by omega)).2.2]; exact t6_12
  have cA14 : ∀ i, i ≤ b → ad14 i = ad0 i := fun i hi => (s14 i (by omega)).1.trans (cA12 i hi)
  have cH14 : ∀ i, i < b → Sh14 i = Sh0 i := fun i hi => (s14 i (by omega)).2.1.trans (cH13 i hi)
  have cG14 : ∀ i, i < b → σ14 i = σ0 i := fun i hi => (s14 i (by omega)).2.2.trans (cG12 i hi)
  clear q1_13 i4_13 q7_13 i9_13 i12_13 q13 t0_12 t1_12 t6_12 cA12 cH13 cG12
  refine x_conv (lv2 := [(0, .ref (ad14 (b))), (1, .int 2)]) (st2 := [.ref (ad14 (b + 25)), .int 2, .ref (ad14 (b + 6))]) (by simp only [(s14 (b) (by omega)).1]) (by simp only [(s14 (b + 6) (by omega)).1]) ?_
  replace X14 : xC Γ _ _ _ _ _ D ad14 (b + 26) := X14
  refine x_convN (N2 := b + 26) rfl ?_
  refine xr_dup (pc := 47) X14 rfl dX3_init_47 ?_
  refine xr_iload_n (pc := 48) X14 (i := 1) 1 rfl rfl dX3_init_48 ?_
  refine xr_callC (pc := 49) (na := 1) (b + 25) [.int 2] X14 hAO (c_X2_init Γ.2.1 D _ 2) q14 t14 rfl (wG_1 wm_3_19) rfl rfl rfl (List.mem_cons_of_mem _ wm_3_4) (List.mem_cons_of_mem _ wm_3_17) (List.mem_cons_of_mem _ wm_3_18) rfl (by decide +kernel) ⟨(Nat.le_of_ble_eq_true rfl), (Nat.le_of_ble_eq_true rfl)⟩ rfl rfl (Nat.le_of_ble_eq_true rfl) ⟨(Nat.le_of_ble_eq_true rfl), (Nat.le_of_ble_eq_true rfl)⟩ dX3_init_49 (fun ad15 Sh15 σ15 p15 X15 => ?_)
  have s15 : ∀ i, i < b + 25 → ad15 i = ad14 i ∧ Sh15 i = Sh14 i ∧ σ15 i = σ14 i := fun i hi => ⟨p15.1 i (by omega), (p15.2.1 i hi).1, (p15.2.1 i hi).2⟩
  have n15 := p15.2.2
  have r15 : ad15 (b + 25) = ad14 (b + 25) := p15.1 _ (Nat.le_refl _)
  clear p15
  replace X15 : xC Γ _ _ _ _ _ D ad15 (b + 34) := X15
  refine x_convN (N2 := b + 34) rfl ?_
  have q1_15 : Sh15 (b + 1) = (shI D 4) := (s15 (b + 1) (by omega)).2.1.trans q1_14
  have i4_15 : xIs0 D ad15 (b + 34) Sh15 8 (b + 2) := xIs0_ex i4_14 (fun i h1 h2 => ⟨(s15 i (by omega)).1, (s15 i (by omega)).2.1⟩) (by omega)
  have q7_15 : Sh15 (b) = (fun r => .inr (3, [.int (r 0), .int (r 1), .ref (ad15 (b + 1)), .ref (ad15 (b + 2)), .ref (ad15 (b + 6))])) := ((s15 (b) (by omega)).2.1.trans q7_14).trans (by simp only [(s15 (b + 1) (by omega)).1, (s15 (b + 2) (by omega)).1, (s15 (b + 6) (by omega)).1])
  have i9_15 : xIs2 D ad15 (b + 34) Sh15 (b + 7) := xIs2_ex i9_14 (fun i h1 h2 => ⟨(s15 i (by omega)).1, (s15 i (by omega)).2.1⟩) (by omega)
  have i12_15 : xIs2 D ad15 (b + 34) Sh15 (b + 16) := xIs2_ex i12_14 (fun i h1 h2 => ⟨(s15 i (by omega)).1, (s15 i (by omega)).2.1⟩) (by omega)
  have q13_15 : Sh15 (b + 6) = (fun _ => .inl (D.1 104, 4, .inr (.inr (.inr (.inr (va_up (va_up (fun _ => none) 0 (some (ad15 (b + 7)))) 1 (some (ad15 (b + 16))))))))) := ((s15 (b + 6) (by omega)).2.1.trans q13_14).trans (by simp only [(s15 (b + 7) (by omega)).1, (s15 (b + 16) (by omega)).1])
  have t0_15 : σ15 (b) = (fun _ => 0) := by rw [(s15 (b) (by omega)).2.2]; exact t0_14
  have t1_15 : σ15 (b + 1) = (fun _ => 0) := by rw [(s15 (b + 1) (by omega)).2.2]; exact t1_14
  have t6_15 : σ15 (b + 6) = (fun _ => 0) := by rw [(s15 (b + 6) (by omega)).2.2]; exact t6_14
  have cA15 : ∀ i, i ≤ b → ad15 i = ad0 i := fun i hi => (s15 i (by omega)).1.trans (cA14 i hi)
  have cH15 : ∀ i, i < b → Sh15 i = Sh0 i := fun i hi => (s15 i (by omega)).2.1.trans (cH14 i hi)
  have cG15 : ∀ i, i < b → σ15 i = σ0 i := fun i hi => (s15 i (by omega)).2.2.trans (cG14 i hi)
  clear q1_14 i4_14 q7_14 i9_14 i12_14 q13_14 t0_14 t1_14 t6_14 cA14 cH14 cG14
  have i15 : xIs2 D ad15 (b + 34) Sh15 (b + 25) := n15
  refine x_conv (lv2 := [(0, .ref (ad15 (b))), (1, .int 2)]) (st2 := [.ref (ad15 (b + 25)), .int 2, .ref (ad15 (b + 6))]) (by simp only [(s15 (b) (by omega)).1]) (by simp only [r15, (s15 (b + 6) (by omega)).1]) ?_
  refine xr_astq (pc := 52) (t0 := 4) (n0 := 4) (cid := D.1 104) X15 (b + 6) (b + 25) (fun _ => .inl (D.1 104, 4, .inr (.inr (.inr (.inr (va_up (va_up (va_up (fun _ => none) 0 (some (ad15 (b + 7)))) 1 (some (ad15 (b + 16)))) 2 (some (ad15 (b + 25))))))))) (by omega) (by omega) (by rw [q13_15]) rfl (by rw [i15.1.2]; rfl) (C := RX2) (T := TX2) (NF := 14) (ci := 2) rfl (vp_in_nI (n := 2) (N := 4) (by decide) (by decide)) rfl dX3_init_52 ?_
  obtain ⟨Sh16, y16⟩ : ∃ z, z = xupS Sh15 (b + 6) (fun _ => .inl (D.1 104, 4, .inr (.inr (.inr (.inr (va_up (va_up (va_up (fun _ => none) 0 (some (ad15 (b + 7)))) 1 (some (ad15 (b + 16)))) 2 (some (ad15 (b + 25))))))))) := ⟨_, rfl⟩
  rw [← y16]
  have s16 : ∀ i, i ≠ b + 6 → Sh16 i = Sh15 i := fun i hb => by rw [y16]; exact if_neg hb
  have q16 : Sh16 (b + 6) = (fun _ => .inl (D.1 104, 4, .inr (.inr (.inr (.inr (va_up (va_up (va_up (fun _ => none) 0 (some (ad15 (b + 7)))) 1 (some (ad15 (b + 16)))) 2 (some (ad15 (b + 25))))))))) := by rw [y16]; exact if_pos rfl
  clear y16
  have q1_16 : Sh16 (b + 1) = (shI D 4) := (s16 (b + 1) (by omega)).trans q1_15
  have i4_16 : xIs0 D ad15 (b + 34) Sh16 8 (b + 2) := xIs0_ex i4_15 (fun i h1 h2 => ⟨rfl, s16 i (by omega)⟩) (by omega)
  have q7_16 : Sh16 (b) = (fun r => .inr (3, [.int (r 0), .int (r 1), .ref (ad15 (b + 1)), .ref (ad15 (b + 2)), .ref (ad15 (b + 6))])) := (s16 (b) (by omega)).trans q7_15
  have i9_16 : xIs2 D ad15 (b + 34) Sh16 (b + 7) := xIs2_ex i9_15 (fun i h1 h2 => ⟨rfl, s16 i (by omega)⟩) (by omega)
  have i12_16 : xIs2 D ad15 (b + 34) Sh16 (b + 16) := xIs2_ex i12_15 (fun i h1 h2 => ⟨rfl, s16 i (by omega)⟩) (by omega)
  have i15_16 : xIs2 D ad15 (b + 34) Sh16 (b + 25) := xIs2_ex i15 (fun i h1 h2 => ⟨rfl, s16 i (by omega)⟩) (by omega)
  have cH16 : ∀ i, i < b → Sh16 i = Sh0 i := fun i hi => (s16 i (by omega)).trans (cH15 i hi)
  clear q1_15 i4_15 q7_15 i9_15 i12_15 q13_15 i15 cH15
  refine xr_iincC (pc := 53) X15 (i := 1) (j := 1) (v := 3) [1, 0] (Nat.le_of_ble_eq_true rfl) hnL rfl (by decide) rfl dX3_init_53 ?_
  refine x_conv (lv2 := [(0, .ref (ad15 (b))), (1, .int 3)]) (st2 := []) rfl rfl ?_
  refine xr_goto (pc := 56) X15 34 (by decide) dX3_init_56 ?_
  refine xr_iload_n (pc := 34) X15 (i := 1) 1 rfl rfl dX3_init_34 ?_
  refine xr_iconst (pc := 35) X15 dX3_init_35 (v := 4) (by decide) ?_
  refine x_convE (ex2 := if (4 : Int32) ≤ (3 : Int32) then some () else some ()) (by decide) ?_
  refine xr_icmp_ge (pc := 36) X15 59 (by decide) dX3_init_36 (fun hc => absurd hc (by decide)) (fun hc => ?_)
  refine xr_aload_n (pc := 39) X15 (i := 0) 0 rfl rfl dX3_init_39 ?_
  refine xr_getB (pc := 40) X15 (b) 4 (by omega) (by rw [q7_16]) (C := RX3) (T := TX3) (NF := 5) rfl hinX3 (by omega) wm_3_2 rfl rfl dX3_init_40 ?_
  refine xr_iload_n (pc := 43) X15 (i := 1) 1 rfl rfl dX3_init_43 ?_
  refine xr_new (pc := 44) X15 shB2 (C := RX2) (T := TX2) (NF := 14) (tyf := tyX2) rfl hinX2 tyX2_ok wm_3_1 wm_3_3 wm_3_4 rfl (fun j hj => by rcases (show j = 0 ∨ j = 1 ∨ j = 2 ∨ j = 3 ∨ j = 4 ∨ j = 5 ∨ j = 6 ∨ j = 7 ∨ j = 8 ∨ j = 9 ∨ j = 10 ∨ j = 11 ∨ j = 12 ∨ j = 13 by omega) with rfl | rfl | rfl | rfl | rfl | rfl | rfl | rfl | rfl | rfl | rfl | rfl | rfl | rfl <;> rfl) (Nat.le_of_ble_eq_true rfl) (Nat.le_of_ble_eq_true rfl) dX3_init_44 (fun ad17 e17 X17 => ?_)
  obtain ⟨Sh17, y17⟩ : ∃ z, z = xupS Sh16 (b + 34) shB2 := ⟨_, rfl⟩
  obtain ⟨σ17, w17⟩ : ∃ z, z = xz σ15 (b + 34) := ⟨_, rfl⟩
  rw [← y17, ← w17]
  have s17 : ∀ i, i < b + 34 → ad17 i = ad15 i ∧ Sh17 i = Sh16 i ∧ σ17 i = σ15 i := fun i hi => ⟨e17 i hi, by rw [y17]; exact if_neg (Nat.ne_of_lt hi), by rw [w17]; exact if_neg (Nat.ne_of_lt hi)⟩
  have q17 : Sh17 (b + 34) = shB2 := by rw [y17]; exact if_pos rfl
  have t17 : σ17 (b + 34) = (fun _ => 0) := by rw [w17]; exact if_pos rfl
  clear e17 y17 w17
  have q1_17 : Sh17 (b + 1) = (shI D 4) := (s17 (b + 1) (by omega)).2.1.trans q1_16
  have i4_17 : xIs0 D ad17 (b + 35) Sh17 8 (b + 2) := xIs0_ex i4_16 (fun i h1 h2 => ⟨(s17 i (by omega)).1, (s17 i (by omega)).2.1⟩) (by omega)
  have q7_17 : Sh17 (b) = (fun r => .inr (3, [.int (r 0), .int (r 1), .ref (ad17 (b + 1)), .ref (ad17 (b + 2)), .ref (ad17 (b + 6))])) := ((s17 (b) (by omega)).2.1.trans q7_16).trans (by simp only [(s17 (b + 1) (by omega)).1, (s17 (b + 2) (by omega)).1, (s17 (b + 6) (by omega)).1])
  have i9_17 : xIs2 D ad17 (b + 35) Sh17 (b + 7) := xIs2_ex i9_16 (fun i h1 h2 => ⟨(s17 i (by omega)).1, (s17 i (by omega)).2.1⟩) (by omega)
  have i12_17 : xIs2 D ad17 (b + 35) Sh17 (b + 16) := xIs2_ex i12_16 (fun i h1 h2 => ⟨(s17 i (by omega)).1, (s17 i (by omega)).2.1⟩) (by omega)
  have i15_17 : xIs2 D ad17 (b + 35) Sh17 (b + 25) := xIs2_ex i15_16 (fun i h1 h2 => ⟨(s17 i (by omega)).1, (s17 i (by omega)).2.1⟩) (by omega)
  have q16_17 : Sh17 (b + 6) = (fun _ => .inl (D.1 104, 4, .inr (.inr (.inr (.inr (va_up (va_up (va_up (fun _ => none) 0 (some (ad17 (b + 7)))) 1 (some (ad17 (b + 16)))) 2 (some (ad17 (b + 25))))))))) := ((s17 (b + 6) (by omega)).2.1.trans q16).trans (by simp only [(s17 (b + 7) (by omega)).1, (s17 (b + 16) (by omega)).1, (s17 (b + 25) (by omega)).1])
  have t0_17 : σ17 (b) = (fun _ => 0) := by rw [(s17 (b) (by omega)).2.2]; exact t0_15
  have t1_17 : σ17 (b + 1) = (fun _ => 0) := by rw [(s17 (b + 1) (by omega)).2.2]; exact t1_15
  have t6_17 : σ17 (b + 6) = (fun _ => 0) := by rw [(s17 (b + 6) (by omega)).2.2]; exact t6_15
  have cA17 : ∀ i, i ≤ b → ad17 i = ad0 i := fun i hi => (s17 i (by omega)).1.trans (cA15 i hi)
  have cH17 : ∀ i, i < b → Sh17 i = Sh0 i := fun i hi => (s17 i (by omega)).2.1.trans (cH16 i hi)
  have cG17 : ∀ i, i < b → σ17 i = σ0 i := fun i hi => (s17 i (by omega)).2.2.trans (cG15 i hi)
  clear q1_16 i4_16 q7_16 i9_16 i12_16 i15_16 q16 t0_15 t1_15 t6_15 cA15 cH16 cG15
  refine x_conv (lv2 := [(0, .ref (ad17 (b))), (1, .int 3)]) (st2 := [.ref (ad17 (b + 34)), .int 3, .ref (ad17 (b + 6))]) (by simp only [(s17 (b) (by omega)).1]) (by simp only [(s17 (b + 6) (by omega)).1]) ?_
  replace X17 : xC Γ _ _ _ _ _ D ad17 (b + 35) := X17
  refine x_convN (N2 := b + 35) rfl ?_
  refine xr_dup (pc := 47) X17 rfl dX3_init_47 ?_
  refine xr_iload_n (pc := 48) X17 (i := 1) 1 rfl rfl dX3_init_48 ?_
  refine xr_callC (pc := 49) (na := 1) (b + 34) [.int 3] X17 hAO (c_X2_init Γ.2.1 D _ 3) q17 t17 rfl (wG_1 wm_3_19) rfl rfl rfl (List.mem_cons_of_mem _ wm_3_4) (List.mem_cons_of_mem _ wm_3_17) (List.mem_cons_of_mem _ wm_3_18) rfl (by decide +kernel) ⟨(Nat.le_of_ble_eq_true rfl), (Nat.le_of_ble_eq_true rfl)⟩ rfl rfl (Nat.le_of_ble_eq_true rfl) ⟨(Nat.le_of_ble_eq_true rfl), (Nat.le_of_ble_eq_true rfl)⟩ dX3_init_49 (fun ad18 Sh18 σ18 p18 X18 => ?_)
  have s18 : ∀ i, i < b + 34 → ad18 i = ad17 i ∧ Sh18 i = Sh17 i ∧ σ18 i = σ17 i := fun i hi => ⟨p18.1 i (by omega), (p18.2.1 i hi).1, (p18.2.1 i hi).2⟩
  have n18 := p18.2.2
  have r18 : ad18 (b + 34) = ad17 (b + 34) := p18.1 _ (Nat.le_refl _)
  clear p18
  replace X18 : xC Γ _ _ _ _ _ D ad18 (b + 43) := X18
  refine x_convN (N2 := b + 43) rfl ?_
  have q1_18 : Sh18 (b + 1) = (shI D 4) := (s18 (b + 1) (by omega)).2.1.trans q1_17
  have i4_18 : xIs0 D ad18 (b + 43) Sh18 8 (b + 2) := xIs0_ex i4_17 (fun i h1 h2 => ⟨(s18 i (by omega)).1, (s18 i (by omega)).2.1⟩) (by omega)
  have q7_18 : Sh18 (b) = (fun r => .inr (3, [.int (r 0), .int (r 1), .ref (ad18 (b + 1)), .ref (ad18 (b + 2)), .ref (ad18 (b + 6))])) := ((s18 (b) (by omega)).2.1.trans q7_17).trans (by simp only [(s18 (b + 1) (by omega)).1, (s18 (b + 2) (by omega)).1, (s18 (b + 6) (by omega)).1])
  have i9_18 : xIs2 D ad18 (b + 43) Sh18 (b + 7) := xIs2_ex i9_17 (fun i h1 h2 => ⟨(s18 i (by omega)).1, (s18 i (by omega)).2.1⟩) (by omega)
  have i12_18 : xIs2 D ad18 (b + 43) Sh18 (b + 16) := xIs2_ex i12_17 (fun i h1 h2 => ⟨(s18 i (by omega)).1, (s18 i (by omega)).2.1⟩) (by omega)
  have i15_18 : xIs2 D ad18 (b + 43) Sh18 (b + 25) := xIs2_ex i15_17 (fun i h1 h2 => ⟨(s18 i (by omega)).1, (s18 i (by omega)).2.1⟩) (by omega)
  have q16_18 : Sh18 (b + 6) = (fun _ => .inl (D.1 104, 4, .inr (.inr (.inr (.inr (va_up (va_up (va_up (fun _ => none) 0 (some (ad18 (b + 7)))) 1 (some (ad18 (b + 16)))) 2 (some (ad18 (b + 25))))))))) := ((s18 (b + 6) (by omega)).2.1.trans q16_17).trans (by simp only [(s18 (b + 7) (by omega)).1, (s18 (b + 16) (by omega)).1, (s18 (b + 25) (by omega)).1])
  have t0_18 : σ18 (b) = (fun _ => 0) := by rw [(s18 (b) (by omega)).2.2]; exact t0_17
  have t1_18 : σ18 (b + 1) = (fun _ => 0) := by rw [(s18 (b + 1) (by omega)).2.2]; exact t1_17
  have t6_18 : σ18 (b + 6) = (fun _ => 0) := by rw [(s18 (b + 6) (by omega)).2.2]; exact t6_17
  have cA18 : ∀ i, i ≤ b → ad18 i = ad0 i := fun i hi => (s18 i (by omega)).1.trans (cA17 i hi)
  have cH18 : ∀ i, i < b → Sh18 i = Sh0 i := fun i hi => (s18 i (by omega)).2.1.trans (cH17 i hi)
  have cG18 : ∀ i, i < b → σ18 i = σ0 i := fun i hi => (s18 i (by omega)).2.2.trans (cG17 i hi)
  clear q1_17 i4_17 q7_17 i9_17 i12_17 i15_17 q16_17 t0_17 t1_17 t6_17 cA17 cH17 cG17
  have i18 : xIs2 D ad18 (b + 43) Sh18 (b + 34) := n18
  refine x_conv (lv2 := [(0, .ref (ad18 (b))), (1, .int 3)]) (st2 := [.ref (ad18 (b + 34)), .int 3, .ref (ad18 (b + 6))]) (by simp only [(s18 (b) (by omega)).1]) (by simp only [r18, (s18 (b + 6) (by omega)).1]) ?_
  refine xr_astq (pc := 52) (t0 := 4) (n0 := 4) (cid := D.1 104) X18 (b + 6) (b + 34) (fun _ => .inl (D.1 104, 4, .inr (.inr (.inr (.inr (va_up (va_up (va_up (va_up (fun _ => none) 0 (some (ad18 (b + 7)))) 1 (some (ad18 (b + 16)))) 2 (some (ad18 (b + 25)))) 3 (some (ad18 (b + 34))))))))) (by omega) (by omega) (by rw [q16_18]) rfl (by rw [i18.1.2]; rfl) (C := RX2) (T := TX2) (NF := 14) (ci := 2) rfl (vp_in_nI (n := 3) (N := 4) (by decide) (by decide)) rfl dX3_init_52 ?_
  obtain ⟨Sh19, y19⟩ : ∃ z, z = xupS Sh18 (b + 6) (fun _ => .inl (D.1 104, 4, .inr (.inr (.inr (.inr (va_up (va_up (va_up (va_up (fun _ => none) 0 (some (ad18 (b + 7)))) 1 (some (ad18 (b + 16)))) 2 (some (ad18 (b + 25)))) 3 (some (ad18 (b + 34))))))))) := ⟨_, rfl⟩
  rw [← y19]
  have s19 : ∀ i, i ≠ b + 6 → Sh19 i = Sh18 i := fun i hb => by rw [y19]; exact if_neg hb
  have q19 : Sh19 (b + 6) = (fun _ => .inl (D.1 104, 4, .inr (.inr (.inr (.inr (va_up (va_up (va_up (va_up (fun _ => none) 0 (some (ad18 (b + 7)))) 1 (some (ad18 (b + 16)))) 2 (some (ad18 (b + 25)))) 3 (some (ad18 (b + 34))))))))) := by rw [y19]; exact if_pos rfl
  clear y19
  have q1_19 : Sh19 (b + 1) = (shI D 4) := (s19 (b + 1) (by omega)).trans q1_18
  have i4_19 : xIs0 D ad18 (b + 43) Sh19 8 (b + 2) := xIs0_ex i4_18 (fun i h1 h2 => ⟨rfl, s19 i (by omega)⟩) (by omega)
  have q7_19 : Sh19 (b) = (fun r => .inr (3, [.int (r 0), .int (r 1), .ref (ad18 (b + 1)), .ref (ad18 (b + 2)), .ref (ad18 (b + 6))])) := (s19 (b) (by omega)).trans q7_18
  have i9_19 : xIs2 D ad18 (b + 43) Sh19 (b + 7) := xIs2_ex i9_18 (fun i h1 h2 => ⟨rfl, s19 i (by omega)⟩) (by omega)
  have i12_19 : xIs2 D ad18 (b + 43) Sh19 (b + 16) := xIs2_ex i12_18 (fun i h1 h2 => ⟨rfl, s19 i (by omega)⟩) (by omega)
  have i15_19 : xIs2 D ad18 (b + 43) Sh19 (b + 25) := xIs2_ex i15_18 (fun i h1 h2 => ⟨rfl, s19 i (by omega)⟩) (by omega)
  have i18_19 : xIs2 D ad18 (b + 43) Sh19 (b + 34) := xIs2_ex i18 (fun i h1 h2 => ⟨rfl, s19 i (by omega)⟩) (by omega)
  have cH19 : ∀ i, i < b → Sh19 i = Sh0 i := fun i hi => (s19 i (by omega)).trans (cH18 i hi)
  clear q1_18 i4_18 q7_18 i9_18 i12_18 i15_18 q16_18 i18 cH18
  refine xr_iincC (pc := 53) X18 (i := 1) (j := 1) (v := 4) [1, 0] (Nat.le_of_ble_eq_true rfl) hnL rfl (by decide) rfl dX3_init_53 ?_
  refine x_conv (lv2 := [(0, .ref (ad18 (b))), (1, .int 4)]) (st2 := []) rfl rfl ?_
  refine xr_goto (pc := 56) X18 34 (by decide) dX3_init_56 ?_
  refine xr_iload_n (pc := 34) X18 (i := 1) 1 rfl rfl dX3_init_34 ?_
  refine xr_iconst (pc := 35) X18 dX3_init_35 (v := 4) (by decide) ?_
  refine x_convE (ex2 := if (4 : Int32) ≤ (4 : Int32) then some () else some ()) (by decide) ?_
  refine xr_icmp_ge (pc := 36) X18 59 (by decide) dX3_init_36 (fun hc => ?_) (fun hc => absurd (by decide) hc)
  have hIs : xIs3 D ad18 (b + 43) Sh19 b := ⟨⟨by omega, q7_19⟩, ⟨by omega, q1_19⟩, i4_19, ⟨by omega, q19.trans (shPs_of (fun j => by rcases (show j = 0 ∨ j = 1 ∨ j = 2 ∨ j = 3 ∨ 4 ≤ j by omega) with rfl | rfl | rfl | rfl | h <;> first | rfl | (simp only [va_up]; rw [if_neg (by omega), if_neg (by omega), if_neg (by omega), if_neg (by omega), if_neg (by omega)])))⟩, fun j hj => by rcases (show j = 0 ∨ j = 1 ∨ j = 2 ∨ j = 3 by omega) with rfl | rfl | rfl | rfl <;> first | exact i9_19 | exact i12_19 | exact i15_19 | exact i18_19⟩
  refine xr_aload_n (pc := 59) X18 (i := 0) 0 rfl rfl dX3_init_59 ?_
  obtain ⟨σ20, e20, g20, h20⟩ := pF_X3_takeFirst (b) σ18
  refine x_known e20 ?_
  refine xr_callVV (na := 0) (pc := 60) X18 (b) [] _ (c_X3_takeFirstSettings Γ.2.1 X18.2.2.2.2.2.2.2.1 (b) hIs σ18) (wG_V wm_4_5 wm_4_2 wm_4_3 wm_4_4 wm_1_16) rfl rfl rfl (by decide +kernel) ⟨(Nat.le_of_ble_eq_true rfl), (Nat.le_of_ble_eq_true rfl)⟩ hIs.1.1 hIs.1.2 rfl (T := TX3) (C := RX3) rfl rfl rfl (Nat.le_of_ble_eq_true rfl) ⟨(Nat.le_of_ble_eq_true rfl), (Nat.le_of_ble_eq_true rfl)⟩ dX3_init_60 (fun z => x_ifC ?_ z)
  have cG20 : ∀ i, i < b → σ20 i = σ0 i := fun i hi => (g20 i (by omega)).trans (cG18 i hi)
  refine xr_aload_n (pc := 63) X18 (i := 0) 0 rfl rfl dX3_init_63 ?_
  refine xr_iconst (pc := 64) X18 dX3_init_64 (v := 1) (by decide) ?_
  obtain ⟨σ21, e21, g21, h21⟩ := pF_X3_begin (b) 1 σ20
  refine x_known e21 ?_
  refine xr_callVV (na := 1) (pc := 65) X18 (b) [.int 1] _ (c_X3_begin Γ.2.1 X18.2.2.2.2.2.2.2.1 (b) hIs 1 σ20) (wG_V wm_4_9 wm_4_6 wm_4_7 wm_4_8 wm_1_16) rfl rfl rfl (by decide +kernel) ⟨(Nat.le_of_ble_eq_true rfl), (Nat.le_of_ble_eq_true rfl)⟩ hIs.1.1 hIs.1.2 rfl (T := TX3) (C := RX3) rfl rfl rfl (Nat.le_of_ble_eq_true rfl) ⟨(Nat.le_of_ble_eq_true rfl), (Nat.le_of_ble_eq_true rfl)⟩ dX3_init_65 (fun z => x_ifC ?_ z)
  have cG21 : ∀ i, i < b → σ21 i = σ0 i := fun i hi => (g21 i (by omega)).trans (cG20 i hi)
  have hB : xBg3 σ21 b := ⟨h21.2.1, h21.2.2.1, by rw [h21.1]; exact h20, h21.2.2.2.1, h21.2.2.2.2⟩
  exact xr_cret (pc := 68) (nn := 43) X18 ⟨cA18, fun i hi => ⟨cH19 i hi, cG21 i hi⟩, ⟨hIs, hB⟩⟩ (Nat.le_of_ble_eq_true rfl) (Nat.le_of_ble_eq_true rfl) dX3_init_68
