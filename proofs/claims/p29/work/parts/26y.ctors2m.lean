abbrev rm_X1_init : Room := { frames := 4, cells := 603, slots := 3836, locals := 85 }
set_option maxHeartbeats 40000000 in
set_option maxRecDepth 100000 in
theorem c_X1_init (l : Launch) (D : va_G) (b : Nat) : xKC l yX1_init (Cond.code yX1_init cX1_init 2 none :: wG) rm_X1_init 603 3836 D (fun ad => [.ref (ad (b))]) b 604 shB1 (fun ad Sh σ => xIs1 D ad (b + 604) Sh b ∧ σ b 1 = 0 ∧ σ b 2 = 0) := by
  refine x_startC (own := RX1) (maxL := 2) (lv := fun ad => [(0, .ref (ad (b)))]) (by decide) rfl rfl rfl (fun _ => Nat.le_of_ble_eq_true rfl) (fun _ => rfl) (fun Γ ad0 Sh0 σ0 hl hnL hname hAO q0 t0 X0 => ?_)
  subst hl
  refine xr_aload_n (pc := 0) X0 (i := 0) 0 rfl rfl dX1_init_0 ?_
  refine xr_oinit (pc := 1) X0 wm_5_6 wm_1_8 wm_1_9 (Nat.le_of_ble_eq_true rfl) (Nat.le_of_ble_eq_true rfl) dX1_init_1 ?_
  refine xr_aload_n (pc := 4) X0 (i := 0) 0 rfl rfl dX1_init_4 ?_
  refine xr_bipush (pc := 5) X0 dX1_init_5 (v := 14) (by decide) ?_
  refine xr_newq (pc := 7) (t0 := 5) (N' := 14) (cid := D.1 105) X0 (fun _ => .inl (D.1 105, 14, .inr (.inr (.inr (.inr (fun _ => none)))))) hAO.2 wm_5_7 rfl rfl (by decide) (by decide) (by decide) (Nat.le_of_ble_eq_true rfl) (Nat.le_of_ble_eq_true rfl) dX1_init_7 (fun ad1 e1 X1 => ?_)
  obtain ⟨Sh1, y1⟩ : ∃ z, z = xupS Sh0 (b + 1) (fun _ => .inl (D.1 105, 14, .inr (.inr (.inr (.inr (fun _ => none)))))) := ⟨_, rfl⟩
  obtain ⟨σ1, w1⟩ : ∃ z, z = xz σ0 (b + 1) := ⟨_, rfl⟩
  rw [← y1, ← w1]
  have s1 : ∀ i, i < b + 1 → ad1 i = ad0 i ∧ Sh1 i = Sh0 i ∧ σ1 i = σ0 i := fun i hi => ⟨e1 i hi, by rw [y1]; exact if_neg (Nat.ne_of_lt hi), by rw [w1]; exact if_neg (Nat.ne_of_lt hi)⟩
  have q1 : Sh1 (b + 1) = (fun _ => .inl (D.1 105, 14, .inr (.inr (.inr (.inr (fun _ => none)))))) := by rw [y1]; exact if_pos rfl
  have t1 : σ1 (b + 1) = (fun _ => 0) := by rw [w1]; exact if_pos rfl
  clear e1 y1 w1
  have q0_1 : Sh1 (b) = (fun r => .inr (1, [.null, .int (r 1), .int (r 2)])) := (s1 (b) (by omega)).2.1.trans q0
  have t0_1 : σ1 (b) = (fun _ => 0) := by rw [(s1 (b) (by omega)).2.2]; exact t0
  have cA1 : ∀ i, i ≤ b → ad1 i = ad0 i := fun i hi => (s1 i (by omega)).1
  have cH1 : ∀ i, i < b → Sh1 i = Sh0 i := fun i hi => (s1 i (by omega)).2.1
  have cG1 : ∀ i, i < b → σ1 i = σ0 i := fun i hi => (s1 i (by omega)).2.2
  clear q0 t0
  refine x_conv (lv2 := [(0, .ref (ad1 (b)))]) (st2 := [.ref (ad1 (b + 1)), .ref (ad1 (b))]) (by simp only [(s1 (b) (by omega)).1]) (by simp only [(s1 (b) (by omega)).1]) ?_
  replace X1 : xC Γ _ _ _ _ _ D ad1 (b + 2) := X1
  refine x_convN (N2 := b + 2) rfl ?_
  refine xr_putR (pc := 10) X1 hname (b) (b + 1) 0 _ (fun r => .inr (1, [.ref (ad1 (b + 1)), .int (r 1), .int (r 2)])) (by omega) q0_1 rfl rfl (C := RX1) (T := TX1) (NF := 3) (tyf := tyX1) (ty := .array (.object "HeldNotes$Post")) rfl hinX1 tyX1_ok nmX1 (by omega) wm_5_8 rfl rfl (by decide +kernel) (fun _ => rfl) (fun _ => rfl) (Nat.le_of_ble_eq_true rfl) dX1_init_10 ?_
  obtain ⟨Sh2, y2⟩ : ∃ z, z = xupS Sh1 (b) (fun r => .inr (1, [.ref (ad1 (b + 1)), .int (r 1), .int (r 2)])) := ⟨_, rfl⟩
  rw [← y2]
  have s2 : ∀ i, i ≠ b → Sh2 i = Sh1 i := fun i hb => by rw [y2]; exact if_neg hb
  have q2 : Sh2 (b) = (fun r => .inr (1, [.ref (ad1 (b + 1)), .int (r 1), .int (r 2)])) := by rw [y2]; exact if_pos rfl
  clear y2
  have q1_2 : Sh2 (b + 1) = (fun _ => .inl (D.1 105, 14, .inr (.inr (.inr (.inr (fun _ => none)))))) := (s2 (b + 1) (by omega)).trans q1
  have cH2 : ∀ i, i < b → Sh2 i = Sh0 i := fun i hi => (s2 i (by omega)).trans (cH1 i hi)
  clear q0_1 q1 cH1
  refine xr_aload_n (pc := 13) X1 (i := 0) 0 rfl rfl dX1_init_13 ?_
  refine xr_iconst (pc := 14) X1 dX1_init_14 (v := 0) (by decide) ?_
  refine xr_putI (pc := 15) X1 (b) 1 _ (by omega) q2 rfl rfl (C := RX1) (T := TX1) (NF := 3) (tyf := tyX1) rfl hinX1 tyX1_ok nmX1 (by omega) wm_5_9 rfl rfl (by decide +kernel) (Nat.le_of_ble_eq_true rfl) dX1_init_15 ?_
  obtain ⟨σ3, w3⟩ : ∃ z, z = xu σ1 (b) 1 0 := ⟨_, rfl⟩
  rw [← w3]
  have s3 : ∀ i, i ≠ b → σ3 i = σ1 i := fun i hb => by rw [w3]; exact if_neg hb
  have u3 : σ3 b = upd (σ1 b) 1 0 := by rw [w3]; exact if_pos rfl
  clear w3
  have t1_3 : σ3 (b + 1) = (fun _ => 0) := by rw [s3 (b + 1) (by omega)]; exact t1
  have v3 : σ3 b 1 = 0 := by rw [u3]; rfl
  have cG3 : ∀ i, i < b → σ3 i = σ0 i := fun i hi => (s3 i (by omega)).trans (cG1 i hi)
  refine xr_aload_n (pc := 18) X1 (i := 0) 0 rfl rfl dX1_init_18 ?_
  refine xr_iconst (pc := 19) X1 dX1_init_19 (v := 0) (by decide) ?_
  refine xr_putI (pc := 20) X1 (b) 2 _ (by omega) q2 rfl rfl (C := RX1) (T := TX1) (NF := 3) (tyf := tyX1) rfl hinX1 tyX1_ok nmX1 (by omega) wm_5_10 rfl rfl (by decide +kernel) (Nat.le_of_ble_eq_true rfl) dX1_init_20 ?_
  obtain ⟨σ4, w4⟩ : ∃ z, z = xu σ3 (b) 2 0 := ⟨_, rfl⟩
  rw [← w4]
  have s4 : ∀ i, i ≠ b → σ4 i = σ3 i := fun i hb => by rw [w4]; exact if_neg hb
  have u4 : σ4 b = upd (σ3 b) 2 0 := by rw [w4]; exact if_pos rfl
  clear w4
  have t1_4 : σ4 (b + 1) = (fun _ => 0) := by rw [s4 (b + 1) (by omega)]; exact t1_3
  have v3_4 : σ4 b 1 = 0 := by rw [u4]; exact v3
  have v4 : σ4 b 2 = 0 := by rw [u4]; rfl
  have cG4 : ∀ i, i < b → σ4 i = σ0 i := fun i hi => (s4 i (by omega)).trans (cG3 i hi)
  refine xr_iconst (pc := 23) X1 dX1_init_23 (v := 0) (by decide) ?_
  refine xr_istore_n (pc := 24) X1 (hf := rfl) (i := 1) [1, 0] (Nat.le_of_ble_eq_true rfl) hnL rfl dX1_init_24 ?_
  refine x_conv (lv2 := [(0, .ref (ad1 (b))), (1, .int 0)]) (st2 := []) rfl rfl ?_
  refine xr_iload_n (pc := 25) X1 (i := 1) 1 rfl rfl dX1_init_25 ?_
  refine xr_bipush (pc := 26) X1 dX1_init_26 (v := 14) (by decide) ?_
  refine x_convE (ex2 := if (14 : Int32) ≤ (0 : Int32) then some () else some ()) (by decide) ?_
  refine xr_icmp_ge (pc := 28) X1 50 (by decide) dX1_init_28 (fun hc => absurd hc (by decide)) (fun hc => ?_)
  refine xr_aload_n (pc := 31) X1 (i := 0) 0 rfl rfl dX1_init_31 ?_
  refine xr_getB (pc := 32) X1 (b) 0 (by omega) (by rw [q2]) (C := RX1) (T := TX1) (NF := 3) rfl hinX1 (by omega) wm_5_8 rfl rfl dX1_init_32 ?_
  refine xr_iload_n (pc := 35) X1 (i := 1) 1 rfl rfl dX1_init_35 ?_
  refine xr_new (pc := 36) X1 shB3 (C := RX3) (T := TX3) (NF := 5) (tyf := tyX3) rfl hinX3 tyX3_ok wm_5_7 wm_1_15 wm_1_16 rfl (fun j hj => by rcases (show j = 0 ∨ j = 1 ∨ j = 2 ∨ j = 3 ∨ j = 4 by omega) with rfl | rfl | rfl | rfl | rfl <;> rfl) (Nat.le_of_ble_eq_true rfl) (Nat.le_of_ble_eq_true rfl) dX1_init_36 (fun ad5 e5 X5 => ?_)
  obtain ⟨Sh5, y5⟩ : ∃ z, z = xupS Sh2 (b + 2) shB3 := ⟨_, rfl⟩
  obtain ⟨σ5, w5⟩ : ∃ z, z = xz σ4 (b + 2) := ⟨_, rfl⟩
  rw [← y5, ← w5]
  have s5 : ∀ i, i < b + 2 → ad5 i = ad1 i ∧ Sh5 i = Sh2 i ∧ σ5 i = σ4 i := fun i hi => ⟨e5 i hi, by rw [y5]; exact if_neg (Nat.ne_of_lt hi), by rw [w5]; exact if_neg (Nat.ne_of_lt hi)⟩
  have q5 : Sh5 (b + 2) = shB3 := by rw [y5]; exact if_pos rfl
  have t5 : σ5 (b + 2) = (fun _ => 0) := by rw [w5]; exact if_pos rfl
  clear e5 y5 w5
  have q1_5 : Sh5 (b + 1) = (fun _ => .inl (D.1 105, 14, .inr (.inr (.inr (.inr (fun _ => none)))))) := (s5 (b + 1) (by omega)).2.1.trans q1_2
  have q2_5 : Sh5 (b) = (fun r => .inr (1, [.ref (ad5 (b + 1)), .int (r 1), .int (r 2)])) := ((s5 (b) (by omega)).2.1.trans q2).trans (by simp only [(s5 (b + 1) (by omega)).1])
  have t1_5 : σ5 (b + 1) = (fun _ => 0) := by rw [(s5 (b + 1) (by omega)).2.2]; exact t1_4
  have v3_5 : σ5 b 1 = 0 := by rw [(s5 (b) (by omega)).2.2]; exact v3_4
  have v4_5 : σ5 b 2 = 0 := by rw [(s5 (b) (by omega)).2.2]; exact v4
  have cA5 : ∀ i, i ≤ b → ad5 i = ad0 i := fun i hi => (s5 i (by omega)).1.trans (cA1 i hi)
  have cH5 : ∀ i, i < b → Sh5 i = Sh0 i := fun i hi => (s5 i (by omega)).2.1.trans (cH2 i hi)
  have cG5 : ∀ i, i < b → σ5 i = σ0 i := fun i hi => (s5 i (by omega)).2.2.trans (cG4 i hi)
  clear q1_2 q2 t1_4 v3_4 v4 cA1 cH2 cG4
  refine x_conv (lv2 := [(0, .ref (ad5 (b))), (1, .int 0)]) (st2 := [.ref (ad5 (b + 2)), .int 0, .ref (ad5 (b + 1))]) (by simp only [(s5 (b) (by omega)).1]) (by simp only [(s5 (b + 1) (by omega)).1]) ?_
  replace X5 : xC Γ _ _ _ _ _ D ad5 (b + 3) := X5
  refine x_convN (N2 := b + 3) rfl ?_
  refine xr_dup (pc := 39) X5 rfl dX1_init_39 ?_
  refine xr_callC (pc := 40) (na := 0) (b + 2) [] X5 hAO (c_X3_init Γ.2.1 D _) q5 t5 rfl (wG_1 wm_2_17) rfl rfl rfl (List.mem_cons_of_mem _ wm_1_16) (List.mem_cons_of_mem _ wm_5_11) (List.mem_cons_of_mem _ wm_2_16) rfl (by decide +kernel) ⟨(Nat.le_of_ble_eq_true rfl), (Nat.le_of_ble_eq_true rfl)⟩ rfl rfl (Nat.le_of_ble_eq_true rfl) ⟨(Nat.le_of_ble_eq_true rfl), (Nat.le_of_ble_eq_true rfl)⟩ dX1_init_40 (fun ad6 Sh6 σ6 p6 X6 => ?_)
  have s6 : ∀ i, i < b + 2 → ad6 i = ad5 i ∧ Sh6 i = Sh5 i ∧ σ6 i = σ5 i := fun i hi => ⟨p6.1 i (by omega), (p6.2.1 i hi).1, (p6.2.1 i hi).2⟩
  have n6 := p6.2.2
  have r6 : ad6 (b + 2) = ad5 (b + 2) := p6.1 _ (Nat.le_refl _)
  clear p6
  replace X6 : xC Γ _ _ _ _ _ D ad6 (b + 45) := X6
  refine x_convN (N2 := b + 45) rfl ?_
  have q1_6 : Sh6 (b + 1) = (fun _ => .inl (D.1 105, 14, .inr (.inr (.inr (.inr (fun _ => none)))))) := (s6 (b + 1) (by omega)).2.1.trans q1_5
  have q2_6 : Sh6 (b) = (fun r => .inr (1, [.ref (ad6 (b + 1)), .int (r 1), .int (r 2)])) := ((s6 (b) (by omega)).2.1.trans q2_5).trans (by simp only [(s6 (b + 1) (by omega)).1])
  have t1_6 : σ6 (b + 1) = (fun _ => 0) := by rw [(s6 (b + 1) (by omega)).2.2]; exact t1_5
  have v3_6 : σ6 b 1 = 0 := by rw [(s6 (b) (by omega)).2.2]; exact v3_5
  have v4_6 : σ6 b 2 = 0 := by rw [(s6 (b) (by omega)).2.2]; exact v4_5
  have cA6 : ∀ i, i ≤ b → ad6 i = ad0 i := fun i hi => (s6 i (by omega)).1.trans (cA5 i hi)
  have cH6 : ∀ i, i < b → Sh6 i = Sh0 i := fun i hi => (s6 i (by omega)).2.1.trans (cH5 i hi)
  have cG6 : ∀ i, i < b → σ6 i = σ0 i := fun i hi => (s6 i (by omega)).2.2.trans (cG5 i hi)
  clear q1_5 q2_5 t1_5 v3_5 v4_5 cA5 cH5 cG5
  have i6 : xIs3 D ad6 (b + 45) Sh6 (b + 2) := n6.1
  refine x_conv (lv2 := [(0, .ref (ad6 (b))), (1, .int 0)]) (st2 := [.ref (ad6 (b + 2)), .int 0, .ref (ad6 (b + 1))]) (by simp only [(s6 (b) (by omega)).1]) (by simp only [r6, (s6 (b + 1) (by omega)).1]) ?_
  refine xr_astq (pc := 43) (t0 := 5) (n0 := 14) (cid := D.1 105) X6 (b + 1) (b + 2) (fun _ => .inl (D.1 105, 14, .inr (.inr (.inr (.inr (va_up (fun _ => none) 0 (some (ad6 (b + 2))))))))) (by omega) (by omega) (by rw [q1_6]) rfl (by rw [i6.1.2]; rfl) (C := RX3) (T := TX3) (NF := 5) (ci := 3) rfl (vp_in_nI (n := 0) (N := 14) (by decide) (by decide)) rfl dX1_init_43 ?_
  obtain ⟨Sh7, y7⟩ : ∃ z, z = xupS Sh6 (b + 1) (fun _ => .inl (D.1 105, 14, .inr (.inr (.inr (.inr (va_up (fun _ => none) 0 (some (ad6 (b + 2))))))))) := ⟨_, rfl⟩
  rw [← y7]
  have s7 : ∀ i, i ≠ b + 1 → Sh7 i = Sh6 i := fun i hb => by rw [y7]; exact if_neg hb
  have q7 : Sh7 (b + 1) = (fun _ => .inl (D.1 105, 14, .inr (.inr (.inr (.inr (va_up (fun _ => none) 0 (some (ad6 (b + 2))))))))) := by rw [y7]; exact if_pos rfl
  clear y7
  have q2_7 : Sh7 (b) = (fun r => .inr (1, [.ref (ad6 (b + 1)), .int (r 1), .int (r 2)])) := (s7 (b) (by omega)).trans q2_6
  have i6_7 : xIs3 D ad6 (b + 45) Sh7 (b + 2) := xIs3_ex i6 (fun i h1 h2 => ⟨rfl, s7 i (by omega)⟩) (by omega)
  have cH7 : ∀ i, i < b → Sh7 i = Sh0 i := fun i hi => (s7 i (by omega)).trans (cH6 i hi)
  clear q1_6 q2_6 i6 cH6
  refine xr_iincC (pc := 44) X6 (i := 1) (j := 1) (v := 1) [1, 0] (Nat.le_of_ble_eq_true rfl) hnL rfl (by decide) rfl dX1_init_44 ?_
  refine x_conv (lv2 := [(0, .ref (ad6 (b))), (1, .int 1)]) (st2 := []) rfl rfl ?_
  refine xr_goto (pc := 47) X6 25 (by decide) dX1_init_47 ?_
  refine xr_iload_n (pc := 25) X6 (i := 1) 1 rfl rfl dX1_init_25 ?_
  refine xr_bipush (pc := 26) X6 dX1_init_26 (v := 14) (by decide) ?_
  refine x_convE (ex2 := if (14 : Int32) ≤ (1 : Int32) then some () else some ()) (by decide) ?_
  refine xr_icmp_ge (pc := 28) X6 50 (by decide) dX1_init_28 (fun hc => absurd hc (by decide)) (fun hc => ?_)
  refine xr_aload_n (pc := 31) X6 (i := 0) 0 rfl rfl dX1_init_31 ?_
  refine xr_getB (pc := 32) X6 (b) 0 (by omega) (by rw [q2_7]) (C := RX1) (T := TX1) (NF := 3) rfl hinX1 (by omega) wm_5_8 rfl rfl dX1_init_32 ?_
  refine xr_iload_n (pc := 35) X6 (i := 1) 1 rfl rfl dX1_init_35 ?_
  refine xr_new (pc := 36) X6 shB3 (C := RX3) (T := TX3) (NF := 5) (tyf := tyX3) rfl hinX3 tyX3_ok wm_5_7 wm_1_15 wm_1_16 rfl (fun j hj => by rcases (show j = 0 ∨ j = 1 ∨ j = 2 ∨ j = 3 ∨ j = 4 by omega) with rfl | rfl | rfl | rfl | rfl <;> rfl) (Nat.le_of_ble_eq_true rfl) (Nat.le_of_ble_eq_true rfl) dX1_init_36 (fun ad8 e8 X8 => ?_)
  obtain ⟨Sh8, y8⟩ : ∃ z, z = xupS Sh7 (b + 45) shB3 := ⟨_, rfl⟩
  obtain ⟨σ8, w8⟩ : ∃ z, z = xz σ6 (b + 45) := ⟨_, rfl⟩
  rw [← y8, ← w8]
  have s8 : ∀ i, i < b + 45 → ad8 i = ad6 i ∧ Sh8 i = Sh7 i ∧ σ8 i = σ6 i := fun i hi => ⟨e8 i hi, by rw [y8]; exact if_neg (Nat.ne_of_lt hi), by rw [w8]; exact if_neg (Nat.ne_of_lt hi)⟩
  have q8 : Sh8 (b + 45) = shB3 := by rw [y8]; exact if_pos rfl
  have t8 : σ8 (b + 45) = (fun _ => 0) := by rw [w8]; exact if_pos rfl
  clear e8 y8 w8
  have q2_8 : Sh8 (b) = (fun r => .inr (1, [.ref (ad8 (b + 1)), .int (r 1), .int (r 2)])) := ((s8 (b) (by omega)).2.1.trans q2_7).trans (by simp only [(s8 (b + 1) (by omega)).1])
  have i6_8 : xIs3 D ad8 (b + 46) Sh8 (b + 2) := xIs3_ex i6_7 (fun i h1 h2 => ⟨(s8 i (by omega)).1, (s8 i (by omega)).2.1⟩) (by omega)
  have q7_8 : Sh8 (b + 1) = (fun _ => .inl (D.1 105, 14, .inr (.inr (.inr (.inr (va_up (fun _ => none) 0 (some (ad8 (b + 2))))))))) := ((s8 (b + 1) (by omega)).2.1.trans q7).trans (by simp only [(s8 (b + 2) (by omega)).1])
  have t1_8 : σ8 (b + 1) = (fun _ => 0) := by rw [(s8 (b + 1) (by omega)).2.2]; exact t1_6
  have v3_8 : σ8 b 1 = 0 := by rw [(s8 (b) (by omega)).2.2]; exact v3_6
  have v4_8 : σ8 b 2 = 0 := by rw [(s8 (b) (by omega)).2.2]; exact v4_6
  have cA8 : ∀ i, i ≤ b → ad8 i = ad0 i := fun i hi => (s8 i (by omega)).1.trans (cA6 i hi)
  have cH8 : ∀ i, i < b → Sh8 i = Sh0 i := fun i hi => (s8 i (by omega)).2.1.trans (cH7 i hi)
  have cG8 : ∀ i, i < b → σ8 i = σ0 i := fun i hi => (s8 i (by omega)).2.2.trans (cG6 i hi)
  clear q2_7 i6_7 q7 t1_6 v3_6 v4_6 cA6 cH7 cG6
  refine x_conv (lv2 := [(0, .ref (ad8 (b))), (1, .int 1)]) (st2 := [.ref (ad8 (b + 45)), .int 1, .ref (ad8 (b + 1))]) (by simp only [(s8 (b) (by omega)).1]) (by simp only [(s8 (b + 1) (by omega)).1]) ?_
  replace X8 : xC Γ _ _ _ _ _ D ad8 (b + 46) := X8
  refine x_convN (N2 := b + 46) rfl ?_
  refine xr_dup (pc := 39) X8 rfl dX1_init_39 ?_
  refine xr_callC (pc := 40) (na := 0) (b + 45) [] X8 hAO (c_X3_init Γ.2.1 D _) q8 t8 rfl (wG_1 wm_2_17) rfl rfl rfl (List.mem_cons_of_mem _ wm_1_16) (List.mem_cons_of_mem _ wm_5_11) (List.mem_cons_of_mem _ wm_2_16) rfl (by decide +kernel) ⟨(Nat.le_of_ble_eq_true rfl), (Nat.le_of_ble_eq_true rfl)⟩ rfl rfl (Nat.le_of_ble_eq_true rfl) ⟨(Nat.le_of_ble_eq_true rfl), (Nat.le_of_ble_eq_true rfl)⟩ dX1_init_40 (fun ad9 Sh9 σ9 p9 X9 => ?_)
  have s9 : ∀ i, i < b + 45 → ad9 i = ad8 i ∧ Sh9 i = Sh8 i ∧ σ9 i = σ8 i := fun i hi => ⟨p9.1 i (by omega), (p9.2.1 i hi).1, (p9.2.1 i hi).2⟩
  have n9 := p9.2.2
  have r9 : ad9 (b + 45) = ad8 (b + 45) := p9.1 _ (Nat.le_refl _)
  clear p9
  replace X9 : xC Γ _ _ _ _ _ D ad9 (b + 88) := X9
  refine x_convN (N2 := b + 88) rfl ?_
  have q2_9 : Sh9 (b) = (fun r => .inr (1, [.ref (ad9 (b + 1)), .int (r 1), .int (r 2)])) := ((s9 (b) (by omega)).2.1.trans q2_8).trans (by simp only [(s9 (b + 1) (by omega)).1])
  have i6_9 : xIs3 D ad9 (b + 88) Sh9 (b + 2) := xIs3_ex i6_8 (fun i h1 h2 => ⟨(s9 i (by omega)).1, (s9 i (by omega)).2.1⟩) (by omega)
  have q7_9 : Sh9 (b + 1) = (fun _ => .inl (D.1 105, 14, .inr (.inr (.inr (.inr (va_up (fun _ => none) 0 (some (ad9 (b + 2))))))))) := ((s9 (b + 1) (by omega)).2.1.trans q7_8).trans (by simp only [(s9 (b + 2) (by omega)).1])
  have t1_9 : σ9 (b + 1) = (fun _ => 0) := by rw [(s9 (b + 1) (by omega)).2.2]; exact t1_8
  have v3_9 : σ9 b 1 = 0 := by rw [(s9 (b) (by omega)).2.2]; exact v3_8
  have v4_9 : σ9 b 2 = 0 := by rw [(s9 (b) (by omega)).2.2]; exact v4_8
  have cA9 : ∀ i, i ≤ b → ad9 i = ad0 i := fun i hi => (s9 i (by omega)).1.trans (cA8 i hi)
  have cH9 : ∀ i, i < b → Sh9 i = Sh0 i := fun i hi => (s9 i (by omega)).2.1.trans (cH8 i hi)
  have cG9 : ∀ i, i < b → σ9 i = σ0 i := fun i hi => (s9 i (by omega)).2.2.trans (cG8 i hi)
  clear q2_8 i6_8 q7_8 t1_8 v3_8 v4_8 cA8 cH8 cG8
  have i9 : xIs3 D ad9 (b + 88) Sh9 (b + 45) := n9.1
  refine x_conv (lv2 := [(0, .ref (ad9 (b))), (1, .int 1)]) (st2 := [.ref (ad9 (b + 45)), .int 1, .ref (ad9 (b + 1))]) (by simp only [(s9 (b) (by omega)).1]) (by simp only [r9, (s9 (b + 1) (by omega)).1]) ?_
  refine xr_astq (pc := 43) (t0 := 5) (n0 := 14) (cid := D.1 105) X9 (b + 1) (b + 45) (fun _ => .inl (D.1 105, 14, .inr (.inr (.inr (.inr (va_up (va_up (fun _ => none) 0 (some (ad9 (b + 2)))) 1 (some (ad9 (b + 45))))))))) (by omega) (by omega) (by rw [q7_9]) rfl (by rw [i9.1.2]; rfl) (C := RX3) (T := TX3) (NF := 5) (ci := 3) rfl (vp_in_nI (n := 1) (N := 14) (by decide) (by decide)) rfl dX1_init_43 ?_
  obtain ⟨Sh10, y10⟩ : ∃ z, z = xupS Sh9 (b + 1) (fun _ => .inl (D.1 105, 14, .inr (.inr (.inr (.inr (va_up (va_up (fun _ => none) 0 (some (ad9 (b + 2)))) 1 (some (ad9 (b + 45))))))))) := ⟨_, rfl⟩
  rw [← y10]
  have s10 : ∀ i, i ≠ b + 1 → Sh10 i = Sh9 i := fun i hb => by rw [y10]; exact if_neg hb
  have q10 : Sh10 (b + 1) = (fun _ => .inl (D.1 105, 14, .inr (.inr (.inr (.inr (va_up (va_up (fun _ => none) 0 (some (ad9 (b + 2)))) 1 (some (ad9 (b + 45))))))))) := by rw [y10]; exact if_pos rfl
  clear y10
  have q2_10 : Sh10 (b) = (fun r => .inr (1, [.ref (ad9 (b + 1)), .int (r 1), .int (r 2)])) := (s10 (b) (by omega)).trans q2_9
  have i6_10 : xIs3 D ad9 (b + 88) Sh10 (b + 2) := xIs3_ex i6_9 (fun i h1 h2 => ⟨rfl, s10 i (by omega)⟩) (by omega)
  have i9_10 : xIs3 D ad9 (b + 88) Sh10 (b + 45) := xIs3_ex i9 (fun i h1 h2 => ⟨rfl, s10 i (by omega)⟩) (by omega)
  have cH10 : ∀ i, i < b → Sh10 i = Sh0 i := fun i hi => (s10 i (by omega)).trans (cH9 i hi)
  clear q2_9 i6_9 q7_9 i9 cH9
  refine xr_iincC (pc := 44) X9 (i := 1) (j := 1) (v := 2) [1, 0] (Nat.le_of_ble_eq_true rfl) hnL rfl (by decide) rfl dX1_init_44 ?_
  refine x_conv (lv2 := [(0, .ref (ad9 (b))), (1, .int 2)]) (st2 := []) rfl rfl ?_
  refine xr_goto (pc := 47) X9 25 (by decide) dX1_init_47 ?_
  refine xr_iload_n (pc := 25) X9 (i := 1) 1 rfl rfl dX1_init_25 ?_
  refine xr_bipush (pc := 26) X9 dX1_init_26 (v := 14) (by decide) ?_
  refine x_convE (ex2 := if (14 : Int32) ≤ (2 : Int32) then some () else some ()) (by decide) ?_
  refine xr_icmp_ge (pc := 28) X9 50 (by decide) dX1_init_28 (fun hc => absurd hc (by decide)) (fun hc => ?_)
  refine xr_aload_n (pc := 31) X9 (i := 0) 0 rfl rfl dX1_init_31 ?_
  refine xr_getB (pc := 32) X9 (b) 0 (by omega) (by rw [q2_10]) (C := RX1) (T := TX1) (NF := 3) rfl hinX1 (by omega) wm_5_8 rfl rfl dX1_init_32 ?_
  refine xr_iload_n (pc := 35) X9 (i := 1) 1 rfl rfl dX1_init_35 ?_
  refine xr_new (pc := 36) X9 shB3 (C := RX3) (T := TX3) (NF := 5) (tyf := tyX3) rfl hinX3 tyX3_ok wm_5_7 wm_1_15 wm_1_16 rfl (fun j hj => by rcases (show j = 0 ∨ j = 1 ∨ j = 2 ∨ j = 3 ∨ j = 4 by omega) with rfl | rfl | rfl | rfl | rfl <;> rfl) (Nat.le_of_ble_eq_true rfl) (Nat.le_of_ble_eq_true rfl) dX1_init_36 (fun ad11 e11 X11 => ?_)
  obtain ⟨Sh11, y11⟩ : ∃ z, z = xupS Sh10 (b + 88) shB3 := ⟨_, rfl⟩
  obtain ⟨σ11, w11⟩ : ∃ z, z = xz σ9 (b + 88) := ⟨_, rfl⟩
  rw [← y11, ← w11]
  have s11 : ∀ i, i < b + 88 → ad11 i = ad9 i ∧ Sh11 i = Sh10 i ∧ σ11 i = σ9 i := fun i hi => ⟨e11 i hi, by rw [y11]; exact if_neg (Nat.ne_of_lt hi), by rw [w11]; exact if_neg (Nat.ne_of_lt hi)⟩
  have q11 : Sh11 (b + 88) = shB3 := by rw [y11]; exact if_pos rfl
  have t11 : σ11 (b + 88) = (fun _ => 0) := by rw [w11]; exact if_pos rfl
  clear e11 y11 w11
  have q2_11 : Sh11 (b) = (fun r => .inr (1, [.ref (ad11 (b + 1)), .int (r 1), .int (r 2)])) := ((s11 (b) (by omega)).2.1.trans q2_10).trans (by simp only [(s11 (b + 1) (by omega)).1])
  have i6_11 : xIs3 D ad11 (b + 89) Sh11 (b + 2) := xIs3_ex i6_10 (fun i h1 h2 => ⟨(s11 i (by omega)).1, (s11 i (by omega)).2.1⟩) (by omega)
  have i9_11 : xIs3 D ad11 (b + 89) Sh11 (b + 45) := xIs3_ex i9_10 (fun i h1 h2 => ⟨(s11 i (by omega)).1, (s11 i (by omega)).2.1⟩) (by omega)
  have q10_11 : Sh11 (b + 1) = (fun _ => .inl (D.1 105, 14, .inr (.inr (.inr (.inr (va_up (va_up (fun _ => none) 0 (some (ad11 (b + 2)))) 1 (some (ad11 (b + 45))))))))) := ((s11 (b + 1) (by omega)).2.1.trans q10).trans (by simp only [(s11 (b + 2) (by omega)).1, (s11 (b + 45) (by omega)).1])
  have t1_11 : σ11 (b + 1) = (fun _ => 0) := by rw [(s11 (b + 1) (by omega)).2.2]; exact t1_9
  have v3_11 : σ11 b 1 = 0 := by rw [(s11 (b) (by omega)).2.2]; exact v3_9
  have v4_11 : σ11 b 2 = 0 := by rw [(s11 (b) (by omega)).2.2]; exact v4_9
  have cA11 : ∀ i, i ≤ b → ad11 i = ad0 i := fun i hi => (s11 i (by omega)).1.trans (cA9 i hi)
  have cH11 : ∀ i, i < b → Sh11 i = Sh0 i := fun i hi => (s11 i (by omega)).2.1.trans (cH10 i hi)
  have cG11 : ∀ i, i < b → σ11 i = σ0 i := fun i hi => (s11 i (by omega)).2.2.trans (cG9 i hi)
  clear q2_10 i6_10 i9_10 q10 t1_9 v3_9 v4_9 cA9 cH10 cG9
  refine x_conv (lv2 := [(0, .ref (ad11 (b))), (1, .int 2)]) (st2 := [.ref (ad11 (b + 88)), .int 2, .ref (ad11 (b + 1))]) (by simp only [(s11 (b) (by omega)).1]) (by simp only [(s11 (b + 1) (by omega)).1]) ?_
  replace X11 : xC Γ _ _ _ _ _ D ad11 (b + 89) := X11
  refine x_convN (N2 := b + 89) rfl ?_
  refine xr_dup (pc := 39) X11 rfl dX1_init_39 ?_
  refine xr_callC (pc := 40) (na := 0) (b + 88) [] X11 hAO (c_X3_init Γ.2.1 D _) q11 t11 rfl (wG_1 wm_2_17) rfl rfl rfl (List.mem_cons_of_mem _ wm_1_16) (List.mem_cons_of_mem _ wm_5_11) (List.mem_cons_of_mem _ wm_2_16) rfl (by decide +kernel) ⟨(Nat.le_of_ble_eq_true rfl), (Nat.le_of_ble_eq_true rfl)⟩ rfl rfl (Nat.le_of_ble_eq_true rfl) ⟨(Nat.le_of_ble_eq_true rfl), (Nat.le_of_ble_eq_true rfl)⟩ dX1_init_40 (fun ad12 Sh12 σ12 p12 X12 => ?_)
  have s12 : ∀ i, i < b + 88 → ad12 i = ad11 i ∧ Sh12 i = Sh11 i ∧ σ12 i = σ11 i := fun i hi => ⟨p12.1 i (by omega), (p12.2.1 i hi).1, (p12.2.1 i hi).2⟩
  have n12 := p12.2.2
  have r12 : ad12 (b + 88) = ad11 (b + 88) := p12.1 _ (Nat.le_refl _)
  clear p12
  replace X12 : xC Γ _ _ _ _ _ D ad12 (b + 131) := X12
  refine x_convN (N2 := b + 131) rfl ?_
  have q2_12 : Sh12 (b) = (fun r => .inr (1, [.ref (ad12 (b + 1)), .int (r 1), .int (r 2)])) := ((s12 (b) (by omega)).2.1.trans q2_11).trans (by simp only [(s12 (b + 1) (by omega)).1])
  have i6_12 : xIs3 D ad12 (b + 131) Sh12 (b + 2) := xIs3_ex i6_11 (fun i h1 h2 => ⟨(s12 i (by omega)).1, (s12 i (by omega)).2.1⟩) (by omega)
  have i9_12 : xIs3 D ad12 (b + 131) Sh12 (b + 45) := xIs3_ex i9_11 (fun i h1 h2 => ⟨(s12 i (by omega)).1, (s12 i (by omega)).2.1⟩) (by omega)
  have q10_12 : Sh12 (b + 1) = (fun _ => .inl (D.1 105, 14, .inr (.inr (.inr (.inr (va_up (va_up (fun _ => none) 0 (some (ad12 (b + 2)))) 1 (some (ad12 (b + 45))))))))) := ((s12 (b + 1) (by omega)).2.1.trans q10_11).trans (by simp only [(s12 (b + 2) (by omega)).1, (s12 (b + 45) (by omega)).1])
  have t1_12 : σ12 (b + 1) = (fun _ => 0) := by rw [(s12 (b + 1) (by omega)).2.2]; exact t1_11
  have v3_12 : σ12 b 1 = 0 := by rw [(s12 (b) (by omega)).2.2]; exact v3_11
  have v4_12 : σ12 b 2 = 0 := by rw [(s12 (b) (by omega)).2.2]; exact v4_11
  have cA12 : ∀ i, i ≤ b → ad12 i = ad0 i := fun i hi => (s12 i (by omega)).1.trans (cA11 i hi)
  have cH12 : ∀ i, i < b → Sh12 i = Sh0 i := fun i hi => (s12 i (by omega)).2.1.trans (cH11 i hi)
  have cG12 : ∀ i, i < b → σ12 i = σ0 i := fun i hi => (s12 i (by omega)).2.2.trans (cG11 i hi)
  clear q2_11 i6_11 i9_11 q10_11 t1_11 v3_11 v4_11 cA11 cH11 cG11
  have i12 : xIs3 D ad12 (b + 131) Sh12 (b + 88) := n12.1
  refine x_conv (lv2 := [(0, .ref (ad12 (b))), (1, .int 2)]) (st2 := [.ref (ad12 (b + 88)), .int 2, .ref (ad12 (b + 1))]) (by simp only [(s12 (b) (by omega)).1]) (by simp only [r12, (s12 (b + 1) (by omega)).1]) ?_
  refine xr_astq (pc := 43) (t0 := 5) (n0 := 14) (cid := D.1 105) X12 (b + 1) (b + 88) (fun _ => .inl (D.1 105, 14, .inr (.inr (.inr (.inr (va_up (va_up (va_up (fun _ => none) 0 (some (ad12 (b + 2)))) 1 (some (ad12 (b + 45)))) 2 (some (ad12 (b + 88))))))))) (by omega) (by omega) (by rw [q10_12]) rfl (by rw [i12.1.2]; rfl) (C := RX3) (T := TX3) (NF := 5) (ci := 3) rfl (vp_in_nI (n := 2) (N := 14) (by decide) (by decide)) rfl dX1_init_43 ?_
  obtain ⟨Sh13, y13⟩ : ∃ z, z = xupS Sh12 (b + 1) (fun _ => .inl (D.1 105, 14, .inr (.inr (.inr (.inr (va_up (va_up (va_up (fun _ => none) 0 (some (ad12 (b + 2)))) 1 (some (ad12 (b + 45)))) 2 (some (ad12 (b + 88))))))))) := ⟨_, rfl⟩
  rw [← y13]
  have s13 : ∀ i, i ≠ b + 1 → Sh13 i = Sh12 i := fun i hb => by rw [y13]; exact if_neg hb
  have q13 : Sh13 (b + 1) = (fun _ => .inl (D.1 105, 14, .inr (.inr (.inr (.inr (va_up (va_up (va_up (fun _ => none) 0 (some (ad12 (b + 2)))) 1 (some (ad12 (b + 45)))) 2 (some (ad12 (b + 88))))))))) := by rw [y13]; exact if_pos rfl
  clear y13
  have q2_13 : Sh13 (b) = (fun r => .inr (1, [.ref (ad12 (b + 1)), .int (r 1), .int (r 2)])) := (s13 (b) (by omega)).trans q2_12
  have i6_13 : xIs3 D ad12 (b + 131) Sh13 (b + 2) := xIs3_ex i6_12 (fun i h1 h2 => ⟨rfl, s13 i (by omega)⟩) (by omega)
  have i9_13 : xIs3 D ad12 (b + 131) Sh13 (b + 45) := xIs3_ex i9_12 (fun i h1 h2 => ⟨rfl, s13 i (by omega)⟩) (by omega)
  have i12_13 : xIs3 D ad12 (b + 131) Sh13 (b + 88) := xIs3_ex i12 (fun i h1 h2 => ⟨rfl, s13 i (by omega)⟩) (by omega)
  have cH13 : ∀ i, i < b → Sh13 i = Sh0 i := fun i hi => (s13 i (by omega)).trans (cH12 i hi)
  clear q2_12 i6_12 i9_12 q10_12 i12 cH12
  refine xr_iincC (pc := 44) X12 (i := 1) (j := 1) (v := 3) [1, 0] (Nat.le_of_ble_eq_true rfl) hnL rfl (by decide) rfl dX1_init_44 ?_
  refine x_conv (lv2 := [(0, .ref (ad12 (b))), (1, .int 3)]) (st2 := []) rfl rfl ?_
  refine xr_goto (pc := 47) X12 25 (by decide) dX1_init_47 ?_
  refine xr_iload_n (pc := 25) X12 (i := 1) 1 rfl rfl dX1_init_25 ?_
  refine xr_bipush (pc := 26) X12 dX1_init_26 (v := 14) (by decide) ?_
  refine x_convE (ex2 := if (14 : Int32) ≤ (3 : Int32) then some () else some ()) (by decide) ?_
  refine xr_icmp_ge (pc := 28) X12 50 (by decide) dX1_init_28 (fun hc => absurd hc (by decide)) (fun hc => ?_)
  refine xr_aload_n (pc := 31) X12 (i := 0) 0 rfl rfl dX1_init_31 ?_
  refine xr_getB (pc := 32) X12 (b) 0 (by omega) (by rw [q2_13]) (C := RX1) (T := TX1) (NF := 3) rfl hinX1 (by omega) wm_5_8 rfl rfl dX1_init_32 ?_
  refine xr_iload_n (pc := 35) X12 (i := 1) 1 rfl rfl dX1_init_35 ?_
  refine xr_new (pc := 36) X12 shB3 (C := RX3) (T := TX3) (NF := 5) (tyf := tyX3) rfl hinX3 tyX3_ok wm_5_7 wm_1_15 wm_1_16 rfl (fun j hj => by rcases (show j = 0 ∨ j = 1 ∨ j = 2 ∨ j = 3 ∨ j = 4 by omega) with rfl | rfl | rfl | rfl | rfl <;> rfl) (Nat.le_of_ble_eq_true rfl) (Nat.le_of_ble_eq_true rfl) dX1_init_36 (fun ad14 e14 X14 => ?_)
  obtain ⟨Sh14, y14⟩ : ∃ z, z = xupS Sh13 (b + 131) shB3 := ⟨_, rfl⟩
  obtain ⟨σ14, w14⟩ : ∃ z, z = xz σ12 (b + 131) := ⟨_, rfl⟩
  rw [← y14, ← w14]
  have s14 : ∀ i, i < b + 131 → ad14 i = ad12 i ∧ Sh14 i = Sh13 i ∧ σ14 i = σ12 i := fun i hi => ⟨e14 i hi, by rw [y14]; exact if_neg (Nat.ne_of_lt hi), by rw [w14]; exact if_neg (Nat.ne_of_lt hi)⟩
  have q14 : Sh14 (b + 131) = shB3 := by rw [y14]; exact if_pos rfl
  have t14 : σ14 (b + 131) = (fun _ => 0) := by rw [w14]; exact if_pos rfl
  clear e14 y14 w14
  have q2_14 : Sh14 (b) = (fun r => .inr (1, [.ref (ad14 (b + 1)), .int (r 1), .int (r 2)])) := ((s14 (b) (by omega)).2.1.trans q2_13).trans (by simp only [(s14 (b + 1) (by omega)).1])
  have i6_14 : xIs3 D ad14 (b + 132) Sh14 (b + 2) := xIs3_ex i6_13 (fun i h1 h2 => ⟨(s14 i (by omega)).1, (s14 i (by omega)).2.1⟩) (by omega)
  have i9_14 : xIs3 D ad14 (b + 132) Sh14 (b + 45) := xIs3_ex i9_13 (fun i h1 h2 => ⟨(s14 i (by omega)).1, (s14 i (by omega)).2.1⟩) (by omega)
  have i12_14 : xIs3 D ad14 (b + 132) Sh14 (b + 88) := xIs3_ex i12_13 (fun i h1 h2 => ⟨(s14 i (by omega)).1, (s14 i (by omega)).2.1⟩) (by omega)
  have q13_14 : Sh14 (b + 1) = (fun _ => .inl (D.1 105, 14, .inr (.inr (.inr (.inr (va_up (va_up (va_up (fun _ => none) 0 (some (ad14 (b + 2)))) 1 (some (ad14 (b + 45)))) 2 (some (ad14 (b + 88))))))))) := ((s14 (b + 1) (by omega)).2.1.trans q13).trans (by simp only [(s14 (b + 2) (by omega)).1, (s14 (b + 45) (by omega)).1, (s14 (b + 88) (by omega)).1])
  have t1_14 : σ14 (b + 1) = (fun _ => 0) := by rw [(s14 (b + 1) (by omega)).2.2]; exact t1_12
  have v3_14 : σ14 b 1 = 0 := by rw [(s14 (b) (by omega)).2.2]; exact v3_12
  have v4_14 : σ14 b 2 = 0 := by rw [(s14 (b) (by omega)).2.2]; exact v4_12
  have cA14 : ∀ i, i ≤ b → ad14 i = ad0 i := fun i hi => (s14 i (by omega)).1.trans (cA12 i hi)
  have cH14 : ∀ i, i < b → Sh14 i = Sh0 i := fun i hi => (s14 i (by omega)).2.1.trans (cH13 i hi)
  have cG14 : ∀ i, i < b → σ14 i = σ0 i := fun i hi => (s14 i (by omega)).2.2.trans (cG12 i hi)
  clear q2_13 i6_13 i9_13 i12_13 q13 t1_12 v3_12 v4_12 cA12 cH13 cG12
  refine x_conv (lv2 := [(0, .ref (ad14 (b))), (1, .int 3)]) (st2 := [.ref (ad14 (b + 131)), .int 3, .ref (ad14 (b + 1))]) (by simp only [(s14 (b) (by omega)).1]) (by simp only [(s14 (b + 1) (by omega)).1]) ?_
  replace X14 : xC Γ _ _ _ _ _ D ad14 (b + 132) := X14
  refine x_convN (N2 := b + 132) rfl ?_
  refine xr_dup (pc := 39) X14 rfl dX1_init_39 ?_
  refine xr_callC (pc := 40) (na := 0) (b + 131) [] X14 hAO (c_X3_init Γ.2.1 D _) q14 t14 rfl (wG_1 wm_2_17) rfl rfl rfl (List.mem_cons_of_mem _ wm_1_16) (List.mem_cons_of_mem _ wm_5_11) (List.mem_cons_of_mem _ wm_2_16) rfl (by decide +kernel) ⟨(Nat.le_of_ble_eq_true rfl), (Nat.le_of_ble_eq_true rfl)⟩ rfl rfl (Nat.le_of_ble_eq_true rfl) ⟨(Nat.le_of_ble_eq_true rfl), (Nat.le_of_ble_eq_true rfl)⟩ dX1_init_40 (fun ad15 Sh15 σ15 p15 X15 => ?_)
  have s15 : ∀ i, i < b + 131 → ad15 i = ad14 i ∧ Sh15 i = Sh14 i ∧ σ15 i = σ14 i := fun i hi => ⟨p15.1 i (by omega), (p15.2.1 i hi).1, (p15.2.1 i hi).2⟩
  have n15 := p15.2.2
  have r15 : ad15 (b + 131) = ad14 (b + 131) := p15.1 _ (Nat.le_refl _)
  clear p15
  replace X15 : xC Γ _ _ _ _ _ D ad15 (b + 174) := X15
  refine x_convN (N2 := b + 174) rfl ?_
  have q2_15 : Sh15 (b) = (fun r => .inr (1, [.ref (ad15 (b + 1)), .int (r 1), .int (r 2)])) := ((s15 (b) (by omega)).2.1.trans q2_14).trans (by simp only [(s15 (b + 1) (by omega)).1])
  have i6_15 : xIs3 D ad15 (b + 174) Sh15 (b + 2) := xIs3_ex i6_14 (fun i h1 h2 => ⟨(s15 i (by omega)).1, (s15 i (by omega)).2.1⟩) (by omega)
  have i9_15 : xIs3 D ad15 (b + 174) Sh15 (b + 45) := xIs3_ex i9_14 (fun i h1 h2 => ⟨(s15 i (by omega)).1, (s15 i (by omega)).2.1⟩) (by omega)
  have i12_15 : xIs3 D ad15 (b + 174) Sh15 (b + 88) := xIs3_ex i12_14 (fun i h1 h2 => ⟨(s15 i (by omega)).1, (s15 i (by omega)).2.1⟩) (by omega)
  have q13_15 : Sh15 (b + 1) = (fun _ => .inl (D.1 105, 14, .inr (.inr (.inr (.inr (va_up (va_up (va_up (fun _ => none) 0 (some (ad15 (b + 2)))) 1 (some (ad15 (b + 45)))) 2 (some (ad15 (b + 88))))))))) := ((s15 (b + 1) (by omega)).2.1.trans q13_14).trans (by simp only [(s15 (b + 2) (by omega)).1, (s15 (b + 45) (by omega)).1, (s15 (b + 88) (by omega)).1])
  have t1_15 : σ15 (b + 1) = (fun _ => 0) := by rw [(s15 (b + 1) (by omega)).2.2]; exact t1_14
  have v3_15 : σ15 b 1 = 0 := by rw [(s15 (b) (by omega)).2.2]; exact v3_14
  have v4_15 : σ15 b 2 = 0 := by rw [(s15 (b) (by omega)).2.2]; exact v4_14
  have cA15 : ∀ i, i ≤ b → ad15 i = ad0 i := fun i hi => (s15 i (by omega)).1.trans (cA14 i hi)
  have cH15 : ∀ i, i < b → Sh15 i = Sh0 i := fun i hi => (s15 i (by omega)).2.1.trans (cH14 i hi)
  have cG15 : ∀ i, i < b → σ15 i = σ0 i := fun i hi => (s15 i (by omega)).2.2.trans (cG14 i hi)
  clear q2_14 i6_14 i9_14 i12_14 q13_14 t1_14 v3_14 v4_14 cA14 cH14 cG14
  have i15 : xIs3 D ad15 (b + 174) Sh15 (b + 131) := n15.1
  refine x_conv (lv2 := [(0, .ref (ad15 (b))), (1, .int 3)]) (st2 := [.ref (ad15 (b + 131)), .int 3, .ref (ad15 (b + 1))]) (by simp only [(s15 (b) (by omega)).1]) (by simp only [r15, (s15 (b + 1) (by omega)).1]) ?_
  refine xr_astq (pc := 43) (t0 := 5) (n0 := 14) (cid := D.1 105) X15 (b + 1) (b + 131) (fun _ => .inl (D.1 105, 14, .inr (.inr (.inr (.inr (va_up (va_up (va_up (va_up (fun _ => none) 0 (some (ad15 (b + 2)))) 1 (some (ad15 (b + 45)))) 2 (some (ad15 (b + 88)))) 3 (some (ad15 (b + 131))))))))) (by omega) (by omega) (by rw [q13_15]) rfl (by rw [i15.1.2]; rfl) (C := RX3) (T := TX3) (NF := 5) (ci := 3) rfl (vp_in_nI (n := 3) (N := 14) (by decide) (by decide)) rfl dX1_init_43 ?_
  obtain ⟨Sh16, y16⟩ : ∃ z, z = xupS Sh15 (b + 1) (fun _ => .inl (D.1 105, 14, .inr (.inr (.inr (.inr (va_up (va_up (va_up (va_up (fun _ => none) 0 (some (ad15 (b + 2)))) 1 (some (ad15 (b + 45)))) 2 (some (ad15 (b + 88)))) 3 (some (ad15 (b + 131))))))))) := ⟨_, rfl⟩
  rw [← y16]
  have s16 : ∀ i, i ≠ b + 1 → Sh16 i = Sh15 i := fun i hb => by rw [y16]; exact if_neg hb
  have q16 : Sh16 (b + 1) = (fun _ => .inl (D.1 105, 14, .inr (.inr (.inr (.inr (va_up (va_up (va_up (va_up (fun _ => none) 0 (some (ad15 (b + 2)))) 1 (some (ad15 (b + 45)))) 2 (some (ad15 (b + 88)))) 3 (some (ad15 (b + 131))))))))) := by rw [y16]; exact if_pos rfl
  clear y16
  have q2_16 : Sh16 (b) = (fun r => .inr (1, [.ref (ad15 (b + 1)), .int (r 1), .int (r 2)])) := (s16 (b) (by omega)).trans q2_15
  have i6_16 : xIs3 D ad15 (b + 174) Sh16 (b + 2) := xIs3_ex i6_15 (fun i h1 h2 => ⟨rfl, s16 i (by omega)⟩) (by omega)
  have i9_16 : xIs3 D ad15 (b + 174) Sh16 (b + 45) := xIs3_ex i9_15 (fun i h1 h2 => ⟨rfl, s16 i (by omega)⟩) (by omega)
  have i12_16 : xIs3 D ad15 (b + 174) Sh16 (b + 88) := xIs3_ex i12_15 (fun i h1 h2 => ⟨rfl, s16 i (by omega)⟩) (by omega)
  have i15_16 : xIs3 D ad15 (b + 174) Sh16 (b + 131) := xIs3_ex i15 (fun i h1 h2 => ⟨rfl, s16 i (by omega)⟩) (by omega)
  have cH16 : ∀ i, i < b → Sh16 i = Sh0 i := fun i hi => (s16 i (by omega)).trans (cH15 i hi)
  clear q2_15 i6_15 i9_15 i12_15 q13_15 i15 cH15
  refine xr_iincC (pc := 44) X15 (i := 1) (j := 1) (v := 4) [1, 0] (Nat.le_of_ble_eq_true rfl) hnL rfl (by decide) rfl dX1_init_44 ?_
  refine x_conv (lv2 := [(0, .ref (ad15 (b))), (1, .int 4)]) (st2 := []) rfl rfl ?_
  refine xr_goto (pc := 47) X15 25 (by decide) dX1_init_47 ?_
  refine xr_iload_n (pc := 25) X15 (i := 1) 1 rfl rfl dX1_init_25 ?_
  refine xr_bipush (pc := 26) X15 dX1_init_26 (v := 14) (by decide) ?_
  refine x_convE (ex2 := if (14 : Int32) ≤ (4 : Int32) then some () else some ()) (by decide) ?_
  refine xr_icmp_ge (pc := 28) X15 50 (by decide) dX1_init_28 (fun hc => absurd hc (by decide)) (fun hc => ?_)
  refine xr_aload_n (pc := 31) X15 (i := 0) 0 rfl rfl dX1_init_31 ?_
  refine xr_getB (pc := 32) X15 (b) 0 (by omega) (by rw [q2_16]) (C := RX1) (T := TX1) (NF := 3) rfl hinX1 (by omega) wm_5_8 rfl rfl dX1_init_32 ?_
  refine xr_iload_n (pc := 35) X15 (i := 1) 1 rfl rfl dX1_init_35 ?_
  refine xr_new (pc := 36) X15 shB3 (C := RX3) (T := TX3) (NF := 5) (tyf := tyX3) rfl hinX3 tyX3_ok wm_5_7 wm_1_15 wm_1_16 rfl (fun j hj => by rcases (show j = 0 ∨ j = 1 ∨ j = 2 ∨ j = 3 ∨ j = 4 by omega) with rfl | rfl | rfl | rfl | rfl <;> rfl) (Nat.le_of_ble_eq_true rfl) (Nat.le_of_ble_eq_true rfl) dX1_init_36 (fun ad17 e17 X17 => ?_)
  obtain ⟨Sh17, y17⟩ : ∃ z, z = xupS Sh16 (b + 174) shB3 := ⟨_, rfl⟩
  obtain ⟨σ17, w17⟩ : ∃ z, z = xz σ15 (b + 174) := ⟨_, rfl⟩
  rw [← y17, ← w17]
  have s17 : ∀ i, i < b + 174 → ad17 i = ad15 i ∧ Sh17 i = Sh16 i ∧ σ17 i = σ15 i := fun i hi => ⟨e17 i hi, by rw [y17]; exact if_neg (Nat.ne_of_lt hi), by rw [w17]; exact if_neg (Nat.ne_of_lt hi)⟩
  have q17 : Sh17 (b + 174) = shB3 := by rw [y17]; exact if_pos rfl
  have t17 : σ17 (b + 174) = (fun _ => 0) := by rw [w17]; exact if_pos rfl
  clear e17 y17 w17
  have q2_17 : Sh17 (b) = (fun r => .inr (1, [.ref (ad17 (b + 1)), .int (r 1), .int (r 2)])) := ((s17 (b) (by omega)).2.1.trans q2_16).trans (by simp only [(s17 (b + 1) (by omega)).1])
  have i6_17 : xIs3 D ad17 (b + 175) Sh17 (b + 2) := xIs3_ex i6_16 (fun i h1 h2 => ⟨(s17 i (by omega)).1, (s17 i (by omega)).2.1⟩) (by omega)
  have i9_17 : xIs3 D ad17 (b + 175) Sh17 (b + 45) := xIs3_ex i9_16 (fun i h1 h2 => ⟨(s17 i (by omega)).1, (s17 i (by omega)).2.1⟩) (by omega)
  have i12_17 : xIs3 D ad17 (b + 175) Sh17 (b + 88) := xIs3_ex i12_16 (fun i h1 h2 => ⟨(s17 i (by omega)).1, (s17 i (by omega)).2.1⟩) (by omega)
  have i15_17 : xIs3 D ad17 (b + 175) Sh17 (b + 131) := xIs3_ex i15_16 (fun i h1 h2 => ⟨(s17 i (by omega)).1, (s17 i (by omega)).2.1⟩) (by omega)
  have q16_17 : Sh17 (b + 1) = (fun _ => .inl (D.1 105, 14, .inr (.inr (.inr (.inr (va_up (va_up (va_up (va_up (fun _ => none) 0 (some (ad17 (b + 2)))) 1 (some (ad17 (b + 45)))) 2 (some (ad17 (b + 88)))) 3 (some (ad17 (b + 131))))))))) := ((s17 (b + 1) (by omega)).2.1.trans q16).trans (by simp only [(s17 (b + 2) (by omega)).1, (s17 (b + 45) (by omega)).1, (s17 (b + 88) (by omega)).1, (s17 (b + 131) (by omega)).1])
  have t1_17 : σ17 (b + 1) = (fun _ => 0) := by rw [(s17 (b + 1) (by omega)).2.2]; exact t1_15
  have v3_17 : σ17 b 1 = 0 := by rw [(s17 (b) (by omega)).2.2]; exact v3_15
  have v4_17 : σ17 b 2 = 0 := by rw [(s17 (b) (by omega)).2.2]; exact v4_15
  have cA17 : ∀ i, i ≤ b → ad17 i = ad0 i := fun i hi => (s17 i (by omega)).1.trans (cA15 i hi)
  have cH17 : ∀ i, i < b → Sh17 i = Sh0 i := fun i hi => (s17 i (by omega)).2.1.trans (cH16 i hi)
  have cG17 : ∀ i, i < b → σ17 i = σ0 i := fun i hi => (s17 i (by omega)).2.2.trans (cG15 i hi)
  clear q2_16 i6_16 i9_16 i12_16 i15_16 q16 t1_15 v3_15 v4_15 cA15 cH16 cG15
  refine x_conv (lv2 := [(0, .ref (ad17 (b))), (1, .int 4)]) (st2 := [.ref (ad17 (b + 174)), .int 4, .ref (ad17 (b + 1))]) (by simp only [(s17 (b) (by omega)).1]) (by simp only [(s17 (b + 1) (by omega)).1]) ?_
  replace X17 : xC Γ _ _ _ _ _ D ad17 (b + 175) := X17
  refine x_convN (N2 := b + 175) rfl ?_
  refine xr_dup (pc := 39) X17 rfl dX1_init_39 ?_
  refine xr_callC (pc := 40) (na := 0) (b + 174) [] X17 hAO (c_X3_init Γ.2.1 D _) q17 t17 rfl (wG_1 wm_2_17) rfl rfl rfl (List.mem_cons_of_mem _ wm_1_16) (List.mem_cons_of_mem _ wm_5_11) (List.mem_cons_of_mem _ wm_2_16) rfl (by decide +kernel) ⟨(Nat.le_of_ble_eq_true rfl), (Nat.le_of_ble_eq_true rfl)⟩ rfl rfl (Nat.le_of_ble_eq_true rfl) ⟨(Nat.le_of_ble_eq_true rfl), (Nat.le_of_ble_eq_true rfl)⟩ dX1_init_40 (fun ad18 Sh18 σ18 p18 X18 => ?_)
  have s18 : ∀ i, i < b + 174 → ad18 i = ad17 i ∧ Sh18 i = Sh17 i ∧ σ18 i = σ17 i := fun i hi => ⟨p18.1 i (by omega), (p18.2.1 i hi).1, (p18.2.1 i hi).2⟩
  have n18 := p18.2.2
  have r18 : ad18 (b + 174) = ad17 (b + 174) := p18.1 _ (Nat.le_refl _)
  clear p18
  replace X18 : xC Γ _ _ _ _ _ D ad18 (b + 217) := X18
  refine x_convN (N2 := b + 217) rfl ?_
  have q2_18 : Sh18 (b) = (fun r => .inr (1, [.ref (ad18 (b + 1)), .int (r 1), .int (r 2)])) := ((s18 (b) (by omega)).2.1.trans q2_17).trans (by simp only [(s18 (b + 1) (by omega)).1])
  have i6_18 : xIs3 D ad18 (b + 217) Sh18 (b + 2) := xIs3_ex i6_17 (fun i h1 h2 => ⟨(s18 i (by omega)).1, (s18 i (by omega)).2.1⟩) (by omega)
  have i9_18 : xIs3 D ad18 (b + 217) Sh18 (b + 45) := xIs3_ex i9_17 (fun i h1 h2 => ⟨(s18 i (by omega)).1, (s18 i (by omega)).2.1⟩) (by omega)
  have i12_18 : xIs3 D ad18 (b + 217) Sh18 (b + 88) := xIs3_ex i12_17 (fun i h1 h2 => ⟨(s18 i (by omega)).1, (s18 i (by omega)).2.1⟩) (by omega)
  have i15_18 : xIs3 D ad18 (b + 217) Sh18 (b + 131) := xIs3_ex i15_17 (fun i h1 h2 => ⟨(s18 i (by omega)).1, (s18 i (by omega)).2.1⟩) (by omega)
  have q16_18 : Sh18 (b + 1) = (fun _ => .inl (D.1 105, 14, .inr (.inr (.inr (.inr (va_up (va_up (va_up (va_up (fun _ => none) 0 (some (ad18 (b + 2)))) 1 (some (ad18 (b + 45)))) 2 (some (ad18 (b + 88)))) 3 (some (ad18 (b + 131))))))))) := ((s18 (b + 1) (by omega)).2.1.trans q16_17).trans (by simp only [(s18 (b + 2) (by omega)).1, (s18 (b + 45) (by omega)).1, (s18 (b + 88) (by omega)).1, (s18 (b + 131) (by omega)).1])
  have t1_18 : σ18 (b + 1) = (fun _ => 0) := by rw [(s18 (b + 1) (by omega)).2.2]; exact t1_17
  have v3_18 : σ18 b 1 = 0 := by rw [(s18 (b) (by omega)).2.2]; exact v3_17
  have v4_18 : σ18 b 2 = 0 := by rw [(s18 (b) (by omega)).2.2]; exact v4_17
  have cA18 : ∀ i, i ≤ b → ad18 i = ad0 i := fun i hi => (s18 i (by omega)).1.trans (cA17 i hi)
  have cH18 : ∀ i, i < b → Sh18 i = Sh0 i := fun i hi => (s18 i (by omega)).2.1.trans (cH17 i hi)
  have cG18 : ∀ i, i < b → σ18 i = σ0 i := fun i hi => (s18 i (by omega)).2.2.trans (cG17 i hi)
  clear q2_17 i6_17 i9_17 i12_17 i15_17 q16_17 t1_17 v3_17 v4_17 cA17 cH17 cG17
  have i18 : xIs3 D ad18 (b + 217) Sh18 (b + 174) := n18.1
  refine x_conv (lv2 := [(0, .ref (ad18 (b))), (1, .int 4)]) (st2 := [.ref (ad18 (b + 174)), .int 4, .ref (ad18 (b + 1))]) (by simp only [(s18 (b) (by omega)).1]) (by simp only [r18, (s18 (b + 1) (by omega)).1]) ?_
  refine xr_astq (pc := 43) (t0 := 5) (n0 := 14) (cid := D.1 105) X18 (b + 1) (b + 174) (fun _ => .inl (D.1 105, 14, .inr (.inr (.inr (.inr (va_up (va_up (va_up (va_up (va_up (fun _ => none) 0 (some (ad18 (b + 2)))) 1 (some (ad18 (b + 45)))) 2 (some (ad18 (b + 88)))) 3 (some (ad18 (b + 131)))) 4 (some (ad18 (b + 174))))))))) (by omega) (by omega) (by rw [q16_18]) rfl (by rw [i18.1.2]; rfl) (C := RX3) (T := TX3) (NF := 5) (ci := 3) rfl (vp_in_nI (n := 4) (N := 14) (by decide) (by decide)) rfl dX1_init_43 ?_
  obtain ⟨Sh19, y19⟩ : ∃ z, z = xupS Sh18 (b + 1) (fun _ => .inl (D.1 105, 14, .inr (.inr (.inr (.inr (va_up (va_up (va_up (va_up (va_up (fun _ => none) 0 (some (ad18 (b + 2)))) 1 (some (ad18 (b + 45)))) 2 (some (ad18 (b + 88)))) 3 (some (ad18 (b + 131)))) 4 (some (ad18 (b + 174))))))))) := ⟨_, rfl⟩
  rw [← y19]
  have s19 : ∀ i, i ≠ b + 1 → Sh19 i = Sh18 i := fun i hb => by rw [y19]; exact if_neg hb
  have q19 : Sh19 (b + 1) = (fun _ => .inl (D.1 105, 14, .inr (.inr (.inr (.inr (va_up (va_up (va_up (va_up (va_up (fun _ => none) 0 (some (ad18 (b + 2)))) 1 (some (ad18 (b + 45)))) 2 (some (ad18 (b + 88)))) 3 (some (ad18 (b + 131)))) 4 (some (ad18 (b + 174))))))))) := by rw [y19]; exact if_pos rfl
  clear y19
  have q2_19 : Sh19 (b) = (fun r => .inr (1, [.ref (ad18 (b + 1)), .int (r 1), .int (r 2)])) := (s19 (b) (by omega)).trans q2_18
  have i6_19 : xIs3 D ad18 (b + 217) Sh19 (b + 2) := xIs3_ex i6_18 (fun i h1 h2 => ⟨rfl, s19 i (by omega)⟩) (by omega)
  have i9_19 : xIs3 D ad18 (b + 217) Sh19 (b + 45) := xIs3_ex i9_18 (fun i h1 h2 => ⟨rfl, s19 i (by omega)⟩) (by omega)
  have i12_19 : xIs3 D ad18 (b + 217) Sh19 (b + 88) := xIs3_ex i12_18 (fun i h1 h2 => ⟨rfl, s19 i (by omega)⟩) (by omega)
  have i15_19 : xIs3 D ad18 (b + 217) Sh19 (b + 131) := xIs3_ex i15_18 (fun i h1 h2 => ⟨rfl, s19 i (by omega)⟩) (by omega)
  have i18_19 : xIs3 D ad18 (b + 217) Sh19 (b + 174) := xIs3_ex i18 (fun i h1 h2 => ⟨rfl, s19 i (by omega)⟩) (by omega)
  have cH19 : ∀ i, i < b → Sh19 i = Sh0 i := fun i hi => (s19 i (by omega)).trans (cH18 i hi)
  clear q2_18 i6_18 i9_18 i12_18 i15_18 q16_18 i18 cH18
  refine xr_iincC (pc := 44) X18 (i := 1) (j := 1) (v := 5) [1, 0] (Nat.le_of_ble_eq_true rfl) hnL rfl (by decide) rfl dX1_init_44 ?_
  refine x_conv (lv2 := [(0, .ref (ad18 (b))), (1, .int 5)]) (st2 := []) rfl rfl ?_
  refine xr_goto (pc := 47) X18 25 (by decide) dX1_init_47 ?_
  refine xr_iload_n (pc := 25) X18 (i := 1) 1 rfl rfl dX1_init_25 ?_
  refine xr_bipush (pc := 26) X18 dX1_init_26 (v := 14) (by decide) ?_
  refine x_convE (ex2 := if (14 : Int32) ≤ (5 : Int32) then some () else some ()) (by decide) ?_
  refine xr_icmp_ge (pc := 28) X18 50 (by decide) dX1_init_28 (fun hc => absurd hc (by decide)) (fun hc => ?_)
  refine xr_aload_n (pc := 31) X18 (i := 0) 0 rfl rfl dX1_init_31 ?_
  refine xr_getB (pc := 32) X18 (b) 0 (by omega) (by rw [q2_19]) (C := RX1) (T := TX1) (NF := 3) rfl hinX1 (by omega) wm_5_8 rfl rfl dX1_init_32 ?_
  refine xr_iload_n (pc := 35) X18 (i := 1) 1 rfl rfl dX1_init_35 ?_
  refine xr_new (pc := 36) X18 shB3 (C := RX3) (T := TX3) (NF := 5) (tyf := tyX3) rfl hinX3 tyX3_ok wm_5_7 wm_1_15 wm_1_16 rfl (fun j hj => by rcases (show j = 0 ∨ j = 1 ∨ j = 2 ∨ j = 3 ∨ j = 4 by omega) with rfl | rfl | rfl | rfl | rfl <;> rfl) (Nat.le_of_ble_eq_true rfl) (Nat.le_of_ble_eq_true rfl) dX1_init_36 (fun ad20 e20 X20 => ?_)
  obtain ⟨Sh20, y20⟩ : ∃ z, z = xupS Sh19 (b + 217) shB3 := ⟨_, rfl⟩
  obtain ⟨σ20, w20⟩ : ∃ z, z = xz σ18 (b + 217) := ⟨_, rfl⟩
  rw [← y20, ← w20]
  have s20 : ∀ i, i < b + 217 → ad20 i = ad18 i ∧ Sh20 i = Sh19 i ∧ σ20 i = σ18 i := fun i hi => ⟨e20 i hi, by rw [y20]; exact if_neg (Nat.ne_of_lt hi), by rw [w20]; exact if_neg (Nat.ne_of_lt hi)⟩
  have q20 : Sh20 (b + 217) = shB3 := by rw [y20]; exact if_pos rfl
  have t20 : σ20 (b + 217) = (fun _ => 0) := by rw [w20]; exact if_pos rfl
  clear e20 y20 w20
  have q2_20 : Sh20 (b) = (fun r => .inr (1, [.ref (ad20 (b + 1)), .int (r 1), .int (r 2)])) := ((s20 (b) (by omega)).2.1.trans q2_19).trans (by simp only [(s20 (b + 1) (by omega)).1])
  have i6_20 : xIs3 D ad20 (b + 218) Sh20 (b + 2) := xIs3_ex i6_19 (fun i h1 h2 => ⟨(s20 i (by omega)).1, (s20 i (by omega)).2.1⟩) (by omega)
  have i9_20 : xIs3 D ad20 (b + 218) Sh20 (b + 45) := xIs3_ex i9_19 (fun i h1 h2 => ⟨(s20 i (by omega)).1, (s20 i (by omega)).2.1⟩) (by omega)
  have i12_20 : xIs3 D ad20 (b + 218) Sh20 (b + 88) := xIs3_ex i12_19 (fun i h1 h2 => ⟨(s20 i (by omega)).1, (s20 i (by omega)).2.1⟩) (by omega)
  have i15_20 : xIs3 D ad20 (b + 218) Sh20 (b + 131) := xIs3_ex i15_19 (fun i h1 h2 => ⟨(s20 i (by omega)).1, (s20 i (by omega)).2.1⟩) (by omega)
  have i18_20 : xIs3 D ad20 (b + 218) Sh20 (b + 174) := xIs3_ex i18_19 (fun i h1 h2 => ⟨(s20 i (by omega)).1, (s20 i (by omega)).2.1⟩) (by omega)
  have q19_20 : Sh20 (b + 1) = (fun _ => .inl (D.1 105, 14, .inr (.inr (.inr (.inr (va_up (va_up (va_up (va_up (va_up (fun _ => none) 0 (some (ad20 (b + 2)))) 1 (some (ad20 (b + 45)))) 2 (some (ad20 (b + 88)))) 3 (some (ad20 (b + 131)))) 4 (some (ad20 (b + 174))))))))) := ((s20 (b + 1) (by omega)).2.1.trans q19).trans (by simp only [(s20 (b + 2) (by omega)).1, (s20 (b + 45) (by omega)).1, (s20 (b + 88) (by omega)).1, (s20 (b + 131) (by omega)).1, (s20 (b + 174) (by omega)).1])
  have t1_20 : σ20 (b + 1) = (fun _ => 0) := by rw [(s20 (b + 1) (by omega)).2.2]; exact t1_18
  have v3_20 : σ20 b 1 = 0 := by rw [(s20 (b) (by omega)).2.2]; exact v3_18
  have v4_20 : σ20 b 2 = 0 := by rw [(s20 (b) (by omega)).2.2]; exact v4_18
  have cA20 : ∀ i, i ≤ b → ad20 i = ad0 i := fun i hi => (s20 i (by omega)).1.trans (cA18 i hi)
  have cH20 : ∀ i, i < b → Sh20 i = Sh0 i := fun i hi => (s20 i (by omega)).2.1.trans (cH19 i hi)
  have cG20 : ∀ i, i < b → σ20 i = σ0 i := fun i hi => (s20 i (by omega)).2.2.trans (cG18 i hi)
  clear q2_19 i6_19 i9_19 i12_19 i15_19 i18_19 q19 t1_18 v3_18 v4_18 cA18 cH19 cG18
  refine x_conv (lv2 := [(0, .ref (ad20 (b))), (1, .int 5)]) (st2 := [.ref (ad20 (b + 217)), .int 5, .ref (ad20 (b + 1))]) (by simp only [(s20 (b) (by omega)).1]) (by simp only [(s20 (b + 1) (by omega)).1]) ?_
  replace X20 : xC Γ _ _ _ _ _ D ad20 (b + 218) := X20
  refine x_convN (N2 := b + 218) rfl ?_
  refine xr_dup (pc := 39) X20 rfl dX1_init_39 ?_
  refine xr_callC (pc := 40) (na := 0) (b + 217) [] X20 hAO (c_X3_init Γ.2.1 D _) q20 t20 rfl (wG_1 wm_2_17) rfl rfl rfl (List.mem_cons_of_mem _ wm_1_16) (List.mem_cons_of_mem _ wm_5_11) (List.mem_cons_of_mem _ wm_2_16) rfl (by decide +kernel) ⟨(Nat.le_of_ble_eq_true rfl), (Nat.le_of_ble_eq_true rfl)⟩ rfl rfl (Nat.le_of_ble_eq_true rfl) ⟨(Nat.le_of_ble_eq_true rfl), (Nat.le_of_ble_eq_true rfl)⟩ dX1_init_40 (fun ad21 Sh21 σ21 p21 X21 => ?_)
  have s21 : ∀ i, i < b + 217 → ad21 i = ad20 i ∧ Sh21 i = Sh20 i ∧ σ21 i = σ20 i := fun i hi => ⟨p21.1 i (by omega), (p21.2.1 i hi).1, (p21.2.1 i hi).2⟩
  have n21 := p21.2.2
  have r21 : ad21 (b + 217) = ad20 (b + 217) := p21.1 _ (Nat.le_refl _)
  clear p21
  replace X21 : xC Γ _ _ _ _ _ D ad21 (b + 260) := X21
  refine x_convN (N2 := b + 260) rfl ?_
  have q2_21 : Sh21 (b) = (fun r => .inr (1, [.ref (ad21 (b + 1)), .int (r 1), .int (r 2)])) := ((s21 (b) (by omega)).2.1.trans q2_20).trans (by simp only [(s21 (b + 1) (by omega)).1])
  have i6_21 : xIs3 D ad21 (b + 260) Sh21 (b + 2) := xIs3_ex i6_20 (fun i h1 h2 => ⟨(s21 i (by omega)).1, (s21 i (by omega)).2.1⟩) (by omega)
  have i9_21 : xIs3 D ad21 (b + 260) Sh21 (b + 45) := xIs3_ex i9_20 (fun i h1 h2 => ⟨(s21 i (by omega)).1, (s21 i (by omega)).2.1⟩) (by omega)
  have i12_21 : xIs3 D ad21 (b + 260) Sh21 (b + 88) := xIs3_ex i12_20 (fun i h1 h2 => ⟨(s21 i (by omega)).1, (s21 i (by omega)).2.1⟩) (by omega)
  have i15_21 : xIs3 D ad21 (b + 260) Sh21 (b + 131) := xIs3_ex i15_20 (fun i h1 h2 => ⟨(s21 i (by omega)).1, (s21 i (by omega)).2.1⟩) (by omega)
  have i18_21 : xIs3 D ad21 (b + 260) Sh21 (b + 174) := xIs3_ex i18_20 (fun i h1 h2 => ⟨(s21 i (by omega)).1, (s21 i (by omega)).2.1⟩) (by omega)
  have q19_21 : Sh21 (b + 1) = (fun _ => .inl (D.1 105, 14, .inr (.inr (.inr (.inr (va_up (va_up (va_up (va_up (va_up (fun _ => none) 0 (some (ad21 (b + 2)))) 1 (some (ad21 (b + 45)))) 2 (some (ad21 (b + 88)))) 3 (some (ad21 (b + 131)))) 4 (some (ad21 (b + 174))))))))) := ((s21 (b + 1) (by omega)).2.1.trans q19_20).trans (by simp only [(s21 (b + 2) (by omega)).1, (s21 (b + 45) (by omega)).1, (s21 (b + 88) (by omega)).1, (s21 (b + 131) (by omega)).1, (s21 (b + 174) (by omega)).1])
  have t1_21 : σ21 (b + 1) = (fun _ => 0) := by rw [(s21 (b + 1) (by omega)).2.2]; exact t1_20
  have v3_21 : σ21 b 1 = 0 := by rw [(s21 (b) (by omega)).2.2]; exact v3_20
  have v4_21 : σ21 b 2 = 0 := by rw [(s21 (b) (by omega)).2.2]; exact v4_20
  have cA21 : ∀ i, i ≤ b → ad21 i = ad0 i := fun i hi => (s21 i (by omega)).1.trans (cA20 i hi)
  have cH21 : ∀ i, i < b → Sh21 i = Sh0 i := fun i hi => (s21 i (by omega)).2.1.trans (cH20 i hi)
  have cG21 : ∀ i, i < b → σ21 i = σ0 i := fun i hi => (s21 i (by omega)).2.2.trans (cG20 i hi)
  clear q2_20 i6_20 i9_20 i12_20 i15_20 i18_20 q19_20 t1_20 v3_20 v4_20 cA20 cH20 cG20
  have i21 : xIs3 D ad21 (b + 260) Sh21 (b + 217) := n21.1
  refine x_conv (lv2 := [(0, .ref (ad21 (b))), (1, .int 5)]) (st2 := [.ref (ad21 (b + 217)), .int 5, .ref (ad21 (b + 1))]) (by simp only [(s21 (b) (by omega)).1]) (by simp only [r21, (s21 (b + 1) (by omega)).1]) ?_
  refine xr_astq (pc := 43) (t0 := 5) (n0 := 14) (cid := D.1 105) X21 (b + 1) (b + 217) (fun _ => .inl (D.1 105, 14, .inr (.inr (.inr (.inr (va_up (va_up (va_up (va_up (va_up (va_up (fun _ => none) 0 (some (ad21 (b + 2)))) 1 (some (ad21 (b + 45)))) 2 (some (ad21 (b + 88)))) 3 (some (ad21 (b + 131)))) 4 (some (ad21 (b + 174)))) 5 (some (ad21 (b + 217))))))))) (by omega) (by omega) (by rw [q19_21]) rfl (by rw [i21.1.2]; rfl) (C := RX3) (T := TX3) (NF := 5) (ci := 3) rfl (vp_in_nI (n := 5) (N := 14) (by decide) (by decide)) rfl dX1_init_43 ?_
  obtain ⟨Sh22, y22⟩ : ∃ z, z = xupS Sh21 (b + 1) (fun _ => .inl (D.1 105, 14, .inr (.inr (.inr (.inr (va_up (va_up (va_up (va_up (va_up (va_up (fun _ => none) 0 (some (ad21 (b + 2)))) 1 (some (ad21 (b + 45)))) 2 (some (ad21 (b + 88)))) 3 (some (ad21 (b + 131)))) 4 (some (ad21 (b + 174)))) 5 (some (ad21 (b + 217))))))))) := ⟨_, rfl⟩
  rw [← y22]
  have s22 : ∀ i, i ≠ b + 1 → Sh22 i = Sh21 i := fun i hb => by rw [y22]; exact if_neg hb
  have q22 : Sh22 (b + 1) = (fun _ => .inl (D.1 105, 14, .inr (.inr (.inr (.inr (va_up (va_up (va_up (va_up (va_up (va_up (fun _ => none) 0 (some (ad21 (b + 2)))) 1 (some (ad21 (b + 45)))) 2 (some (ad21 (b + 88)))) 3 (some (ad21 (b + 131)))) 4 (some (ad21 (b + 174)))) 5 (some (ad21 (b + 217))))))))) := by rw [y22]; exact if_pos rfl
  clear y22
  have q2_22 : Sh22 (b) = (fun r => .inr (1, [.ref (ad21 (b + 1)), .int (r 1), .int (r 2)])) := (s22 (b) (by omega)).trans q2_21
  have i6_22 : xIs3 D ad21 (b + 260) Sh22 (b + 2) := xIs3_ex i6_21 (fun i h1 h2 => ⟨rfl, s22 i (by omega)⟩) (by omega)
  have i9_22 : xIs3 D ad21 (b + 260) Sh22 (b + 45) := xIs3_ex i9_21 (fun i h1 h2 => ⟨rfl, s22 i (by omega)⟩) (by omega)
  have i12_22 : xIs3 D ad21 (b + 260) Sh22 (b + 88) := xIs3_ex i12_21 (fun i h1 h2 => ⟨rfl, s22 i (by omega)⟩) (by omega)
  have i15_22 : xIs3 D ad21 (b + 260) Sh22 (b + 131) := xIs3_ex i15_21 (fun i h1 h2 => ⟨rfl, s22 i (by omega)⟩) (by omega)
  have i18_22 : xIs3 D ad21 (b + 260) Sh22 (b + 174) := xIs3_ex i18_21 (fun i h1 h2 => ⟨rfl, s22 i (by omega)⟩) (by omega)
  have i21_22 : xIs3 D ad21 (b + 260) Sh22 (b + 217) := xIs3_ex i21 (fun i h1 h2 => ⟨rfl, s22 i (by omega)⟩) (by omega)
  have cH22 : ∀ i, i < b → Sh22 i = Sh0 i := fun i hi => (s22 i (by omega)).trans (cH21 i hi)
  clear q2_21 i6_21 i9_21 i12_21 i15_21 i18_21 q19_21 i21 cH21
  refine xr_iincC (pc := 44) X21 (i := 1) (j := 1) (v := 6) [1, 0] (Nat.le_of_ble_eq_true rfl) hnL rfl (by decide) rfl dX1_init_44 ?_
  refine x_conv (lv2 := [(0, .ref (ad21 (b))), (1, .int 6)]) (st2 := []) rfl rfl ?_
  refine xr_goto (pc := 47) X21 25 (by decide) dX1_init_47 ?_
  refine xr_iload_n (pc := 25) X21 (i := 1) 1 rfl rfl dX1_init_25 ?_
  refine xr_bipush (pc := 26) X21 dX1_init_26 (v := 14) (by decide) ?_
  refine x_convE (ex2 := if (14 : Int32) ≤ (6 : Int32) then some () else some ()) (by decide) ?_
  refine xr_icmp_ge (pc := 28) X21 50 (by decide) dX1_init_28 (fun hc => absurd hc (by decide)) (fun hc => ?_)
  refine xr_aload_n (pc := 31) X21 (i := 0) 0 rfl rfl dX1_init_31 ?_
  refine xr_getB (pc := 32) X21 (b) 0 (by omega) (by rw [q2_22]) (C := RX1) (T := TX1) (NF := 3) rfl hinX1 (by omega) wm_5_8 rfl rfl dX1_init_32 ?_
  refine xr_iload_n (pc := 35) X21 (i := 1) 1 rfl rfl dX1_init_35 ?_
  refine xr_new (pc := 36) X21 shB3 (C := RX3) (T := TX3) (NF := 5) (tyf := tyX3) rfl hinX3 tyX3_ok wm_5_7 wm_1_15 wm_1_16 rfl (fun j hj => by rcases (show j = 0 ∨ j = 1 ∨ j = 2 ∨ j = 3 ∨ j = 4 by omega) with rfl | rfl | rfl | rfl | rfl <;> rfl) (Nat.le_of_ble_eq_true rfl) (Nat.le_of_ble_eq_true rfl) dX1_init_36 (fun ad23 e23 X23 => ?_)
  obtain ⟨Sh23, y23⟩ : ∃ z, z = xupS Sh22 (b + 260) shB3 := ⟨_, rfl⟩
  obtain ⟨σ23, w23⟩ : ∃ z, z = xz σ21 (b + 260) := ⟨_, rfl⟩
  rw [← y23, ← w23]
  have s23 : ∀ i, i < b + 260 → ad23 i = ad21 i ∧ Sh23 i = Sh22 i ∧ σ23 i = σ21 i := fun i hi => ⟨e23 i hi, by rw [y23]; exact if_neg (Nat.ne_of_lt hi), by rw [w23]; exact if_neg (Nat.ne_of_lt hi)⟩
  have q23 : Sh23 (b + 260) = shB3 := by rw [y23]; exact if_pos rfl
  have t23 : σ23 (b + 260) = (fun _ => 0) := by rw [w23]; exact if_pos rfl
  clear e23 y23 w23
  have q2_23 : Sh23 (b) = (fun r => .inr (1, [.ref (ad23 (b + 1)), .int (r 1), .int (r 2)])) := ((s23 (b) (by omega)).2.1.trans q2_22).trans (by simp only [(s23 (b + 1) (by omega)).1])
  have i6_23 : xIs3 D ad23 (b + 261) Sh23 (b + 2) := xIs3_ex i6_22 (fun i h1 h2 => ⟨(s23 i (by omega)).1, (s23 i (by omega)).2.1⟩) (by omega)
  have i9_23 : xIs3 D ad23 (b + 261) Sh23 (b + 45) := xIs3_ex i9_22 (fun i h1 h2 => ⟨(s23 i (by omega)).1, (s23 i (by omega)).2.1⟩) (by omega)
  have i12_23 : xIs3 D ad23 (b + 261) Sh23 (b + 88) := xIs3_ex i12_22 (fun i h1 h2 => ⟨(s23 i (by omega)).1, (s23 i (by omega)).2.1⟩) (by omega)
  have i15_23 : xIs3 D ad23 (b + 261) Sh23 (b + 131) := xIs3_ex i15_22 (fun i h1 h2 => ⟨(s23 i (by omega)).1, (s23 i (by omega)).2.1⟩) (by omega)
  have i18_23 : xIs3 D ad23 (b + 261) Sh23 (b + 174) := xIs3_ex i18_22 (fun i h1 h2 => ⟨(s23 i (by omega)).1, (s23 i (by omega)).2.1⟩) (by omega)
  have i21_23 : xIs3 D ad23 (b + 261) Sh23 (b + 217) := xIs3_ex i21_22 (fun i h1 h2 => ⟨(s23 i (by omega)).1, (s23 i (by omega)).2.1⟩) (by omega)
  have q22_23 : Sh23 (b + 1) = (fun _ => .inl (D.1 105, 14, .inr (.inr (.inr (.inr (va_up (va_up (va_up (va_up (va_up (va_up (fun _ => none) 0 (some (ad23 (b + 2)))) 1 (some (ad23 (b + 45)))) 2 (some (ad23 (b + 88)))) 3 (some (ad23 (b + 131)))) 4 (some (ad23 (b + 174)))) 5 (some (ad23 (b + 217))))))))) := ((s23 (b + 1) (by omega)).2.1.trans q22).trans (by simp only [(s23 (b + 2) (by omega)).1, (s23 (b + 45) (by omega)).1, (s23 (b + 88) (by omega)).1, (s23 (b + 131) (by omega)).1, (s23 (b + 174) (by omega)).1, (s23 (b + 217) (by omega)).1])
  have t1_23 : σ23 (b + 1) = (fun _ => 0) := by rw [(s23 (b + 1) (by omega)).2.2]; exact t1_21
  have v3_23 : σ23 b 1 = 0 := by rw [(s23 (b) (by omega)).2.2]; exact v3_21
  have v4_23 : σ23 b 2 = 0 := by rw [(s23 (b) (by omega)).2.2]; exact v4_21
  have cA23 : ∀ i, i ≤ b → ad23 i = ad0 i := fun i hi => (s23 i (by omega)).1.trans (cA21 i hi)
  have cH23 : ∀ i, i < b → Sh23 i = Sh0 i := fun i hi => (s23 i (by omega)).2.1.trans (cH22 i hi)
  have cG23 : ∀ i, i < b → σ23 i = σ0 i := fun i hi => (s23 i (by omega)).2.2.trans (cG21 i hi)
  clear q2_22 i6_22 i9_22 i12_22 i15_22 i18_22 i21_22 q22 t1_21 v3_21 v4_21 cA21 cH22 cG21
  refine x_conv (lv2 := [(0, .ref (ad23 (b))), (1, .int 6)]) (st2 := [.ref (ad23 (b + 260)), .int 6, .ref (ad23 (b + 1))]) (by simp only [(s23 (b) (by omega)).1]) (by simp only [(s23 (b + 1) (by omega)).1]) ?_
  replace X23 : xC Γ _ _ _ _ _ D ad23 (b + 261) := X23
  refine x_convN (N2 := b + 261) rfl ?_
  refine xr_dup (pc := 39) X23 rfl dX1_init_39 ?_
  refine xr_callC (pc := 40) (na := 0) (b + 260) [] X23 hAO (c_X3_init Γ.2.1 D _) q23 t23 rfl (wG_1 wm_2_17) rfl rfl rfl (List.mem_cons_of_mem _ wm_1_16) (List.mem_cons_of_mem _ wm_5_11) (List.mem_cons_of_mem _ wm_2_16) rfl (by decide +kernel) ⟨(Nat.le_of_ble_eq_true rfl), (Nat.le_of_ble_eq_true rfl)⟩ rfl rfl (Nat.le_of_ble_eq_true rfl) ⟨(Nat.le_of_ble_eq_true rfl), (Nat.le_of_ble_eq_true rfl)⟩ dX1_init_40 (fun ad24 Sh24 σ24 p24 X24 => ?_)
  have s24 : ∀ i, i < b + 260 → ad24 i = ad23 i ∧ Sh24 i = Sh23 i ∧ σ24 i = σ23 i := fun i hi => ⟨p24.1 i (by omega), (p24.2.1 i hi).1, (p24.2.1 i hi).2⟩
  have n24 := p24.2.2
  have r24 : ad24 (b + 260) = ad23 (b + 260) := p24.1 _ (Nat.le_refl _)
  clear p24
  replace X24 : xC Γ _ _ _ _ _ D ad24 (b + 303) := X24
  refine x_convN (N2 := b + 303) rfl ?_
  have q2_24 : Sh24 (b) = (fun r => .inr (1, [.ref (ad24 (b + 1)), .int (r 1), .int (r 2)])) := ((s24 (b) (by omega)).2.1.trans q2_23).trans (by simp only [(s24 (b + 1) (by omega)).1])
  have i6_24 : xIs3 D ad24 (b + 303) Sh24 (b + 2) := xIs3_ex i6_23 (fun i h1 h2 => ⟨(s24 i (by omega)).1, (s24 i (by omega)).2.1⟩) (by omega)
  have i9_24 : xIs3 D ad24 (b + 303) Sh24 (b + 45) := xIs3_ex i9_23 (fun i h1 h2 => ⟨(s24 i (by omega)).1, (s24 i (by omega)).2.1⟩) (by omega)
  have i12_24 : xIs3 D ad24 (b + 303) Sh24 (b + 88) := xIs3_ex i12_23 (fun i h1 h2 => ⟨(s24 i (by omega)).1, (s24 i (by omega)).2.1⟩) (by omega)
  have i15_24 : xIs3 D ad24 (b + 303) Sh24 (b + 131) := xIs3_ex i15_23 (fun i h1 h2 => ⟨(s24 i (by omega)).1, (s24 i (by omega)).2.1⟩) (by omega)
  have i18_24 : xIs3 D ad24 (b + 303) Sh24 (b + 174) := xIs3_ex i18_23 (fun i h1 h2 => ⟨(s24 i (by omega)).1, (s24 i (by omega)).2.1⟩) (by omega)
  have i21_24 : xIs3 D ad24 (b + 303) Sh24 (b + 217) := xIs3_ex i21_23 (fun i h1 h2 => ⟨(s24 i (by omega)).1, (s24 i (by omega)).2.1⟩) (by omega)
  have q22_24 : Sh24 (b + 1) = (fun _ => .inl (D.1 105, 14, .inr (.inr (.inr (.inr (va_up (va_up (va_up (va_up (va_up (va_up (fun _ => none) 0 (some (ad24 (b + 2)))) 1 (some (ad24 (b + 45)))) 2 (some (ad24 (b + 88)))) 3 (some (ad24 (b + 131)))) 4 (some (ad24 (b + 174)))) 5 (some (ad24 (b + 217))))))))) := ((s24 (b + 1) (by omega)).2.1.trans q22_23).trans (by simp only [(s24 (b + 2) (by omega)).1, (s24 (b + 45) (by omega)).1, (s24 (b + 88) (by omega)).1, (s24 (b + 131) (by omega)).1, (s24 (b + 174) (by omega)).1, (s24 (b + 217) (by omega)).1])
  have t1_24 : σ24 (b + 1) = (fun _ => 0) := by rw [(s24 (b + 1) (by omega)).2.2]; exact t1_23
  have v3_24 : σ24 b 1 = 0 := by rw [(s24 (b) (by omega)).2.2]; exact v3_23
  have v4_24 : σ24 b 2 = 0 := by rw [(s24 (b) (by omega)).2.2]; exact v4_23
  have cA24 : ∀ i, i ≤ b → ad24 i = ad0 i := fun i hi => (s24 i (by omega)).1.trans (cA23 i hi)
  have cH24 : ∀ i, i < b → Sh24 i = Sh0 i := fun i hi => (s24 i (by omega)).2.1.trans (cH23 i hi)
  have cG24 : ∀ i, i < b → σ24 i = σ0 i := fun i hi => (s24 i (by omega)).2.2.trans (cG23 i hi)
  clear q2_23 i6_23 i9_23 i12_23 i15_23 i18_23 i21_23 q22_23 t1_23 v3_23 v4_23 cA23 cH23 cG23
  have i24 : xIs3 D ad24 (b + 303) Sh24 (b + 260) := n24.1
  refine x_conv (lv2 := [(0, .ref (ad24 (b))), (1, .int 6)]) (st2 := [.ref (ad24 (b + 260)), .int 6, .ref (ad24 (b + 1))]) (by simp only [(s24 (b) (by omega)).1]) (by simp only [r24, (s24 (b + 1) (by omega)).1]) ?_
  refine xr_astq (pc := 43) (t0 := 5) (n0 := 14) (cid := D.1 105) X24 (b + 1) (b + 260) (fun _ => .inl (D.1 105, 14, .inr (.inr (.inr (.inr (va_up (va_up (va_up (va_up (va_up (va_up (va_up (fun _ => none) 0 (some (ad24 (b + 2)))) 1 (some (ad24 (b + 45)))) 2 (some (ad24 (b + 88)))) 3 (some (ad24 (b + 131)))) 4 (some (ad24 (b + 174)))) 5 (some (ad24 (b + 217)))) 6 (some (ad24 (b + 260))))))))) (by omega) (by omega) (by rw [q22_24]) rfl (by rw [i24.1.2]; rfl) (C := RX3) (T := TX3) (NF := 5) (ci := 3) rfl (vp_in_nI (n := 6) (N := 14) (by decide) (by decide)) rfl dX1_init_43 ?_
  obtain ⟨Sh25, y25⟩ : ∃ z, z = xupS Sh24 (b + 1) (fun _ => .inl (D.1 105, 14, .inr (.inr (.inr (.inr (va_up (va_up (va_up (va_up (va_up (va_up (va_up (fun _ => none) 0 (some (ad24 (b + 2)))) 1 (some (ad24 (b + 45)))) 2 (some (ad24 (b + 88)))) 3 (some (ad24 (b + 131)))) 4 (some (ad24 (b + 174)))) 5 (some (ad24 (b + 217)))) 6 (some (ad24 (b + 260))))))))) := ⟨_, rfl⟩
  rw [← y25]
  have s25 : ∀ i, i ≠ b + 1 → Sh25 i = Sh24 i := fun i hb => by rw [y25]; exact if_neg hb
  have q25 : Sh25 (b + 1) = (fun _ => .inl (D.1 105, 14, .inr (.inr (.inr (.inr (va_up (va_up (va_up (va_up (va_up (va_up (va_up (fun _ => none) 0 (some (ad24 (b + 2)))) 1 (some (ad24 (b + 45)))) 2 (some (ad24 (b + 88)))) 3 (some (ad24 (b + 131)))) 4 (some (ad24 (b + 174)))) 5 (some (ad24 (b + 217)))) 6 (some (ad24 (b + 260))))))))) := by rw [y25]; exact if_pos rfl
  clear y25
  have q2_25 : Sh25 (b) = (fun r => .inr (1, [.ref (ad24 (b + 1)), .int (r 1), .int (r 2)])) := (s25 (b) (by omega)).trans q2_24
  have i6_25 : xIs3 D ad24 (b + 303) Sh25 (b + 2) := xIs3_ex i6_24 (fun i h1 h2 => ⟨rfl, s25 i (by omega)⟩) (by omega)
  have i9_25 : xIs3 D ad24 (b + 303) Sh25 (b + 45) := xIs3_ex i9_24 (fun i h1 h2 => ⟨rfl, s25 i (by omega)⟩) (by omega)
  have i12_25 : xIs3 D ad24 (b + 303) Sh25 (b + 88) := xIs3_ex i12_24 (fun i h1 h2 => ⟨rfl, s25 i (by omega)⟩) (by omega)
  have i15_25 : xIs3 D ad24 (b + 303) Sh25 (b + 131) := xIs3_ex i15_24 (fun i h1 h2 => ⟨rfl, s25 i (by omega)⟩) (by omega)
  have i18_25 : xIs3 D ad24 (b + 303) Sh25 (b + 174) := xIs3_ex i18_24 (fun i h1 h2 => ⟨rfl, s25 i (by omega)⟩) (by omega)
  have i21_25 : xIs3 D ad24 (b + 303) Sh25 (b + 217) := xIs3_ex i21_24 (fun i h1 h2 => ⟨rfl, s25 i (by omega)⟩) (by omega)
  have i24_25 : xIs3 D ad24 (b + 303) Sh25 (b + 260) := xIs3_ex i24 (fun i h1 h2 => ⟨rfl, s25 i (by omega)⟩) (by omega)
  have cH25 : ∀ i, i < b → Sh25 i = Sh0 i := fun i hi => (s25 i (by omega)).trans (cH24 i hi)
  clear q2_24 i6_24 i9_24 i12_24 i15_24 i18_24 i21_24 q22_24 i24 cH24
  refine xr_iincC (pc := 44) X24 (i := 1) (j := 1) (v := 7) [1, 0] (Nat.le_of_ble_eq_true rfl) hnL rfl (by decide) rfl dX1_init_44 ?_
  refine x_conv (lv2 := [(0, .ref (ad24 (b))), (1, .int 7)]) (st2 := []) rfl rfl ?_
  refine xr_goto (pc := 47) X24 25 (by decide) dX1_init_47 ?_
  refine xr_iload_n (pc := 25) X24 (i := 1) 1 rfl rfl dX1_init_25 ?_
  refine xr_bipush (pc := 26) X24 dX1_init_26 (v := 14) (by decide) ?_
  refine x_convE (ex2 := if (14 : Int32) ≤ (7 : Int32) then some () else some ()) (by decide) ?_
  refine xr_icmp_ge (pc := 28) X24 50 (by decide) dX1_init_28 (fun hc => absurd hc (by decide)) (fun hc => ?_)
  refine xr_aload_n (pc := 31) X24 (i := 0) 0 rfl rfl dX1_init_31 ?_
  refine xr_getB (pc := 32) X24 (b) 0 (by omega) (by rw [q2_25]) (C := RX1) (T := TX1) (NF := 3) rfl hinX1 (by omega) wm_5_8 rfl rfl dX1_init_32 ?_
  refine xr_iload_n (pc := 35) X24 (i := 1) 1 rfl rfl dX1_init_35 ?_
  refine xr_new (pc := 36) X24 shB3 (C := RX3) (T := TX3) (NF := 5) (tyf := tyX3) rfl hinX3 tyX3_ok wm_5_7 wm_1_15 wm_1_16 rfl (fun j hj => by rcases (show j = 0 ∨ j = 1 ∨ j = 2 ∨ j = 3 ∨ j = 4 by omega) with rfl | rfl | rfl | rfl | rfl <;> rfl) (Nat.le_of_ble_eq_true rfl) (Nat.le_of_ble_eq_true rfl) dX1_init_36 (fun ad26 e26 X26 => ?_)
  obtain ⟨Sh26, y26⟩ : ∃ z, z = xupS Sh25 (b + 303) shB3 := ⟨_, rfl⟩
  obtain ⟨σ26, w26⟩ : ∃ z, z = xz σ24 (b + 303) := ⟨_, rfl⟩
  rw [← y26, ← w26]
  have s26 : ∀ i, i < b + 303 → ad26 i = ad24 i ∧ Sh26 i = Sh25 i ∧ σ26 i = σ24 i := fun i hi => ⟨e26 i hi, by rw [y26]; exact if_neg (Nat.ne_of_lt hi), by rw [w26]; exact if_neg (Nat.ne_of_lt hi)⟩
  have q26 : Sh26 (b + 303) = shB3 := by rw [y26]; exact if_pos rfl
  have t26 : σ26 (b + 303) = (fun _ => 0) := by rw [w26]; exact if_pos rfl
  clear e26 y26 w26
  have q2_26 : Sh26 (b) = (fun r => .inr (1, [.ref (ad26 (b + 1)), .int (r 1), .int (r 2)])) := ((s26 (b) (by omega)).2.1.trans q2_25).trans (by simp only [(s26 (b + 1) (by omega)).1])
  have i6_26 : xIs3 D ad26 (b + 304) Sh26 (b + 2) := xIs3_ex i6_25 (fun i h1 h2 => ⟨(s26 i (by omega)).1, (s26 i (by omega)).2.1⟩) (by omega)
  have i9_26 : xIs3 D ad26 (b + 304) Sh26 (b + 45) := xIs3_ex i9_25 (fun i h1 h2 => ⟨(s26 i (by omega)).1, (s26 i (by omega)).2.1⟩) (by omega)
  have i12_26 : xIs3 D ad26 (b + 304) Sh26 (b + 88) := xIs3_ex i12_25 (fun i h1 h2 => ⟨(s26 i (by omega)).1, (s26 i (by omega)).2.1⟩) (by omega)
  have i15_26 : xIs3 D ad26 (b + 304) Sh26 (b + 131) := xIs3_ex i15_25 (fun i h1 h2 => ⟨(s26 i (by omega)).1, (s26 i (by omega)).2.1⟩) (by omega)
  have i18_26 : xIs3 D ad26 (b + 304) Sh26 (b + 174) := xIs3_ex i18_25 (fun i h1 h2 => ⟨(s26 i (by omega)).1, (s26 i (by omega)).2.1⟩) (by omega)
  have i21_26 : xIs3 D ad26 (b + 304) Sh26 (b + 217) := xIs3_ex i21_25 (fun i h1 h2 => ⟨(s26 i (by omega)).1, (s26 i (by omega)).2.1⟩) (by omega)
  have i24_26 : xIs3 D ad26 (b + 304) Sh26 (b + 260) := xIs3_ex i24_25 (fun i h1 h2 => ⟨(s26 i (by omega)).1, (s26 i (by omega)).2.1⟩) (by omega)
  have q25_26 : Sh26 (b + 1) = (fun _ => .inl (D.1 105, 14, .inr (.inr (.inr (.inr (va_up (va_up (va_up (va_up (va_up (va_up (va_up (fun _ => none) 0 (some (ad26 (b + 2)))) 1 (some (ad26 (b + 45)))) 2 (some (ad26 (b + 88)))) 3 (some (ad26 (b + 131)))) 4 (some (ad26 (b + 174)))) 5 (some (ad26 (b + 217)))) 6 (some (ad26 (b + 260))))))))) := ((s26 (b + 1) (by omega)).2.1.trans q25).trans (by simp only [(s26 (b + 2) (by omega)).1, (s26 (b + 45) (by omega)).1, (s26 (b + 88) (by omega)).1, (s26 (b + 131) (by omega)).1, (s26 (b + 174) (by omega)).1, (s26 (b + 217) (by omega)).1, (s26 (b + 260) (by omega)).1])
  have t1_26 : σ26 (b + 1) = (fun _ => 0) := by rw [(s26 (b + 1) (by omega)).2.2]; exact t1_24
  have v3_26 : σ26 b 1 = 0 := by rw [(s26 (b) (by omega)).2.2]; exact v3_24
  have v4_26 : σ26 b 2 = 0 := by rw [(s26 (b) (by omega)).2.2]; exact v4_24
  have cA26 : ∀ i, i ≤ b → ad26 i = ad0 i := fun i hi => (s26 i (by omega)).1.trans (cA24 i hi)
  have cH26 : ∀ i, i < b → Sh26 i = Sh0 i := fun i hi => (s26 i (by omega)).2.1.trans (cH25 i hi)
  have cG26 : ∀ i, i < b → σ26 i = σ0 i := fun i hi => (s26 i (by omega)).2.2.trans (cG24 i hi)
  clear q2_25 i6_25 i9_25 i12_25 i15_25 i18_25 i21_25 i24_25 q25 t1_24 v3_24 v4_24 cA24 cH25 cG24
  refine x_conv (lv2 := [(0, .ref (ad26 (b))), (1, .int 7)]) (st2 := [.ref (ad26 (b + 303)), .int 7, .ref (ad26 (b + 1))]) (by simp only [(s26 (b) (by omega)).1]) (by simp only [(s26 (b + 1) (by omega)).1]) ?_
  replace X26 : xC Γ _ _ _ _ _ D ad26 (b + 304) := X26
  refine x_convN (N2 := b + 304) rfl ?_
  refine xr_dup (pc := 39) X26 rfl dX1_init_39 ?_
  refine xr_callC (pc := 40) (na := 0) (b + 303) [] X26 hAO (c_X3_init Γ.2.1 D _) q26 t26 rfl (wG_1 wm_2_17) rfl rfl rfl (List.mem_cons_of_mem _ wm_1_16) (List.mem_cons_of_mem _ wm_5_11) (List.mem_cons_of_mem _ wm_2_16) rfl (by decide +kernel) ⟨(Nat.le_of_ble_eq_true rfl), (Nat.le_of_ble_eq_true rfl)⟩ rfl rfl (Nat.le_of_ble_eq_true rfl) ⟨(Nat.le_of_ble_eq_true rfl), (Nat.le_of_ble_eq_true rfl)⟩ dX1_init_40 (fun ad27 Sh27 σ27 p27 X27 => ?_)
  have s27 : ∀ i, i < b + 303 → ad27 i = ad26 i ∧ Sh27 i = Sh26 i ∧ σ27 i = σ26 i := fun i hi => ⟨p27.1 i (by omega), (p27.2.1 i hi).1, (p27.2.1 i hi).2⟩
  have n27 := p27.2.2
  have r27 : ad27 (b + 303) = ad26 (b + 303) := p27.1 _ (Nat.le_refl _)
  clear p27
  replace X27 : xC Γ _ _ _ _ _ D ad27 (b + 346) := X27
  refine x_convN (N2 := b + 346) rfl ?_
  have q2_27 : Sh27 (b) = (fun r => .inr (1, [.ref (ad27 (b + 1)), .int (r 1), .int (r 2)])) := ((s27 (b) (by omega)).2.1.trans q2_26).trans (by simp only [(s27 (b + 1) (by omega)).1])
  have i6_27 : xIs3 D ad27 (b + 346) Sh27 (b + 2) := xIs3_ex i6_26 (fun i h1 h2 => ⟨(s27 i (by omega)).1, (s27 i (by omega)).2.1⟩) (by omega)
  have i9_27 : xIs3 D ad27 (b + 346) Sh27 (b + 45) := xIs3_ex i9_26 (fun i h1 h2 => ⟨(s27 i (by omega)).1, (s27 i (by omega)).2.1⟩) (by omega)
  have i12_27 : xIs3 D ad27 (b + 346) Sh27 (b + 88) := xIs3_ex i12_26 (fun i h1 h2 => ⟨(s27 i (by omega)).1, (s27 i (by omega)).2.1⟩) (by omega)
  have i15_27 : xIs3 D ad27 (b + 346) Sh27 (b + 131) := xIs3_ex i15_26 (fun i h1 h2 => ⟨(s27 i (by omega)).1, (s27 i (by omega)).2.1⟩) (by omega)
  have i18_27 : xIs3 D ad27 (b + 346) Sh27 (b + 174) := xIs3_ex i18_26 (fun i h1 h2 => ⟨(s27 i (by omega)).1, (s27 i (by omega)).2.1⟩) (by omega)
  have i21_27 : xIs3 D ad27 (b + 346) Sh27 (b + 217) := xIs3_ex i21_26 (fun i h1 h2 => ⟨(s27 i (by omega)).1, (s27 i (by omega)).2.1⟩) (by omega)
  have i24_27 : xIs3 D ad27 (b + 346) Sh27 (b + 260) := xIs3_ex i24_26 (fun i h1 h2 => ⟨(s27 i (by omega)).1, (s27 i (by omega)).2.1⟩) (by omega)
  have q25_27 : Sh27 (b + 1) = (fun _ => .inl (D.1 105, 14, .inr (.inr (.inr (.inr (va_up (va_up (va_up (va_up (va_up (va_up (va_up (fun _ => none) 0 (some (ad27 (b + 2)))) 1 (some (ad27 (b + 45)))) 2 (some (ad27 (b + 88)))) 3 (some (ad27 (b + 131)))) 4 (some (ad27 (b + 174)))) 5 (some (ad27 (b + 217)))) 6 (some (ad27 (b + 260))))))))) := ((s27 (b + 1) (by omega)).2.1.trans q25_26).trans (by simp only [(s27 (b + 2) (by omega)).1, (s27 (b + 45) (by omega)).1, (s27 (b + 88) (by omega)).1, (s27 (b + 131) (by omega)).1, (s27 (b + 174) (by omega)).1, (s27 (b + 217) (by omega)).1, (s27 (b + 260) (by omega)).1])
  have t1_27 : σ27 (b + 1) = (fun _ => 0) := by rw [(s27 (b + 1) (by omega)).2.2]; exact t1_26
  have v3_27 : σ27 b 1 = 0 := by rw [(s27 (b) (by omega)).2.2]; exact v3_26
  have v4_27 : σ27 b 2 = 0 := by rw [(s27 (b) (by omega)).2.2]; exact v4_26
  have cA27 : ∀ i, i ≤ b → ad27 i = ad0 i := fun i hi => (s27 i (by omega)).1.trans (cA26 i hi)
  have cH27 : ∀ i, i < b → Sh27 i = Sh0 i := fun i hi => (s27 i (by omega)).2.1.trans (cH26 i hi)
  have cG27 : ∀ i, i < b → σ27 i = σ0 i := fun i hi => (s27 i (by omega)).2.2.trans (cG26 i hi)
  clear q2_26 i6_26 i9_26 i12_26 i15_26 i18_26 i21_26 i24_26 q25_26 t1_26 v3_26 v4_26 cA26 cH26 cG26
  have i27 : xIs3 D ad27 (b + 346) Sh27 (b + 303) := n27.1
  refine x_conv (lv2 := [(0, .ref (ad27 (b))), (1, .int 7)]) (st2 := [.ref (ad27 (b + 303)), .int 7, .ref (ad27 (b + 1))]) (by simp only [(s27 (b) (by omega)).1]) (by simp only [r27, (s27 (b + 1) (by omega)).1]) ?_
  refine xr_astq (pc := 43) (t0 := 5) (n0 := 14) (cid := D.1 105) X27 (b + 1) (b + 303) (fun _ => .inl (D.1 105, 14, .inr (.inr (.inr (.inr (va_up (va_up (va_up (va_up (va_up (va_up (va_up (va_up (fun _ => none) 0 (some (ad27 (b + 2)))) 1 (some (ad27 (b + 45)))) 2 (some (ad27 (b + 88)))) 3 (some (ad27 (b + 131)))) 4 (some (ad27 (b + 174)))) 5 (some (ad27 (b + 217)))) 6 (some (ad27 (b + 260)))) 7 (some (ad27 (b + 303))))))))) (by omega) (by omega) (by rw [q25_27]) rfl (by rw [i27.1.2]; rfl) (C := RX3) (T := TX3) (NF := 5) (ci := 3) rfl (vp_in_nI (n := 7) (N := 14) (by decide) (by decide)) rfl dX1_init_43 ?_
  obtain ⟨Sh28, y28⟩ : ∃ z, z = xupS Sh27 (b + 1) (fun _ => .inl (D.1 105, 14, .inr (.inr (.inr (.inr (va_up (va_up (va_up (va_up (va_up (va_up (va_up (va_up (fun _ => none) 0 (some (ad27 (b + 2)))) 1 (some (ad27 (b + 45)))) 2 (some (ad27 (b + 88)))) 3 (some (ad27 (b + 131)))) 4 (some (ad27 (b + 174)))) 5 (some (ad27 (b + 217)))) 6 (some (ad27 (b + 260)))) 7 (some (ad27 (b + 303))))))))) := ⟨_, rfl⟩
  rw [← y28]
  have s28 : ∀ i, i ≠ b + 1 → Sh28 i = Sh27 i := fun i hb => by rw [y28]; exact if_neg hb
  have q28 : Sh28 (b + 1) = (fun _ => .inl (D.1 105, 14, .inr (.inr (.inr (.inr (va_up (va_up (va_up (va_up (va_up (va_up (va_up (va_up (fun _ => none) 0 (some (ad27 (b + 2)))) 1 (some (ad27 (b + 45)))) 2 (some (ad27 (b + 88)))) 3 (some (ad27 (b + 131)))) 4 (some (ad27 (b + 174)))) 5 (some (ad27 (b + 217)))) 6 (some (ad27 (b + 260)))) 7 (some (ad27 (b + 303))))))))) := by rw [y28]; exact if_pos rfl
  clear y28
  have q2_28 : Sh28 (b) = (fun r => .inr (1, [.ref (ad27 (b + 1)), .int (r 1), .int (r 2)])) := (s28 (b) (by omega)).trans q2_27
  have i6_28 : xIs3 D ad27 (b + 346) Sh28 (b + 2) := xIs3_ex i6_27 (fun i h1 h2 => ⟨rfl, s28 i (by omega)⟩) (by omega)
  have i9_28 : xIs3 D ad27 (b + 346) Sh28 (b + 45) := xIs3_ex i9_27 (fun i h1 h2 => ⟨rfl, s28 i (by omega)⟩) (by omega)
  have i12_28 : xIs3 D ad27 (b + 346) Sh28 (b + 88) := xIs3_ex i12_27 (fun i h1 h2 => ⟨rfl, s28 i (by omega)⟩) (by omega)
  have i15_28 : xIs3 D ad27 (b + 346) Sh28 (b + 131) := xIs3_ex i15_27 (fun i h1 h2 => ⟨rfl, s28 i (by omega)⟩) (by omega)
  have i18_28 : xIs3 D ad27 (b + 346) Sh28 (b + 174) := xIs3_ex i18_27 (fun i h1 h2 => ⟨rfl, s28 i (by omega)⟩) (by omega)
  have i21_28 : xIs3 D ad27 (b + 346) Sh28 (b + 217) := xIs3_ex i21_27 (fun i h1 h2 => ⟨rfl, s28 i (by omega)⟩) (by omega)
  have i24_28 : xIs3 D ad27 (b + 346) Sh28 (b + 260) := xIs3_ex i24_27 (fun i h1 h2 => ⟨rfl, s28 i (by omega)⟩) (by omega)
  have i27_28 : xIs3 D ad27 (b + 346) Sh28 (b + 303) := xIs3_ex i27 (fun i h1 h2 => ⟨rfl, s28 i (by omega)⟩) (by omega)
  have cH28 : ∀ i, i < b → Sh28 i = Sh0 i := fun i hi => (s28 i (by omega)).trans (cH27 i hi)
  clear q2_27 i6_27 i9_27 i12_27 i15_27 i18_27 i21_27 i24_27 q25_27 i27 cH27
  refine xr_iincC (pc := 44) X27 (i := 1) (j := 1) (v := 8) [1, 0] (Nat.le_of_ble_eq_true rfl) hnL rfl (by decide) rfl dX1_init_44 ?_
  refine x_conv (lv2 := [(0, .ref (ad27 (b))), (1, .int 8)]) (st2 := []) rfl rfl ?_
  refine xr_goto (pc := 47) X27 25 (by decide) dX1_init_47 ?_
  refine xr_iload_n (pc := 25) X27 (i := 1) 1 rfl rfl dX1_init_25 ?_
  refine xr_bipush (pc := 26) X27 dX1_init_26 (v := 14) (by decide) ?_
  refine x_convE (ex2 := if (14 : Int32) ≤ (8 : Int32) then some () else some ()) (by decide) ?_
  refine xr_icmp_ge (pc := 28) X27 50 (by decide) dX1_init_28 (fun hc => absurd hc (by decide)) (fun hc => ?_)
  refine xr_aload_n (pc := 31) X27 (i := 0) 0 rfl rfl dX1_init_31 ?_
  refine xr_getB (pc := 32) X27 (b) 0 (by omega) (by rw [q2_28]) (C := RX1) (T := TX1) (NF := 3) rfl hinX1 (by omega) wm_5_8 rfl rfl dX1_init_32 ?_
  refine xr_iload_n (pc := 35) X27 (i := 1) 1 rfl rfl dX1_init_35 ?_
  refine xr_new (pc := 36) X27 shB3 (C := RX3) (T := TX3) (NF := 5) (tyf := tyX3) rfl hinX3 tyX3_ok wm_5_7 wm_1_15 wm_1_16 rfl (fun j hj => by rcases (show j = 0 ∨ j = 1 ∨ j = 2 ∨ j = 3 ∨ j = 4 by omega) with rfl | rfl | rfl | rfl | rfl <;> rfl) (Nat.le_of_ble_eq_true rfl) (Nat.le_of_ble_eq_true rfl) dX1_init_36 (fun ad29 e29 X29 => ?_)
  obtain ⟨Sh29, y29⟩ : ∃ z, z = xupS Sh28 (b + 346) shB3 := ⟨_, rfl⟩
  obtain ⟨σ29, w29⟩ : ∃ z, z = xz σ27 (b + 346) := ⟨_, rfl⟩
  rw [← y29, ← w29]
  have s29 : ∀ i, i < b + 346 → ad29 i = ad27 i ∧ Sh29 i = Sh28 i ∧ σ29 i = σ27 i := fun i hi => ⟨e29 i hi, by rw [y29]; exact if_neg (Nat.ne_of_lt hi), by rw [w29]; exact if_neg (Nat.ne_of_lt hi)⟩
  have q29 : Sh29 (b + 346) = shB3 := by rw [y29]; exact if_pos rfl
  have t29 : σ29 (b + 346) = (fun _ => 0) := by rw [w29]; exact if_pos rfl
  clear e29 y29 w29
  have q2_29 : Sh29 (b) = (fun r => .inr (1, [.ref (ad29 (b + 1)), .int (r 1), .int (r 2)])) := ((s29 (b) (by omega)).2.1.trans q2_28).trans (by simp only [(s29 (b + 1) (by omega)).1])
  have i6_29 : xIs3 D ad29 (b + 347) Sh29 (b + 2) := xIs3_ex i6_28 (fun i h1 h2 => ⟨(s29 i (by omega)).1, (s29 i (by omega)).2.1⟩) (by omega)
  have i9_29 : xIs3 D ad29 (b + 347) Sh29 (b + 45) := xIs3_ex i9_28 (fun i h1 h2 => ⟨(s29 i (by omega)).1, (s29 i (by omega)).2.1⟩) (by omega)
  have i12_29 : xIs3 D ad29 (b + 347) Sh29 (b + 88) := xIs3_ex i12_28 (fun i h1 h2 => ⟨(s29 i (by omega)).1, (s29 i (by omega)).2.1⟩) (by omega)
  have i15_29 : xIs3 D ad29 (b + 347) Sh29 (b + 131) := xIs3_ex i15_28 (fun i h1 h2 => ⟨(s29 i (by omega)).1, (s29 i (by omega)).2.1⟩) (by omega)
  have i18_29 : xIs3 D ad29 (b + 347) Sh29 (b + 174) := xIs3_ex i18_28 (fun i h1 h2 => ⟨(s29 i (by omega)).1, (s29 i (by omega)).2.1⟩) (by omega)
  have i21_29 : xIs3 D ad29 (b + 347) Sh29 (b + 217) := xIs3_ex i21_28 (fun i h1 h2 => ⟨(s29 i (by omega)).1, (s29 i (by omega)).2.1⟩) (by omega)
  have i24_29 : xIs3 D ad29 (b + 347) Sh29 (b + 260) := xIs3_ex i24_28 (fun i h1 h2 => ⟨(s29 i (by omega)).1, (s29 i (by omega)).2.1⟩) (by omega)
  have i27_29 : xIs3 D ad29 (b + 347) Sh29 (b + 303) := xIs3_ex i27_28 (fun i h1 h2 => ⟨(s29 i (by omega)).1, (s29 i (by omega)).2.1⟩) (by omega)
  have q28_29 : Sh29 (b + 1) = (fun _ => .inl (D.1 105, 14, .inr (.inr (.inr (.inr (va_up (va_up (va_up (va_up (va_up (va_up (va_up (va_up (fun _ => none) 0 (some (ad29 (b + 2)))) 1 (some (ad29 (b + 45)))) 2 (some (ad29 (b + 88)))) 3 (some (ad29 (b + 131)))) 4 (some (ad29 (b + 174)))) 5 (some (ad29 (b + 217)))) 6 (some (ad29 (b + 260)))) 7 (some (ad29 (b + 303))))))))) := ((s29 (b + 1) (by omega)).2.1.trans q28).trans (by simp only [(s29 (b + 2) (by omega)).1, (s29 (b + 45) (by omega)).1, (s29 (b + 88) (by omega)).1, (s29 (b + 131) (by omega)).1, (s29 (b + 174) (by omega)).1, (s29 (b + 217) (by omega)).1, (s29 (b + 260) (by omega)).1, (s29 (b + 303) (by omega)).1])
  have t1_29 : σ29 (b + 1) = (fun _ => 0) := by rw [(s29 (b + 1) (by omega)).2.2]; exact t1_27
  have v3_29 : σ29 b 1 = 0 := by rw [(s29 (b) (by omega)).2.2]; exact v3_27
  have v4_29 : σ29 b 2 = 0 := by rw [(s29 (b) (by omega)).2.2]; exact v4_27
  have cA29 : ∀ i, i ≤ b → ad29 i = ad0 i := fun i hi => (s29 i (by omega)).1.trans (cA27 i hi)
  have cH29 : ∀ i, i < b → Sh29 i = Sh0 i := fun i hi => (s29 i (by omega)).2.1.trans (cH28 i hi)
  have cG29 : ∀ i, i < b → σ29 i = σ0 i := fun i hi => (s29 i (by omega)).2.2.trans (cG27 i hi)
  clear q2_28 i6_28 i9_28 i12_28 i15_28 i18_28 i21_28 i24_28 i27_28 q28 t1_27 v3_27 v4_27 cA27 cH28 cG27
  refine x_conv (lv2 := [(0, .ref (ad29 (b))), (1, .int 8)]) (st2 := [.ref (ad29 (b + 346)), .int 8, .ref (ad29 (b + 1))]) (by simp only [(s29 (b) (by omega)).1]) (by simp only [(s29 (b + 1) (by omega)).1]) ?_
  replace X29 : xC Γ _ _ _ _ _ D ad29 (b + 347) := X29
  refine x_convN (N2 := b + 347) rfl ?_
  refine xr_dup (pc := 39) X29 rfl dX1_init_39 ?_
  refine xr_callC (pc := 40) (na := 0) (b + 346) [] X29 hAO (c_X3_init Γ.2.1 D _) q29 t29 rfl (wG_1 wm_2_17) rfl rfl rfl (List.mem_cons_of_mem _ wm_1_16) (List.mem_cons_of_mem _ wm_5_11) (List.mem_cons_of_mem _ wm_2_16) rfl (by decide +kernel) ⟨(Nat.le_of_ble_eq_true rfl), (Nat.le_of_ble_eq_true rfl)⟩ rfl rfl (Nat.le_of_ble_eq_true rfl) ⟨(Nat.le_of_ble_eq_true rfl), (Nat.le_of_ble_eq_true rfl)⟩ dX1_init_40 (fun ad30 Sh30 σ30 p30 X30 => ?_)
  have s30 : ∀ i, i < b + 346 → ad30 i = ad29 i ∧ Sh30 i = Sh29 i ∧ σ30 i = σ29 i := fun i hi => ⟨p30.1 i (by omega), (p30.2.1 i hi).1, (p30.2.1 i hi).2⟩
  have n30 := p30.2.2
  have r30 : ad30 (b + 346) = ad29 (b + 346) := p30.1 _ (Nat.le_refl _)
  clear p30
  replace X30 : xC Γ _ _ _ _ _ D ad30 (b + 389) := X30
  refine x_convN (N2 := b + 389) rfl ?_
  have q2_30 : Sh30 (b) = (fun r => .inr (1, [.ref (ad30 (b + 1)), .int (r 1), .int (r 2)])) := ((s30 (b) (by omega)).2.1.trans q2_29).trans (by simp only [(s30 (b + 1) (by omega)).1])
  have i6_30 : xIs3 D ad30 (b + 389) Sh30 (b + 2) := xIs3_ex i6_29 (fun i h1 h2 => ⟨(s30 i (by omega)).1, (s30 i (by omega)).2.1⟩) (by omega)
  have i9_30 : xIs3 D ad30 (b + 389) Sh30 (b + 45) := xIs3_ex i9_29 (fun i h1 h2 => ⟨(s30 i (by omega)).1, (s30 i (by omega)).2.1⟩) (by omega)
  have i12_30 : xIs3 D ad30 (b + 389) Sh30 (b + 88) := xIs3_ex i12_29 (fun i h1 h2 => ⟨(s30 i (by omega)).1, (s30 i (by omega)).2.1⟩) (by omega)
  have i15_30 : xIs3 D ad30 (b + 389) Sh30 (b + 131) := xIs3_ex i15_29 (fun i h1 h2 => ⟨(s30 i (by omega)).1, (s30 i (by omega)).2.1⟩) (by omega)
  have i18_30 : xIs3 D ad30 (b + 389) Sh30 (b + 174) := xIs3_ex i18_29 (fun i h1 h2 => ⟨(s30 i (by omega)).1, (s30 i (by omega)).2.1⟩) (by omega)
  have i21_30 : xIs3 D ad30 (b + 389) Sh30 (b + 217) := xIs3_ex i21_29 (fun i h1 h2 => ⟨(s30 i (by omega)).1, (s30 i (by omega)).2.1⟩) (by omega)
  have i24_30 : xIs3 D ad30 (b + 389) Sh30 (b + 260) := xIs3_ex i24_29 (fun i h1 h2 => ⟨(s30 i (by omega)).1, (s30 i (by omega)).2.1⟩) (by omega)
  have i27_30 : xIs3 D ad30 (b + 389) Sh30 (b + 303) := xIs3_ex i27_29 (fun i h1 h2 => ⟨(s30 i (by omega)).1, (s30 i (by omega)).2.1⟩) (by omega)
  have q28_30 : Sh30 (b + 1) = (fun _ => .inl (D.1 105, 14, .inr (.inr (.inr (.inr (va_up (va_up (va_up (va_up (va_up (va_up (va_up (va_up (fun _ => none) 0 (some (ad30 (b + 2)))) 1 (some (ad30 (b + 45)))) 2 (some (ad30 (b + 88)))) 3 (some (ad30 (b + 131)))) 4 (some (ad30 (b + 174)))) 5 (some (ad30 (b + 217)))) 6 (some (ad30 (b + 260)))) 7 (some (ad30 (b + 303))))))))) := ((s30 (b + 1) (by omega)).2.1.trans q28_29).trans (by simp only [(s30 (b + 2) (by omega)).1, (s30 (b + 45) (by omega)).1, (s30 (b + 88) (by omega)).1, (s30 (b + 131) (by omega)).1, (s30 (b + 174) (by omega)).1, (s30 (b + 217) (by omega)).1, (s30 (b + 260) (by omega)).1, (s30 (b + 303) (by omega)).1])
  have t1_30 : σ30 (b + 1) = (fun _ => 0) := by rw [(s30 (b + 1) (by omega)).2.2]; exact t1_29
  have v3_30 : σ30 b 1 = 0 := by rw [(s30 (b) (by omega)).2.2]; exact v3_29
  have v4_30 : σ30 b 2 = 0 := by rw [(s30 (b) (by omega)).2.2]; exact v4_29
  have cA30 : ∀ i, i ≤ b → ad30 i = ad0 i := fun i hi => (s30 i (by omega)).1.trans (cA29 i hi)
  have cH30 : ∀ i, i < b → Sh30 i = Sh0 i := fun i hi => (s30 i (by omega)).2.1.trans (cH29 i hi)
  have cG30 : ∀ i, i < b → σ30 i = σ0 i := fun i hi => (s30 i (by omega)).2.2.trans (cG29 i hi)
  clear q2_29 i6_29 i9_29 i12_29 i15_29 i18_29 i21_29 i24_29 i27_29 q28_29 t1_29 v3_29 v4_29 cA29 cH29 cG29
  have i30 : xIs3 D ad30 (b + 389) Sh30 (b + 346) := n30.1
  refine x_conv (lv2 := [(0, .ref (ad30 (b))), (1, .int 8)]) (st2 := [.ref (ad30 (b + 346)), .int 8, .ref (ad30 (b + 1))]) (by simp only [(s30 (b) (by omega)).1]) (by simp only [r30, (s30 (b + 1) (by omega)).1]) ?_
  refine xr_astq (pc := 43) (t0 := 5) (n0 := 14) (cid := D.1 105) X30 (b + 1) (b + 346) (fun _ => .inl (D.1 105, 14, .inr (.inr (.inr (.inr (va_up (va_up (va_up (va_up (va_up (va_up (va_up (va_up (va_up (fun _ => none) 0 (some (ad30 (b + 2)))) 1 (some (ad30 (b + 45)))) 2 (some (ad30 (b + 88)))) 3 (some (ad30 (b + 131)))) 4 (some (ad30 (b + 174)))) 5 (some (ad30 (b + 217)))) 6 (some (ad30 (b + 260)))) 7 (some (ad30 (b + 303)))) 8 (some (ad30 (b + 346))))))))) (by omega) (by omega) (by rw [q28_30]) rfl (by rw [i30.1.2]; rfl) (C := RX3) (T := TX3) (NF := 5) (ci := 3) rfl (vp_in_nI (n := 8) (N := 14) (by decide) (by decide)) rfl dX1_init_43 ?_
  obtain ⟨Sh31, y31⟩ : ∃ z, z = xupS Sh30 (b + 1) (fun _ => .inl (D.1 105, 14, .inr (.inr (.inr (.inr (va_up (va_up (va_up (va_up (va_up (va_up (va_up (va_up (va_up (fun _ => none) 0 (some (ad30 (b + 2)))) 1 (some (ad30 (b + 45)))) 2 (some (ad30 (b + 88)))) 3 (some (ad30 (b + 131)))) 4 (some (ad30 (b + 174)))) 5 (some (ad30 (b + 217)))) 6 (some (ad30 (b + 260)))) 7 (some (ad30 (b + 303)))) 8 (some (ad30 (b + 346))))))))) := ⟨_, rfl⟩
  rw [← y31]
  have s31 : ∀ i, i ≠ b + 1 → Sh31 i = Sh30 i := fun i hb => by rw [y31]; exact if_neg hb
  have q31 : Sh31 (b + 1) = (fun _ => .inl (D.1 105, 14, .inr (.inr (.inr (.inr (va_up (va_up (va_up (va_up (va_up (va_up (va_up (va_up (va_up (fun _ => none) 0 (some (ad30 (b + 2)))) 1 (some (ad30 (b + 45)))) 2 (some (ad30 (b + 88)))) 3 (some (ad30 (b + 131)))) 4 (some (ad30 (b + 174)))) 5 (some (ad30 (b + 217)))) 6 (some (ad30 (b + 260)))) 7 (some (ad30 (b + 303)))) 8 (some (ad30 (b + 346))))))))) := by rw [y31]; exact if_pos rfl
  clear y31
  have q2_31 : Sh31 (b) = (fun r => .inr (1, [.ref (ad30 (b + 1)), .int (r 1), .int (r 2)])) := (s31 (b) (by omega)).trans q2_30
  have i6_31 : xIs3 D ad30 (b + 389) Sh31 (b + 2) := xIs3_ex i6_30 (fun i h1 h2 => ⟨rfl, s31 i (by omega)⟩) (by omega)
  have i9_31 : xIs3 D ad30 (b + 389) Sh31 (b + 45) := xIs3_ex i9_30 (fun i h1 h2 => ⟨rfl, s31 i (by omega)⟩) (by omega)
  have i12_31 : xIs3 D ad30 (b + 389) Sh31 (b + 88) := xIs3_ex i12_30 (fun i h1 h2 => ⟨rfl, s31 i (by omega)⟩) (by omega)
  have i15_31 : xIs3 D ad30 (b + 389) Sh31 (b + 131) := xIs3_ex i15_30 (fun i h1 h2 => ⟨rfl, s31 i (by omega)⟩) (by omega)
  have i18_31 : xIs3 D ad30 (b + 389) Sh31 (b + 174) := xIs3_ex i18_30 (fun i h1 h2 => ⟨rfl, s31 i (by omega)⟩) (by omega)
  have i21_31 : xIs3 D ad30 (b + 389) Sh31 (b + 217) := xIs3_ex i21_30 (fun i h1 h2 => ⟨rfl, s31 i (by omega)⟩) (by omega)
  have i24_31 : xIs3 D ad30 (b + 389) Sh31 (b + 260) := xIs3_ex i24_30 (fun i h1 h2 => ⟨rfl, s31 i (by omega)⟩) (by omega)
  have i27_31 : xIs3 D ad30 (b + 389) Sh31 (b + 303) := xIs3_ex i27_30 (fun i h1 h2 => ⟨rfl, s31 i (by omega)⟩) (by omega)
  have i30_31 : xIs3 D ad30 (b + 389) Sh31 (b + 346) := xIs3_ex i30 (fun i h1 h2 => ⟨rfl, s31 i (by omega)⟩) (by omega)
  have cH31 : ∀ i, i < b → Sh31 i = Sh0 i := fun i hi => (s31 i (by omega)).trans (cH30 i hi)
  clear q2_30 i6_30 i9_30 i12_30 i15_30 i18_30 i21_30 i24_30 i27_30 q28_30 i30 cH30
  refine xr_iincC (pc := 44) X30 (i := 1) (j := 1) (v := 9) [1, 0] (Nat.le_of_ble_eq_true rfl) hnL rfl (by decide) rfl dX1_init_44 ?_
  refine x_conv (lv2 := [(0, .ref (ad30 (b))), (1, .int 9)]) (st2 := []) rfl rfl ?_
  refine xr_goto (pc := 47) X30 25 (by decide) dX1_init_47 ?_
  refine xr_iload_n (pc := 25) X30 (i := 1) 1 rfl rfl dX1_init_25 ?_
  refine xr_bipush (pc := 26) X30 dX1_init_26 (v := 14) (by decide) ?_
  refine x_convE (ex2 := if (14 : Int32) ≤ (9 : Int32) then some () else some ()) (by decide) ?_
  refine xr_icmp_ge (pc := 28) X30 50 (by decide) dX1_init_28 (fun hc => absurd hc (by decide)) (fun hc => ?_)
  refine xr_aload_n (pc := 31) X30 (i := 0) 0 rfl rfl dX1_init_31 ?_
  refine xr_getB (pc := 32) X30 (b) 0 (by omega) (by rw [q2_31]) (C := RX1) (T := TX1) (NF := 3) rfl hinX1 (by omega) wm_5_8 rfl rfl dX1_init_32 ?_
  refine xr_iload_n (pc := 35) X30 (i := 1) 1 rfl rfl dX1_init_35 ?_
  refine xr_new (pc := 36) X30 shB3 (C := RX3) (T := TX3) (NF := 5) (tyf := tyX3) rfl hinX3 tyX3_ok wm_5_7 wm_1_15 wm_1_16 rfl (fun j hj => by rcases (show j = 0 ∨ j = 1 ∨ j = 2 ∨ j = 3 ∨ j = 4 by omega) with rfl | rfl | rfl | rfl | rfl <;> rfl) (Nat.le_of_ble_eq_true rfl) (Nat.le_of_ble_eq_true rfl) dX1_init_36 (fun ad32 e32 X32 => ?_)
  obtain ⟨Sh32, y32⟩ : ∃ z, z = xupS Sh31 (b + 389) shB3 := ⟨_, rfl⟩
  obtain ⟨σ32, w32⟩ : ∃ z, z = xz σ30 (b + 389) := ⟨_, rfl⟩
  rw [← y32, ← w32]
  have s32 : ∀ i, i < b + 389 → ad32 i = ad30 i ∧ Sh32 i = Sh31 i ∧ σ32 i = σ30 i := fun i hi => ⟨e32 i hi, by rw [y32]; exact if_neg (Nat.ne_of_lt hi), by rw [w32]; exact if_neg (Nat.ne_of_lt hi)⟩
  have q32 : Sh32 (b + 389) = shB3 := by rw [y32]; exact if_pos rfl
  have t32 : σ32 (b + 389) = (fun _ => 0) := by rw [w32]; exact if_pos rfl
  clear e32 y32 w32
  have q2_32 : Sh32 (b) = (fun r => .inr (1, [.ref (ad32 (b + 1)), .int (r 1), .int (r 2)])) := ((s32 (b) (by omega)).2.1.trans q2_31).trans (by simp only [(s32 (b + 1) (by omega)).1])
  have i6_32 : xIs3 D ad32 (b + 390) Sh32 (b + 2) := xIs3_ex i6_31 (fun i h1 h2 => ⟨(s32 i (by omega)).1, (s32 i (by omega)).2.1⟩) (by omega)
  have i9_32 : xIs3 D ad32 (b + 390) Sh32 (b + 45) := xIs3_ex i9_31 (fun i h1 h2 => ⟨(s32 i (by omega)).1, (s32 i (by omega)).2.1⟩) (by omega)
  have i12_32 : xIs3 D ad32 (b + 390) Sh32 (b + 88) := xIs3_ex i12_31 (fun i h1 h2 => ⟨(s32 i (by omega)).1, (s32 i (by omega)).2.1⟩) (by omega)
  have i15_32 : xIs3 D ad32 (b + 390) Sh32 (b + 131) := xIs3_ex i15_31 (fun i h1 h2 => ⟨(s32 i (by omega)).1, (s32 i (by omega)).2.1⟩) (by omega)
  have i18_32 : xIs3 D ad32 (b + 390) Sh32 (b + 174) := xIs3_ex i18_31 (fun i h1 h2 => ⟨(s32 i (by omega)).1, (s32 i (by omega)).2.1⟩) (by omega)
  have i21_32 : xIs3 D ad32 (b + 390) Sh32 (b + 217) := xIs3_ex i21_31 (fun i h1 h2 => ⟨(s32 i (by omega)).1, (s32 i (by omega)).2.1⟩) (by omega)
  have i24_32 : xIs3 D ad32 (b + 390) Sh32 (b + 260) := xIs3_ex i24_31 (fun i h1 h2 => ⟨(s32 i (by omega)).1, (s32 i (by omega)).2.1⟩) (by omega)
  have i27_32 : xIs3 D ad32 (b + 390) Sh32 (b + 303) := xIs3_ex i27_31 (fun i h1 h2 => ⟨(s32 i (by omega)).1, (s32 i (by omega)).2.1⟩) (by omega)
  have i30_32 : xIs3 D ad32 (b + 390) Sh32 (b + 346) := xIs3_ex i30_31 (fun i h1 h2 => ⟨(s32 i (by omega)).1, (s32 i (by omega)).2.1⟩) (by omega)
  have q31_32 : Sh32 (b + 1) = (fun _ => .inl (D.1 105, 14, .inr (.inr (.inr (.inr (va_up (va_up (va_up (va_up (va_up (va_up (va_up (va_up (va_up (fun _ => none) 0 (some (ad32 (b + 2)))) 1 (some (ad32 (b + 45)))) 2 (some (ad32 (b + 88)))) 3 (some (ad32 (b + 131)))) 4 (some (ad32 (b + 174)))) 5 (some (ad32 (b + 217)))) 6 (some (ad32 (b + 260)))) 7 (some (ad32 (b + 303)))) 8 (some (ad32 (b + 346))))))))) := ((s32 (b + 1) (by omega)).2.1.trans q31).trans (by simp only [(s32 (b + 2) (by omega)).1, (s32 (b + 45) (by omega)).1, (s32 (b + 88) (by omega)).1, (s32 (b + 131) (by omega)).1, (s32 (b + 174) (by omega)).1, (s32 (b + 217) (by omega)).1, (s32 (b + 260) (by omega)).1, (s32 (b + 303) (by omega)).1, (s32 (b + 346) (by omega)).1])
  have t1_32 : σ32 (b + 1) = (fun _ => 0) := by rw [(s32 (b + 1) (by omega)).2.2]; exact t1_30
  have v3_32 : σ32 b 1 = 0 := by rw [(s32 (b) (by omega)).2.2]; exact v3_30
  have v4_32 : σ32 b 2 = 0 := by rw [(s32 (b) (by omega)).2.2]; exact v4_30
  have cA32 : ∀ i, i ≤ b → ad32 i = ad0 i := fun i hi => (s32 i (by omega)).1.trans (cA30 i hi)
  have cH32 : ∀ i, i < b → Sh32 i = Sh0 i := fun i hi => (s32 i (by omega)).2.1.trans (cH31 i hi)
  have cG32 : ∀ i, i < b → σ32 i = σ0 i := fun i hi => (s32 i (by omega)).2.2.trans (cG30 i hi)
  clear q2_31 i6_31 i9_31 i12_31 i15_31 i18_31 i21_31 i24_31 i27_31 i30_31 q31 t1_30 v3_30 v4_30 cA30 cH31 cG30
  refine x_conv (lv2 := [(0, .ref (ad32 (b))), (1, .int 9)]) (st2 := [.ref (ad32 (b + 389)), .int 9, .ref (ad32 (b + 1))]) (by simp only [(s32 (b) (by omega)).1]) (by simp only [(s32 (b + 1) (by omega)).1]) ?_
  replace X32 : xC Γ _ _ _ _ _ D ad32 (b + 390) := X32
  refine x_convN (N2 := b + 390) rfl ?_
  refine xr_dup (pc := 39) X32 rfl dX1_init_39 ?_
  refine xr_callC (pc := 40) (na := 0) (b + 389) [] X32 hAO (c_X3_init Γ.2.1 D _) q32 t32 rfl (wG_1 wm_2_17) rfl rfl rfl (List.mem_cons_of_mem _ wm_1_16) (List.mem_cons_of_mem _ wm_5_11) (List.mem_cons_of_mem _ wm_2_16) rfl (by decide +kernel) ⟨(Nat.le_of_ble_eq_true rfl), (Nat.le_of_ble_eq_true rfl)⟩ rfl rfl (Nat.le_of_ble_eq_true rfl) ⟨(Nat.le_of_ble_eq_true rfl), (Nat.le_of_ble_eq_true rfl)⟩ dX1_init_40 (fun ad33 Sh33 σ33 p33 X33 => ?_)
  have s33 : ∀ i, i < b + 389 → ad33 i = ad32 i ∧ Sh33 i = Sh32 i ∧ σ33 i = σ32 i := fun i hi => ⟨p33.1 i (by omega), (p33.2.1 i hi).1, (p33.2.1 i hi).2⟩
  have n33 := p33.2.2
  have r33 : ad33 (b + 389) = ad32 (b + 389) := p33.1 _ (Nat.le_refl _)
  clear p33
  replace X33 : xC Γ _ _ _ _ _ D ad33 (b + 432) := X33
  refine x_convN (N2 := b + 432) rfl ?_
  have q2_33 : Sh33 (b) = (fun r => .inr (1, [.ref (ad33 (b + 1)), .int (r 1), .int (r 2)])) := ((s33 (b) (by omega)).2.1.trans q2_32).trans (by simp only [(s33 (b + 1) (by omega)).1])
  have i6_33 : xIs3 D ad33 (b + 432) Sh33 (b + 2) := xIs3_ex i6_32 (fun i h1 h2 => ⟨(s33 i (by omega)).1, (s33 i (by omega)).2.1⟩) (by omega)
  have i9_33 : xIs3 D ad33 (b + 432) Sh33 (b + 45) := xIs3_ex i9_32 (fun i h1 h2 => ⟨(s33 i (by omega)).1, (s33 i (by omega)).2.1⟩) (by omega)
  have i12_33 : xIs3 D ad33 (b + 432) Sh33 (b + 88) := xIs3_ex i12_32 (fun i h1 h2 => ⟨(s33 i (by omega)).1, (s33 i (by omega)).2.1⟩) (by omega)
  have i15_33 : xIs3 D ad33 (b + 432) Sh33 (b + 131) := xIs3_ex i15_32 (fun i h1 h2 => ⟨(s33 i (by omega)).1, (s33 i (by omega)).2.1⟩) (by omega)
  have i18_33 : xIs3 D ad33 (b + 432) Sh33 (b + 174) := xIs3_ex i18_32 (fun i h1 h2 => ⟨(s33 i (by omega)).1, (s33 i (by omega)).2.1⟩) (by omega)
  have i21_33 : xIs3 D ad33 (b + 432) Sh33 (b + 217) := xIs3_ex i21_32 (fun i h1 h2 => ⟨(s33 i (by omega)).1, (s33 i (by omega)).2.1⟩) (by omega)
  have i24_33 : xIs3 D ad33 (b + 432) Sh33 (b + 260) := xIs3_ex i24_32 (fun i h1 h2 => ⟨(s33 i (by omega)).1, (s33 i (by omega)).2.1⟩) (by omega)
  have i27_33 : xIs3 D ad33 (b + 432) Sh33 (b + 303) := xIs3_ex i27_32 (fun i h1 h2 => ⟨(s33 i (by omega)).1, (s33 i (by omega)).2.1⟩) (by omega)
  have i30_33 : xIs3 D ad33 (b + 432) Sh33 (b + 346) := xIs3_ex i30_32 (fun i h1 h2 => ⟨(s33 i (by omega)).1, (s33 i (by omega)).2.1⟩) (by omega)
  have q31_33 : Sh33 (b + 1) = (fun _ => .inl (D.1 105, 14, .inr (.inr (.inr (.inr (va_up (va_up (va_up (va_up (va_up (va_up (va_up (va_up (va_up (fun _ => none) 0 (some (ad33 (b + 2)))) 1 (some (ad33 (b + 45)))) 2 (some (ad33 (b + 88)))) 3 (some (ad33 (b + 131)))) 4 (some (ad33 (b + 174)))) 5 (some (ad33 (b + 217)))) 6 (some (ad33 (b + 260)))) 7 (some (ad33 (b + 303)))) 8 (some (ad33 (b + 346))))))))) := ((s33 (b + 1) (by omega)).2.1.trans q31_32).trans (by simp only [(s33 (b + 2) (by omega)).1, (s33 (b + 45) (by omega)).1, (s33 (b + 88) (by omega)).1, (s33 (b + 131) (by omega)).1, (s33 (b + 174) (by omega)).1, (s33 (b + 217) (by omega)).1, (s33 (b + 260) (by omega)).1, (s33 (b + 303) (by omega)).1, (s33 (b + 346) (by omega)).1])
  have t1_33 : σ33 (b + 1) = (fun _ => 0) := by rw [(s33 (b + 1) (by omega)).2.2]; exact t1_32
  have v3_33 : σ33 b 1 = 0 := by rw [(s33 (b) (by omega)).2.2]; exact v3_32
  have v4_33 : σ33 b 2 = 0 := by rw [(s33 (b) (by omega)).2.2]; exact v4_32
  have cA33 : ∀ i, i ≤ b → ad33 i = ad0 i := fun i hi => (s33 i (by omega)).1.trans (cA32 i hi)
  have cH33 : ∀ i, i < b → Sh33 i = Sh0 i := fun i hi => (s33 i (by omega)).2.1.trans (cH32 i hi)
  have cG33 : ∀ i, i < b → σ33 i = σ0 i := fun i hi => (s33 i (by omega)).2.2.trans (cG32 i hi)
  clear q2_32 i6_32 i9_32 i12_32 i15_32 i18_32 i21_32 i24_32 i27_32 i30_32 q31_32 t1_32 v3_32 v4_32 cA32 cH32 cG32
  have i33 : xIs3 D ad33 (b + 432) Sh33 (b + 389) := n33.1
  refine x_conv (lv2 := [(0, .ref (ad33 (b))), (1, .int 9)]) (st2 := [.ref (ad33 (b + 389)), .int 9, .ref (ad33 (b + 1))]) (by simp only [(s33 (b) (by omega)).1]) (by simp only [r33, (s33 (b + 1) (by omega)).1]) ?_
  refine xr_astq (pc := 43) (t0 := 5) (n0 := 14) (cid := D.1 105) X33 (b + 1) (b + 389) (fun _ => .inl (D.1 105, 14, .inr (.inr (.inr (.inr (va_up (va_up (va_up (va_up (va_up (va_up (va_up (va_up (va_up (va_up (fun _ => none) 0 (some (ad33 (b + 2)))) 1 (some (ad33 (b + 45)))) 2 (some (ad33 (b + 88)))) 3 (some (ad33 (b + 131)))) 4 (some (ad33 (b + 174)))) 5 (some (ad33 (b + 217)))) 6 (some (ad33 (b + 260)))) 7 (some (ad33 (b + 303)))) 8 (some (ad33 (b + 346)))) 9 (some (ad33 (b + 389))))))))) (by omega) (by omega) (by rw [q31_33]) rfl (by rw [i33.1.2]; rfl) (C := RX3) (T := TX3) (NF := 5) (ci := 3) rfl (vp_in_nI (n := 9) (N := 14) (by decide) (by decide)) rfl dX1_init_43 ?_
  obtain ⟨Sh34, y34⟩ : ∃ z, z = xupS Sh33 (b + 1) (fun _ => .inl (D.1 105, 14, .inr (.inr (.inr (.inr (va_up (va_up (va_up (va_up (va_up (va_up (va_up (va_up (va_up (va_up (fun _ => none) 0 (some (ad33 (b + 2)))) 1 (some (ad33 (b + 45)))) 2 (some (ad33 (b + 88)))) 3 (some (ad33 (b + 131)))) 4 (some (ad33 (b + 174)))) 5 (some (ad33 (b + 217)))) 6 (some (ad33 (b + 260)))) 7 (some (ad33 (b + 303)))) 8 (some (ad33 (b + 346)))) 9 (some (ad33 (b + 389))))))))) := ⟨_, rfl⟩
  rw [← y34]
  have s34 : ∀ i, i ≠ b + 1 → Sh34 i = Sh33 i := fun i hb => by rw [y34]; exact if_neg hb
  have q34 : Sh34 (b + 1) = (fun _ => .inl (D.1 105, 14, .inr (.inr (.inr (.inr (va_up (va_up (va_up (va_up (va_up (va_up (va_up (va_up (va_up (va_up (fun _ => none) 0 (some (ad33 (b + 2)))) 1 (some (ad33 (b + 45)))) 2 (some (ad33 (b + 88)))) 3 (some (ad33 (b + 131)))) 4 (some (ad33 (b + 174)))) 5 (some (ad33 (b + 217)))) 6 (some (ad33 (b + 260)))) 7 (some (ad33 (b + 303)))) 8 (some (ad33 (b + 346)))) 9 (some (ad33 (b + 389))))))))) := by rw [y34]; exact if_pos rfl
  clear y34
  have q2_34 : Sh34 (b) = (fun r => .inr (1, [.ref (ad33 (b + 1)), .int (r 1), .int (r 2)])) := (s34 (b) (by omega)).trans q2_33
  have i6_34 : xIs3 D ad33 (b + 432) Sh34 (b + 2) := xIs3_ex i6_33 (fun i h1 h2 => ⟨rfl, s34 i (by omega)⟩) (by omega)
  have i9_34 : xIs3 D ad33 (b + 432) Sh34 (b + 45) := xIs3_ex i9_33 (fun i h1 h2 => ⟨rfl, s34 i (by omega)⟩) (by omega)
  have i12_34 : xIs3 D ad33 (b + 432) Sh34 (b + 88) := xIs3_ex i12_33 (fun i h1 h2 => ⟨rfl, s34 i (by omega)⟩) (by omega)
  have i15_34 : xIs3 D ad33 (b + 432) Sh34 (b + 131) := xIs3_ex i15_33 (fun i h1 h2 => ⟨rfl, s34 i (by omega)⟩) (by omega)
  have i18_34 : xIs3 D ad33 (b + 432) Sh34 (b + 174) := xIs3_ex i18_33 (fun i h1 h2 => ⟨rfl, s34 i (by omega)⟩) (by omega)
  have i21_34 : xIs3 D ad33 (b + 432) Sh34 (b + 217) := xIs3_ex i21_33 (fun i h1 h2 => ⟨rfl, s34 i (by omega)⟩) (by omega)
  have i24_34 : xIs3 D ad33 (b + 432) Sh34 (b + 260) := xIs3_ex i24_33 (fun i h1 h2 => ⟨rfl, s34 i (by omega)⟩) (by omega)
  have i27_34 : xIs3 D ad33 (b + 432) Sh34 (b + 303) := xIs3_ex i27_33 (fun i h1 h2 => ⟨rfl, s34 i (by omega)⟩) (by omega)
  have i30_34 : xIs3 D ad33 (b + 432) Sh34 (b + 346) := xIs3_ex i30_33 (fun i h1 h2 => ⟨rfl, s34 i (by omega)⟩) (by omega)
  have i33_34 : xIs3 D ad33 (b + 432) Sh34 (b + 389) := xIs3_ex i33 (fun i h1 h2 => ⟨rfl, s34 i (by omega)⟩) (by omega)
  have cH34 : ∀ i, i < b → Sh34 i = Sh0 i := fun i hi => (s34 i (by omega)).trans (cH33 i hi)
  clear q2_33 i6_33 i9_33 i12_33 i15_33 i18_33 i21_33 i24_33 i27_33 i30_33 q31_33 i33 cH33
  refine xr_iincC (pc := 44) X33 (i := 1) (j := 1) (v := 10) [1, 0] (Nat.le_of_ble_eq_true rfl) hnL rfl (by decide) rfl dX1_init_44 ?_
  refine x_conv (lv2 := [(0, .ref (ad33 (b))), (1, .int 10)]) (st2 := []) rfl rfl ?_
  refine xr_goto (pc := 47) X33 25 (by decide) dX1_init_47 ?_
  refine xr_iload_n (pc := 25) X33 (i := 1) 1 rfl rfl dX1_init_25 ?_
  refine xr_bipush (pc := 26) X33 dX1_init_26 (v := 14) (by decide) ?_
  refine x_convE (ex2 := if (14 : Int32) ≤ (10 : Int32) then some () else some ()) (by decide) ?_
  refine xr_icmp_ge (pc := 28) X33 50 (by decide) dX1_init_28 (fun hc => absurd hc (by decide)) (fun hc => ?_)
  refine xr_aload_n (pc := 31) X33 (i := 0) 0 rfl rfl dX1_init_31 ?_
  refine xr_getB (pc := 32) X33 (b) 0 (by omega) (by rw [q2_34]) (C := RX1) (T := TX1) (NF := 3) rfl hinX1 (by omega) wm_5_8 rfl rfl dX1_init_32 ?_
  refine xr_iload_n (pc := 35) X33 (i := 1) 1 rfl rfl dX1_init_35 ?_
  refine xr_new (pc := 36) X33 shB3 (C := RX3) (T := TX3) (NF := 5) (tyf := tyX3) rfl hinX3 tyX3_ok wm_5_7 wm_1_15 wm_1_16 rfl (fun j hj => by rcases (show j = 0 ∨ j = 1 ∨ j = 2 ∨ j = 3 ∨ j = 4 by omega) with rfl | rfl | rfl | rfl | rfl <;> rfl) (Nat.le_of_ble_eq_true rfl) (Nat.le_of_ble_eq_true rfl) dX1_init_36 (fun ad35 e35 X35 => ?_)
  obtain ⟨Sh35, y35⟩ : ∃ z, z = xupS Sh34 (b + 432) shB3 := ⟨_, rfl⟩
  obtain ⟨σ35, w35⟩ : ∃ z, z = xz σ33 (b + 432) := ⟨_, rfl⟩
  rw [← y35, ← w35]
  have s35 : ∀ i, i < b + 432 → ad35 i = ad33 i ∧ Sh35 i = Sh34 i ∧ σ35 i = σ33 i := fun i hi => ⟨e35 i hi, by rw [y35]; exact if_neg (Nat.ne_of_lt hi), by rw [w35]; exact if_neg (Nat.ne_of_lt hi)⟩
  have q35 : Sh35 (b + 432) = shB3 := by rw [y35]; exact if_pos rfl
  have t35 : σ35 (b + 432) = (fun _ => 0) := by rw [w35]; exact if_pos rfl
  clear e35 y35 w35
  have q2_35 : Sh35 (b) = (fun r => .inr (1, [.ref (ad35 (b + 1)), .int (r 1), .int (r 2)])) := ((s35 (b) (by omega)).2.1.trans q2_34).trans (by simp only [(s35 (b + 1) (by omega)).1])
  have i6_35 : xIs3 D ad35 (b + 433) Sh35 (b + 2) := xIs3_ex i6_34 (fun i h1 h2 => ⟨(s35 i (by omega)).1, (s35 i (by omega)).2.1⟩) (by omega)
  have i9_35 : xIs3 D ad35 (b + 433) Sh35 (b + 45) := xIs3_ex i9_34 (fun i h1 h2 => ⟨(s35 i (by omega)).1, (s35 i (by omega)).2.1⟩) (by omega)
  have i12_35 : xIs3 D ad35 (b + 433) Sh35 (b + 88) := xIs3_ex i12_34 (fun i h1 h2 => ⟨(s35 i (by omega)).1, (s35 i (by omega)).2.1⟩) (by omega)
  have i15_35 : xIs3 D ad35 (b + 433) Sh35 (b + 131) := xIs3_ex i15_34 (fun i h1 h2 => ⟨(s35 i (by omega)).1, (s35 i (by omega)).2.1⟩) (by omega)
  have i18_35 : xIs3 D ad35 (b + 433) Sh35 (b + 174) := xIs3_ex i18_34 (fun i h1 h2 => ⟨(s35 i (by omega)).1, (s35 i (by omega)).2.1⟩) (by omega)
  have i21_35 : xIs3 D ad35 (b + 433) Sh35 (b + 217) := xIs3_ex i21_34 (fun i h1 h2 => ⟨(s35 i (by omega)).1, (s35 i (by omega)).2.1⟩) (by omega)
  have i24_35 : xIs3 D ad35 (b + 433) Sh35 (b + 260) := xIs3_ex i24_34 (fun i h1 h2 => ⟨(s35 i (by omega)).1, (s35 i (by omega)).2.1⟩) (by omega)
  have i27_35 : xIs3 D ad35 (b + 433) Sh35 (b + 303) := xIs3_ex i27_34 (fun i h1 h2 => ⟨(s35 i (by omega)).1, (s35 i (by omega)).2.1⟩) (by omega)
  have i30_35 : xIs3 D ad35 (b + 433) Sh35 (b + 346) := xIs3_ex i30_34 (fun i h1 h2 => ⟨(s35 i (by omega)).1, (s35 i (by omega)).2.1⟩) (by omega)
  have i33_35 : xIs3 D ad35 (b + 433) Sh35 (b + 389) := xIs3_ex i33_34 (fun i h1 h2 => ⟨(s35 i (by omega)).1, (s35 i (by omega)).2.1⟩) (by omega)
  have q34_35 : Sh35 (b + 1) = (fun _ => .inl (D.1 105, 14, .inr (.inr (.inr (.inr (va_up (va_up (va_up (va_up (va_up (va_up (va_up (va_up (va_up (va_up (fun _ => none) 0 (some (ad35 (b + 2)))) 1 (some (ad35 (b + 45)))) 2 (some (ad35 (b + 88)))) 3 (some (ad35 (b + 131)))) 4 (some (ad35 (b + 174)))) 5 (some (ad35 (b + 217)))) 6 (some (ad35 (b + 260)))) 7 (some (ad35 (b + 303)))) 8 (some (ad35 (b + 346)))) 9 (some (ad35 (b + 389))))))))) := ((s35 (b + 1) (by omega)).2.1.trans q34).trans (by simp only [(s35 (b + 2) (by omega)).1, (s35 (b + 45) (by omega)).1, (s35 (b + 88) (by omega)).1, (s35 (b + 131) (by omega)).1, (s35 (b + 174) (by omega)).1, (s35 (b + 217) (by omega)).1, (s35 (b + 260) (by omega)).1, (s35 (b + 303) (by omega)).1, (s35 (b + 346) (by omega)).1, (s35 (b + 389) (by omega)).1])
  have t1_35 : σ35 (b + 1) = (fun _ => 0) := by rw [(s35 (b + 1) (by omega)).2.2]; exact t1_33
  have v3_35 : σ35 b 1 = 0 := by rw [(s35 (b) (by omega)).2.2]; exact v3_33
  have v4_35 : σ35 b 2 = 0 := by rw [(s35 (b) (by omega)).2.2]; exact v4_33
  have cA35 : ∀ i, i ≤ b → ad35 i = ad0 i := fun i hi => (s35 i (by omega)).1.trans (cA33 i hi)
  have cH35 : ∀ i, i < b → Sh35 i = Sh0 i := fun i hi => (s35 i (by omega)).2.1.trans (cH34 i hi)
  have cG35 : ∀ i, i < b → σ35 i = σ0 i := fun i hi => (s35 i (by omega)).2.2.trans (cG33 i hi)
  clear q2_34 i6_34 i9_34 i12_34 i15_34 i18_34 i21_34 i24_34 i27_34 i30_34 i33_34 q34 t1_33 v3_33 v4_33 cA33 cH34 cG33
  refine x_conv (lv2 := [(0, .ref (ad35 (b))), (1, .int 10)]) (st2 := [.ref (ad35 (b + 432)), .int 10, .ref (ad35 (b + 1))]) (by simp only [(s35 (b) (by omega)).1]) (by simp only [(s35 (b + 1) (by omega)).1]) ?_
  replace X35 : xC Γ _ _ _ _ _ D ad35 (b + 433) := X35
  refine x_convN (N2 := b + 433) rfl ?_
  refine xr_dup (pc := 39) X35 rfl dX1_init_39 ?_
  refine xr_callC (pc := 40) (na := 0) (b + 432) [] X35 hAO (c_X3_init Γ.2.1 D _) q35 t35 rfl (wG_1 wm_2_17) rfl rfl rfl (List.mem_cons_of_mem _ wm_1_16) (List.mem_cons_of_mem _ wm_5_11) (List.mem_cons_of_mem _ wm_2_16) rfl (by decide +kernel) ⟨(Nat.le_of_ble_eq_true rfl), (Nat.le_of_ble_eq_true rfl)⟩ rfl rfl (Nat.le_of_ble_eq_true rfl) ⟨(Nat.le_of_ble_eq_true rfl), (Nat.le_of_ble_eq_true rfl)⟩ dX1_init_40 (fun ad36 Sh36 σ36 p36 X36 => ?_)
  have s36 : ∀ i, i < b + 432 → ad36 i = ad35 i ∧ Sh36 i = Sh35 i ∧ σ36 i = σ35 i := fun i hi => ⟨p36.1 i (by omega), (p36.2.1 i hi).1, (p36.2.1 i hi).2⟩
  have n36 := p36.2.2
  have r36 : ad36 (b + 432) = ad35 (b + 432) := p36.1 _ (Nat.le_refl _)
  clear p36
  replace X36 : xC Γ _ _ _ _ _ D ad36 (b + 475) := X36
  refine x_convN (N2 := b + 475) rfl ?_
  have q2_36 : Sh36 (b) = (fun r => .inr (1, [.ref (ad36 (b + 1)), .int (r 1), .int (r 2)])) := ((s36 (b) (by omega)).2.1.trans q2_35).trans (by simp only [(s36 (b + 1) (by omega)).1])
  have i6_36 : xIs3 D ad36 (b + 475) Sh36 (b + 2) := xIs3_ex i6_35 (fun i h1 h2 => ⟨(s36 i (by omega)).1, (s36 i (by omega)).2.1⟩) (by omega)
  have i9_36 : xIs3 D ad36 (b + 475) Sh36 (b + 45) := xIs3_ex i9_35 (fun i h1 h2 => ⟨(s36 i (by omega)).1, (s36 i (by omega)).2.1⟩) (by omega)
  have i12_36 : xIs3 D ad36 (b + 475) Sh36 (b + 88) := xIs3_ex i12_35 (fun i h1 h2 => ⟨(s36 i (by omega)).1, (s36 i (by omega)).2.1⟩) (by omega)
  have i15_36 : xIs3 D ad36 (b + 475) Sh36 (b + 131) := xIs3_ex i15_35 (fun i h1 h2 => ⟨(s36 i (by omega)).1, (s36 i (by omega)).2.1⟩) (by omega)
  have i18_36 : xIs3 D ad36 (b + 475) Sh36 (b + 174) := xIs3_ex i18_35 (fun i h1 h2 => ⟨(s36 i (by omega)).1, (s36 i (by omega)).2.1⟩) (by omega)
  have i21_36 : xIs3 D ad36 (b + 475) Sh36 (b + 217) := xIs3_ex i21_35 (fun i h1 h2 => ⟨(s36 i (by omega)).1, (s36 i (by omega)).2.1⟩) (by omega)
  have i24_36 : xIs3 D ad36 (b + 475) Sh36 (b + 260) := xIs3_ex i24_35 (fun i h1 h2 => ⟨(s36 i (by omega)).1, (s36 i (by omega)).2.1⟩) (by omega)
  have i27_36 : xIs3 D ad36 (b + 475) Sh36 (b + 303) := xIs3_ex i27_35 (fun i h1 h2 => ⟨(s36 i (by omega)).1, (s36 i (by omega)).2.1⟩) (by omega)
  have i30_36 : xIs3 D ad36 (b + 475) Sh36 (b + 346) := xIs3_ex i30_35 (fun i h1 h2 => ⟨(s36 i (by omega)).1, (s36 i (by omega)).2.1⟩) (by omega)
  have i33_36 : xIs3 D ad36 (b + 475) Sh36 (b + 389) := xIs3_ex i33_35 (fun i h1 h2 => ⟨(s36 i (by omega)).1, (s36 i (by omega)).2.1⟩) (by omega)
  have q34_36 : Sh36 (b + 1) = (fun _ => .inl (D.1 105, 14, .inr (.inr (.inr (.inr (va_up (va_up (va_up (va_up (va_up (va_up (va_up (va_up (va_up (va_up (fun _ => none) 0 (some (ad36 (b + 2)))) 1 (some (ad36 (b + 45)))) 2 (some (ad36 (b + 88)))) 3 (some (ad36 (b + 131)))) 4 (some (ad36 (b + 174)))) 5 (some (ad36 (b + 217)))) 6 (some (ad36 (b + 260)))) 7 (some (ad36 (b + 303)))) 8 (some (ad36 (b + 346)))) 9 (some (ad36 (b + 389))))))))) := ((s36 (b + 1) (by omega)).2.1.trans q34_35).trans (by simp only [(s36 (b + 2) (by omega)).1, (s36 (b + 45) (by omega)).1, (s36 (b + 88) (by omega)).1, (s36 (b + 131) (by omega)).1, (s36 (b + 174) (by omega)).1, (s36 (b + 217) (by omega)).1, (s36 (b + 260) (by omega)).1, (s36 (b + 303) (by omega)).1, (s36 (b + 346) (by omega)).1, (s36 (b + 389) (by omega)).1])
  have t1_36 : σ36 (b + 1) = (fun _ => 0) := by rw [(s36 (b + 1) (by omega)).2.2]; exact t1_35
  have v3_36 : σ36 b 1 = 0 := by rw [(s36 (b) (by omega)).2.2]; exact v3_35
  have v4_36 : σ36 b 2 = 0 := by rw [(s36 (b) (by omega)).2.2]; exact v4_35
  have cA36 : ∀ i, i ≤ b → ad36 i = ad0 i := fun i hi => (s36 i (by omega)).1.trans (cA35 i hi)
  have cH36 : ∀ i, i < b → Sh36 i = Sh0 i := fun i hi => (s36 i (by omega)).2.1.trans (cH35 i hi)
  have cG36 : ∀ i, i < b → σ36 i = σ0 i := fun i hi => (s36 i (by omega)).2.2.trans (cG35 i hi)
  clear q2_35 i6_35 i9_35 i12_35 i15_35 i18_35 i21_35 i24_35 i27_35 i30_35 i33_35 q34_35 t1_35 v3_35 v4_35 cA35 cH35 cG35
  have i36 : xIs3 D ad36 (b + 475) Sh36 (b + 432) := n36.1
  refine x_conv (lv2 := [(0, .ref (ad36 (b))), (1, .int 10)]) (st2 := [.ref (ad36 (b + 432)), .int 10, .ref (ad36 (b + 1))]) (by simp only [(s36 (b) (by omega)).1]) (by simp only [r36, (s36 (b + 1) (by omega)).1]) ?_
  refine xr_astq (pc := 43) (t0 := 5) (n0 := 14) (cid := D.1 105) X36 (b + 1) (b + 432) (fun _ => .inl (D.1 105, 14, .inr (.inr (.inr (.inr (va_up (va_up (va_up (va_up (va_up (va_up (va_up (va_up (va_up (va_up (va_up (fun _ => none) 0 (some (ad36 (b + 2)))) 1 (some (ad36 (b + 45)))) 2 (some (ad36 (b + 88)))) 3 (some (ad36 (b + 131)))) 4 (some (ad36 (b + 174)))) 5 (some (ad36 (b + 217)))) 6 (some (ad36 (b + 260)))) 7 (some (ad36 (b + 303)))) 8 (some (ad36 (b + 346)))) 9 (some (ad36 (b + 389)))) 10 (some (ad36 (b + 432))))))))) (by omega) (by omega) (by rw [q34_36]) rfl (by rw [i36.1.2]; rfl) (C := RX3) (T := TX3) (NF := 5) (ci := 3) rfl (vp_in_nI (n := 10) (N := 14) (by decide) (by decide)) rfl dX1_init_43 ?_
  obtain ⟨Sh37, y37⟩ : ∃ z, z = xupS Sh36 (b + 1) (fun _ => .inl (D.1 105, 14, .inr (.inr (.inr (.inr (va_up (va_up (va_up (va_up (va_up (va_up (va_up (va_up (va_up (va_up (va_up (fun _ => none) 0 (some (ad36 (b + 2)))) 1 (some (ad36 (b + 45)))) 2 (some (ad36 (b + 88)))) 3 (some (ad36 (b + 131)))) 4 (some (ad36 (b + 174)))) 5 (some (ad36 (b + 217)))) 6 (some (ad36 (b + 260)))) 7 (some (ad36 (b + 303)))) 8 (some (ad36 (b + 346)))) 9 (some (ad36 (b + 389)))) 10 (some (ad36 (b + 432))))))))) := ⟨_, rfl⟩
  rw [← y37]
  have s37 : ∀ i, i ≠ b + 1 → Sh37 i = Sh36 i := fun i hb => by rw [y37]; exact if_neg hb
  have q37 : Sh37 (b + 1) = (fun _ => .inl (D.1 105, 14, .inr (.inr (.inr (.inr (va_up (va_up (va_up (va_up (va_up (va_up (va_up (va_up (va_up (va_up (va_up (fun _ => none) 0 (some (ad36 (b + 2)))) 1 (some (ad36 (b + 45)))) 2 (some (ad36 (b + 88)))) 3 (some (ad36 (b + 131)))) 4 (some (ad36 (b + 174)))) 5 (some (ad36 (b + 217)))) 6 (some (ad36 (b + 260)))) 7 (some (ad36 (b + 303)))) 8 (some (ad36 (b + 346)))) 9 (some (ad36 (b + 389)))) 10 (some (ad36 (b + 432))))))))) := by rw [y37]; exact if_pos rfl
  clear y37
  have q2_37 : Sh37 (b) = (fun r => .inr (1, [.ref (ad36 (b + 1)), .int (r 1), .int (r 2)])) := (s37 (b) (by omega)).trans q2_36
  have i6_37 : xIs3 D ad36 (b + 475) Sh37 (b + 2) := xIs3_ex i6_36 (fun i h1 h2 => ⟨rfl, s37 i (by omega)⟩) (by omega)
  have i9_37 : xIs3 D ad36 (b + 475) Sh37 (b + 45) := xIs3_ex i9_36 (fun i h1 h2 => ⟨rfl, s37 i (by omega)⟩) (by omega)
  have i12_37 : xIs3 D ad36 (b + 475) Sh37 (b + 88) := xIs3_ex i12_36 (fun i h1 h2 => ⟨rfl, s37 i (by omega)⟩) (by omega)
  have i15_37 : xIs3 D ad36 (b + 475) Sh37 (b + 131) := xIs3_ex i15_36 (fun i h1 h2 => ⟨rfl, s37 i (by omega)⟩) (by omega)
  have i18_37 : xIs3 D ad36 (b + 475) Sh37 (b + 174) := xIs3_ex i18_36 (fun i h1 h2 => ⟨rfl, s37 i (by omega)⟩) (by omega)
  have i21_37 : xIs3 D ad36 (b + 475) Sh37 (b + 217) := xIs3_ex i21_36 (fun i h1 h2 => ⟨rfl, s37 i (by omega)⟩) (by omega)
  have i24_37 : xIs3 D ad36 (b + 475) Sh37 (b + 260) := xIs3_ex i24_36 (fun i h1 h2 => ⟨rfl, s37 i (by omega)⟩) (by omega)
  have i27_37 : xIs3 D ad36 (b + 475) Sh37 (b + 303) := xIs3_ex i27_36 (fun i h1 h2 => ⟨rfl, s37 i (by omega)⟩) (by omega)
  have i30_37 : xIs3 D ad36 (b + 475) Sh37 (b + 346) := xIs3_ex i30_36 (fun i h1 h2 => ⟨rfl, s37 i (by omega)⟩) (by omega)
  have i33_37 : xIs3 D ad36 (b + 475) Sh37 (b + 389) := xIs3_ex i33_36 (fun i h1 h2 => ⟨rfl, s37 i (by omega)⟩) (by omega)
  have i36_37 : xIs3 D ad36 (b + 475) Sh37 (b + 432) := xIs3_ex i36 (fun i h1 h2 => ⟨rfl, s37 i (by omega)⟩) (by omega)
  have cH37 : ∀ i, i < b → Sh37 i = Sh0 i := fun i hi => (s37 i (by omega)).trans (cH36 i hi)
  clear q2_36 i6_36 i9_36 i12_36 i15_36 i18_36 i21_36 i24_36 i27_36 i30_36 i33_36 q34_36 i36 cH36
  refine xr_iincC (pc := 44) X36 (i := 1) (j := 1) (v := 11) [1, 0] (Nat.le_of_ble_eq_true rfl) hnL rfl (by decide) rfl dX1_init_44 ?_
  refine x_conv (lv2 := [(0, .ref (ad36 (b))), (1, .int 11)]) (st2 := []) rfl rfl ?_
  refine xr_goto (pc := 47) X36 25 (by decide) dX1_init_47 ?_
  refine xr_iload_n (pc := 25) X36 (i := 1) 1 rfl rfl dX1_init_25 ?_
  refine xr_bipush (pc := 26) X36 dX1_init_26 (v := 14) (by decide) ?_
  refine x_convE (ex2 := if (14 : Int32) ≤ (11 : Int32) then some () else some ()) (by decide) ?_
  refine xr_icmp_ge (pc := 28) X36 50 (by decide) dX1_init_28 (fun hc => absurd hc (by decide)) (fun hc => ?_)
  refine xr_aload_n (pc := 31) X36 (i := 0) 0 rfl rfl dX1_init_31 ?_
  refine xr_getB (pc := 32) X36 (b) 0 (by omega) (by rw [q2_37]) (C := RX1) (T := TX1) (NF := 3) rfl hinX1 (by omega) wm_5_8 rfl rfl dX1_init_32 ?_
  refine xr_iload_n (pc := 35) X36 (i := 1) 1 rfl rfl dX1_init_35 ?_
  refine xr_new (pc := 36) X36 shB3 (C := RX3) (T := TX3) (NF := 5) (tyf := tyX3) rfl hinX3 tyX3_ok wm_5_7 wm_1_15 wm_1_16 rfl (fun j hj => by rcases (show j = 0 ∨ j = 1 ∨ j = 2 ∨ j = 3 ∨ j = 4 by omega) with rfl | rfl | rfl | rfl | rfl <;> rfl) (Nat.le_of_ble_eq_true rfl) (Nat.le_of_ble_eq_true rfl) dX1_init_36 (fun ad38 e38 X38 => ?_)
  obtain ⟨Sh38, y38⟩ : ∃ z, z = xupS Sh37 (b + 475) shB3 := ⟨_, rfl⟩
  obtain ⟨σ38, w38⟩ : ∃ z, z = xz σ36 (b + 475) := ⟨_, rfl⟩
  rw [← y38, ← w38]
  have s38 : ∀ i, i < b + 475 → ad38 i = ad36 i ∧ Sh38 i = Sh37 i ∧ σ38 i = σ36 i := fun i hi => ⟨e38 i hi, by rw [y38]; exact if_neg (Nat.ne_of_lt hi), by rw [w38]; exact if_neg (Nat.ne_of_lt hi)⟩
  have q38 : Sh38 (b + 475) = shB3 := by rw [y38]; exact if_pos rfl
  have t38 : σ38 (b + 475) = (fun _ => 0) := by rw [w38]; exact if_pos rfl
  clear e38 y38 w38
  have q2_38 : Sh38 (b) = (fun r => .inr (1, [.ref (ad38 (b + 1)), .int (r 1), .int (r 2)])) := ((s38 (b) (by omega)).2.1.trans q2_37).trans (by simp only [(s38 (b + 1) (by omega)).1])
  have i6_38 : xIs3 D ad38 (b + 476) Sh38 (b + 2) := xIs3_ex i6_37 (fun i h1 h2 => ⟨(s38 i (by omega)).1, (s38 i (by omega)).2.1⟩) (by omega)
  have i9_38 : xIs3 D ad38 (b + 476) Sh38 (b + 45) := xIs3_ex i9_37 (fun i h1 h2 => ⟨(s38 i (by omega)).1, (s38 i (by omega)).2.1⟩) (by omega)
  have i12_38 : xIs3 D ad38 (b + 476) Sh38 (b + 88) := xIs3_ex i12_37 (fun i h1 h2 => ⟨(s38 i (by omega)).1, (s38 i (by omega)).2.1⟩) (by omega)
  have i15_38 : xIs3 D ad38 (b + 476) Sh38 (b + 131) := xIs3_ex i15_37 (fun i h1 h2 => ⟨(s38 i (by omega)).1, (s38 i (by omega)).2.1⟩) (by omega)
  have i18_38 : xIs3 D ad38 (b + 476) Sh38 (b + 174) := xIs3_ex i18_37 (fun i h1 h2 => ⟨(s38 i (by omega)).1, (s38 i (by omega)).2.1⟩) (by omega)
  have i21_38 : xIs3 D ad38 (b + 476) Sh38 (b + 217) := xIs3_ex i21_37 (fun i h1 h2 => ⟨(s38 i (by omega)).1, (s38 i (by omega)).2.1⟩) (by omega)
  have i24_38 : xIs3 D ad38 (b + 476) Sh38 (b + 260) := xIs3_ex i24_37 (fun i h1 h2 => ⟨(s38 i (by omega)).1, (s38 i (by omega)).2.1⟩) (by omega)
  have i27_38 : xIs3 D ad38 (b + 476) Sh38 (b + 303) := xIs3_ex i27_37 (fun i h1 h2 => ⟨(s38 i (by omega)).1, (s38 i (by omega)).2.1⟩) (by omega)
  have i30_38 : xIs3 D ad38 (b + 476) Sh38 (b + 346) := xIs3_ex i30_37 (fun i h1 h2 => ⟨(s38 i (by omega)).1, (s38 i (by omega)).2.1⟩) (by omega)
  have i33_38 : xIs3 D ad38 (b + 476) Sh38 (b + 389) := xIs3_ex i33_37 (fun i h1 h2 => ⟨(s38 i (by omega)).1, (s38 i (by omega)).2.1⟩) (by omega)
  have i36_38 : xIs3 D ad38 (b + 476) Sh38 (b + 432) := xIs3_ex i36_37 (fun i h1 h2 => ⟨(s38 i (by omega)).1, (s38 i (by omega)).2.1⟩) (by omega)
  have q37_38 : Sh38 (b + 1) = (fun _ => .inl (D.1 105, 14, .inr (.inr (.inr (.inr (va_up (va_up (va_up (va_up (va_up (va_up (va_up (va_up (va_up (va_up (va_up (fun _ => none) 0 (some (ad38 (b + 2)))) 1 (some (ad38 (b + 45)))) 2 (some (ad38 (b + 88)))) 3 (some (ad38 (b + 131)))) 4 (some (ad38 (b + 174)))) 5 (some (ad38 (b + 217)))) 6 (some (ad38 (b + 260)))) 7 (some (ad38 (b + 303)))) 8 (some (ad38 (b + 346)))) 9 (some (ad38 (b + 389)))) 10 (some (ad38 (b + 432))))))))) := ((s38 (b + 1) (by omega)).2.1.trans q37).trans (by simp only [(s38 (b + 2) (by omega)).1, (s38 (b + 45) (by omega)).1, (s38 (b + 88) (by omega)).1, (s38 (b + 131) (by omega)).1, (s38 (b + 174) (by omega)).1, (s38 (b + 217) (by omega)).1, (s38 (b + 260) (by omega)).1, (s38 (b + 303) (by omega)).1, (s38 (b + 346) (by omega)).1, (s38 (b + 389) (by omega)).1, (s38 (b + 432) (by omega)).1])
  have t1_38 : σ38 (b + 1) = (fun _ => 0) := by rw [(s38 (b + 1) (by omega)).2.2]; exact t1_36
  have v3_38 : σ38 b 1 = 0 := by rw [(s38 (b) (by omega)).2.2]; exact v3_36
  have v4_38 : σ38 b 2 = 0 := by rw [(s38 (b) (by omega)).2.2]; exact v4_36
  have cA38 : ∀ i, i ≤ b → ad38 i = ad0 i := fun i hi => (s38 i (by omega)).1.trans (cA36 i hi)
  have cH38 : ∀ i, i < b → Sh38 i = Sh0 i := fun i hi => (s38 i (by omega)).2.1.trans (cH37 i hi)
  have cG38 : ∀ i, i < b → σ38 i = σ0 i := fun i hi => (s38 i (by omega)).2.2.trans (cG36 i hi)
  clear q2_37 i6_37 i9_37 i12_37 i15_37 i18_37 i21_37 i24_37 i27_37 i30_37 i33_37 i36_37 q37 t1_36 v3_36 v4_36 cA36 cH37 cG36
  refine x_conv (lv2 := [(0, .ref (ad38 (b))), (1, .int 11)]) (st2 := [.ref (ad38 (b + 475)), .int 11, .ref (ad38 (b + 1))]) (by simp only [(s38 (b) (by omega)).1]) (by simp only [(s38 (b + 1) (by omega)).1]) ?_
  replace X38 : xC Γ _ _ _ _ _ D ad38 (b + 476) := X38
  refine x_convN (N2 := b + 476) rfl ?_
  refine xr_dup (pc := 39) X38 rfl dX1_init_39 ?_
  refine xr_callC (pc := 40) (na := 0) (b + 475) [] X38 hAO (c_X3_init Γ.2.1 D _) q38 t38 rfl (wG_1 wm_2_17) rfl rfl rfl (List.mem_cons_of_mem _ wm_1_16) (List.mem_cons_of_mem _ wm_5_11) (List.mem_cons_of_mem _ wm_2_16) rfl (by decide +kernel) ⟨(Nat.le_of_ble_eq_true rfl), (Nat.le_of_ble_eq_true rfl)⟩ rfl rfl (Nat.le_of_ble_eq_true rfl) ⟨(Nat.le_of_ble_eq_true rfl), (Nat.le_of_ble_eq_true rfl)⟩ dX1_init_40 (fun ad39 Sh39 σ39 p39 X39 => ?_)
  have s39 : ∀ i, i < b + 475 → ad39 i = ad38 i ∧ Sh39 i = Sh38 i ∧ σ39 i = σ38 i := fun i hi => ⟨p39.1 i (by omega), (p39.2.1 i hi).1, (p39.2.1 i hi).2⟩
  have n39 := p39.2.2
  have r39 : ad39 (b + 475) = ad38 (b + 475) := p39.1 _ (Nat.le_refl _)
  clear p39
  replace X39 : xC Γ _ _ _ _ _ D ad39 (b + 518) := X39
  refine x_convN (N2 := b + 518) rfl ?_
  have q2_39 : Sh39 (b) = (fun r => .inr (1, [.ref (ad39 (b + 1)), .int (r 1), .int (r 2)])) := ((s39 (b) (by omega)).2.1.trans q2_38).trans (by simp only [(s39 (b + 1) (by omega)).1])
  have i6_39 : xIs3 D ad39 (b + 518) Sh39 (b + 2) := xIs3_ex i6_38 (fun i h1 h2 => ⟨(s39 i (by omega)).1, (s39 i (by omega)).2.1⟩) (by omega)
  have i9_39 : xIs3 D ad39 (b + 518) Sh39 (b + 45) := xIs3_ex i9_38 (fun i h1 h2 => ⟨(s39 i (by omega)).1, (s39 i (by omega)).2.1⟩) (by omega)
  have i12_39 : xIs3 D ad39 (b + 518) Sh39 (b + 88) := xIs3_ex i12_38 (fun i h1 h2 => ⟨(s39 i (by omega)).1, (s39 i (by omega)).2.1⟩) (by omega)
  have i15_39 : xIs3 D ad39 (b + 518) Sh39 (b + 131) := xIs3_ex i15_38 (fun i h1 h2 => ⟨(s39 i (by omega)).1, (s39 i (by omega)).2.1⟩) (by omega)
  have i18_39 : xIs3 D ad39 (b + 518) Sh39 (b + 174) := xIs3_ex i18_38 (fun i h1 h2 => ⟨(s39 i (by omega)).1, (s39 i (by omega)).2.1⟩) (by omega)
  have i21_39 : xIs3 D ad39 (b + 518) Sh39 (b + 217) := xIs3_ex i21_38 (fun i h1 h2 => ⟨(s39 i (by omega)).1, (s39 i (by omega)).2.1⟩) (by omega)
  have i24_39 : xIs3 D ad39 (b + 518) Sh39 (b + 260) := xIs3_ex i24_38 (fun i h1 h2 => ⟨(s39 i (by omega)).1, (s39 i (by omega)).2.1⟩) (by omega)
  have i27_39 : xIs3 D ad39 (b + 518) Sh39 (b + 303) := xIs3_ex i27_38 (fun i h1 h2 => ⟨(s39 i (by omega)).1, (s39 i (by omega)).2.1⟩) (by omega)
  have i30_39 : xIs3 D ad39 (b + 518) Sh39 (b + 346) := xIs3_ex i30_38 (fun i h1 h2 => ⟨(s39 i (by omega)).1, (s39 i (by omega)).2.1⟩) (by omega)
  have i33_39 : xIs3 D ad39 (b + 518) Sh39 (b + 389) := xIs3_ex i33_38 (fun i h1 h2 => ⟨(s39 i (by omega)).1, (s39 i (by omega)).2.1⟩) (by omega)
  have i36_39 : xIs3 D ad39 (b + 518) Sh39 (b + 432) := xIs3_ex i36_38 (fun i h1 h2 => ⟨(s39 i (by omega)).1, (s39 i (by omega)).2.1⟩) (by omega)
  have q37_39 : Sh39 (b + 1) = (fun _ => .inl (D.1 105, 14, .inr (.inr (.inr (.inr (va_up (va_up (va_up (va_up (va_up (va_up (va_up (va_up (va_up (va_up (va_up (fun _ => none) 0 (some (ad39 (b + 2)))) 1 (some (ad39 (b + 45)))) 2 (some (ad39 (b + 88)))) 3 (some (ad39 (b + 131)))) 4 (some (ad39 (b + 174)))) 5 (some (ad39 (b + 217)))) 6 (some (ad39 (b + 260)))) 7 (some (ad39 (b + 303)))) 8 (some (ad39 (b + 346)))) 9 (some (ad39 (b + 389)))) 10 (some (ad39 (b + 432))))))))) := ((s39 (b + 1) (by omega)).2.1.trans q37_38).trans (by simp only [(s39 (b + 2) (by omega)).1, (s39 (b + 45) (by omega)).1, (s39 (b + 88) (by omega)).1, (s39 (b + 131) (by omega)).1, (s39 (b + 174) (by omega)).1, (s39 (b + 217) (by omega)).1, (s39 (b + 260) (by omega)).1, (s39 (b + 303) (by omega)).1, (s39 (b + 346) (by omega)).1, (s39 (b + 389) (by omega)).1, (s39 (b + 432) (by omega)).1])
  have t1_39 : σ39 (b + 1) = (fun _ => 0) := by rw [(s39 (b + 1) (by omega)).2.2]; exact t1_38
  have v3_39 : σ39 b 1 = 0 := by rw [(s39 (b) (by omega)).2.2]; exact v3_38
  have v4_39 : σ39 b 2 = 0 := by rw [(s39 (b) (by omega)).2.2]; exact v4_38
  have cA39 : ∀ i, i ≤ b → ad39 i = ad0 i := fun i hi => (s39 i (by omega)).1.trans (cA38 i hi)
  have cH39 : ∀ i, i < b → Sh39 i = Sh0 i := fun i hi => (s39 i (by omega)).2.1.trans (cH38 i hi)
  have cG39 : ∀ i, i < b → σ39 i = σ0 i := fun i hi => (s39 i (by omega)).2.2.trans (cG38 i hi)
  clear q2_38 i6_38 i9_38 i12_38 i15_38 i18_38 i21_38 i24_38 i27_38 i30_38 i33_38 i36_38 q37_38 t1_38 v3_38 v4_38 cA38 cH38 cG38
  have i39 : xIs3 D ad39 (b + 518) Sh39 (b + 475) := n39.1
  refine x_conv (lv2 := [(0, .ref (ad39 (b))), (1, .int 11)]) (st2 := [.ref (ad39 (b + 475)), .int 11, .ref (ad39 (b + 1))]) (by simp only [(s39 (b) (by omega)).1]) (by simp only [r39, (s39 (b + 1) (by omega)).1]) ?_
  refine xr_astq (pc := 43) (t0 := 5) (n0 := 14) (cid := D.1 105) X39 (b + 1) (b + 475) (fun _ => .inl (D.1 105, 14, .inr (.inr (.inr (.inr (va_up (va_up (va_up (va_up (va_up (va_up (va_up (va_up (va_up (va_up (va_up (va_up (fun _ => none) 0 (some (ad39 (b + 2)))) 1 (some (ad39 (b + 45)))) 2 (some (ad39 (b + 88)))) 3 (some (ad39 (b + 131)))) 4 (some (ad39 (b + 174)))) 5 (some (ad39 (b + 217)))) 6 (some (ad39 (b + 260)))) 7 (some (ad39 (b + 303)))) 8 (some (ad39 (b + 346)))) 9 (some (ad39 (b + 389)))) 10 (some (ad39 (b + 432)))) 11 (some (ad39 (b + 475))))))))) (by omega) (by omega) (by rw [q37_39]) rfl (by rw [i39.1.2]; rfl) (C := RX3) (T := TX3) (NF := 5) (ci := 3) rfl (vp_in_nI (n := 11) (N := 14) (by decide) (by decide)) rfl dX1_init_43 ?_
  obtain ⟨Sh40, y40⟩ : ∃ z, z = xupS Sh39 (b + 1) (fun _ => .inl (D.1 105, 14, .inr (.inr (.inr (.inr (va_up (va_up (va_up (va_up (va_up (va_up (va_up (va_up (va_up (va_up (va_up (va_up (fun _ => none) 0 (some (ad39 (b + 2)))) 1 (some (ad39 (b + 45)))) 2 (some (ad39 (b + 88)))) 3 (some (ad39 (b + 131)))) 4 (some (ad39 (b + 174)))) 5 (some (ad39 (b + 217)))) 6 (some (ad39 (b + 260)))) 7 (some (ad39 (b + 303)))) 8 (some (ad39 (b + 346)))) 9 (some (ad39 (b + 389)))) 10 (some (ad39 (b + 432)))) 11 (some (ad39 (b + 475))))))))) := ⟨_, rfl⟩
  rw [← y40]
  have s40 : ∀ i, i ≠ b + 1 → Sh40 i = Sh39 i := fun i hb => by rw [y40]; exact if_neg hb
  have q40 : Sh40 (b + 1) = (fun _ => .inl (D.1 105, 14, .inr (.inr (.inr (.inr (va_up (va_up (va_up (va_up (va_up (va_up (va_up (va_up (va_up (va_up (va_up (va_up (fun _ => none) 0 (some (ad39 (b + 2)))) 1 (some (ad39 (b + 45)))) 2 (some (ad39 (b + 88)))) 3 (some (ad39 (b + 131)))) 4 (some (ad39 (b + 174)))) 5 (some (ad39 (b + 217)))) 6 (some (ad39 (b + 260)))) 7 (some (ad39 (b + 303)))) 8 (some (ad39 (b + 346)))) 9 (some (ad39 (b + 389)))) 10 (some (ad39 (b + 432)))) 11 (some (ad39 (b + 475))))))))) := by rw [y40]; exact if_pos rfl
  clear y40
  have q2_40 : Sh40 (b) = (fun r => .inr (1, [.ref (ad39 (b + 1)), .int (r 1), .int (r 2)])) := (s40 (b) (by omega)).trans q2_39
  have i6_40 : xIs3 D ad39 (b + 518) Sh40 (b + 2) := xIs3_ex i6_39 (fun i h1 h2 => ⟨rfl, s40 i (by omega)⟩) (by omega)
  have i9_40 : xIs3 D ad39 (b + 518) Sh40 (b + 45) := xIs3_ex i9_39 (fun i h1 h2 => ⟨rfl, s40 i (by omega)⟩) (by omega)
  have i12_40 : xIs3 D ad39 (b + 518) Sh40 (b + 88) := xIs3_ex i12_39 (fun i h1 h2 => ⟨rfl, s40 i (by omega)⟩) (by omega)
  have i15_40 : xIs3 D ad39 (b + 518) Sh40 (b + 131) := xIs3_ex i15_39 (fun i h1 h2 => ⟨rfl, s40 i (by omega)⟩) (by omega)
  have i18_40 : xIs3 D ad39 (b + 518) Sh40 (b + 174) := xIs3_ex i18_39 (fun i h1 h2 => ⟨rfl, s40 i (by omega)⟩) (by omega)
  have i21_40 : xIs3 D ad39 (b + 518) Sh40 (b + 217) := xIs3_ex i21_39 (fun i h1 h2 => ⟨rfl, s40 i (by omega)⟩) (by omega)
  have i24_40 : xIs3 D ad39 (b + 518) Sh40 (b + 260) := xIs3_ex i24_39 (fun i h1 h2 => ⟨rfl, s40 i (by omega)⟩) (by omega)
  have i27_40 : xIs3 D ad39 (b + 518) Sh40 (b + 303) := xIs3_ex i27_39 (fun i h1 h2 => ⟨rfl, s40 i (by omega)⟩) (by omega)
  have i30_40 : xIs3 D ad39 (b + 518) Sh40 (b + 346) := xIs3_ex i30_39 (fun i h1 h2 => ⟨rfl, s40 i (by omega)⟩) (by omega)
  have i33_40 : xIs3 D ad39 (b + 518) Sh40 (b + 389) := xIs3_ex i33_39 (fun i h1 h2 => ⟨rfl, s40 i (by omega)⟩) (by omega)
  have i36_40 : xIs3 D ad39 (b + 518) Sh40 (b + 432) := xIs3_ex i36_39 (fun i h1 h2 => ⟨rfl, s40 i (by omega)⟩) (by omega)
  have i39_40 : xIs3 D ad39 (b + 518) Sh40 (b + 475) := xIs3_ex i39 (fun i h1 h2 => ⟨rfl, s40 i (by omega)⟩) (by omega)
  have cH40 : ∀ i, i < b → Sh40 i = Sh0 i := fun i hi => (s40 i (by omega)).trans (cH39 i hi)
  clear q2_39 i6_39 i9_39 i12_39 i15_39 i18_39 i21_39 i24_39 i27_39 i30_39 i33_39 i36_39 q37_39 i39 cH39
  refine xr_iincC (pc := 44) X39 (i := 1) (j := 1) (v := 12) [1, 0] (Nat.le_of_ble_eq_true rfl) hnL rfl (by decide) rfl dX1_init_44 ?_
  refine x_conv (lv2 := [(0, .ref (ad39 (b))), (1, .int 12)]) (st2 := []) rfl rfl ?_
  refine xr_goto (pc := 47) X39 25 (by decide) dX1_init_47 ?_
  refine xr_iload_n (pc := 25) X39 (i := 1) 1 rfl rfl dX1_init_25 ?_
  refine xr_bipush (pc := 26) X39 dX1_init_26 (v := 14) (by decide) ?_
  refine x_convE (ex2 := if (14 : Int32) ≤ (12 : Int32) then some () else some ()) (by decide) ?_
  refine xr_icmp_ge (pc := 28) X39 50 (by decide) dX1_init_28 (fun hc => absurd hc (by decide)) (fun hc => ?_)
  refine xr_aload_n (pc := 31) X39 (i := 0) 0 rfl rfl dX1_init_31 ?_
  refine xr_getB (pc := 32) X39 (b) 0 (by omega) (by rw [q2_40]) (C := RX1) (T := TX1) (NF := 3) rfl hinX1 (by omega) wm_5_8 rfl rfl dX1_init_32 ?_
  refine xr_iload_n (pc := 35) X39 (i := 1) 1 rfl rfl dX1_init_35 ?_
  refine xr_new (pc := 36) X39 shB3 (C := RX3) (T := TX3) (NF := 5) (tyf := tyX3) rfl hinX3 tyX3_ok wm_5_7 wm_1_15 wm_1_16 rfl (fun j hj => by rcases (show j = 0 ∨ j = 1 ∨ j = 2 ∨ j = 3 ∨ j = 4 by omega) with rfl | rfl | rfl | rfl | rfl <;> rfl) (Nat.le_of_ble_eq_true rfl) (Nat.le_of_ble_eq_true rfl) dX1_init_36 (fun ad41 e41 X41 => ?_)
  obtain ⟨Sh41, y41⟩ : ∃ z, z = xupS Sh40 (b + 518) shB3 := ⟨_, rfl⟩
  obtain ⟨σ41, w41⟩ : ∃ z, z = xz σ39 (b + 518) := ⟨_, rfl⟩
  rw [← y41, ← w41]
  have s41 : ∀ i, i < b + 518 → ad41 i = ad39 i ∧ Sh41 i = Sh40 i ∧ σ41 i = σ39 i := fun i hi => ⟨e41 i hi, by rw [y41]; exact if_neg (Nat.ne_of_lt hi), by rw [w41]; exact if_neg (Nat.ne_of_lt hi)⟩
  have q41 : Sh41 (b + 518) = shB3 := by rw [y41]; exact if_pos rfl
  have t41 : σ41 (b + 518) = (fun _ => 0) := by rw [w41]; exact if_pos rfl
  clear e41 y41 w41
  have q2_41 : Sh41 (b) = (fun r => .inr (1, [.ref (ad41 (b + 1)), .int (r 1), .int (r 2)])) := ((s41 (b) (by omega)).2.1.trans q2_40).trans (by simp only [(s41 (b + 1) (by omega)).1])
  have i6_41 : xIs3 D ad41 (b + 519) Sh41 (b + 2) := xIs3_ex i6_40 (fun i h1 h2 => ⟨(s41 i (by omega)).1, (s41 i (by omega)).2.1⟩) (by omega)
  have i9_41 : xIs3 D ad41 (b + 519) Sh41 (b + 45) := xIs3_ex i9_40 (fun i h1 h2 => ⟨(s41 i (by omega)).1, (s41 i (by omega)).2.1⟩) (by omega)
  have i12_41 : xIs3 D ad41 (b + 519) Sh41 (b + 88) := xIs3_ex i12_40 (fun i h1 h2 => ⟨(s41 i (by omega)).1, (s41 i (by omega)).2.1⟩) (by omega)
  have i15_41 : xIs3 D ad41 (b + 519) Sh41 (b + 131) := xIs3_ex i15_40 (fun i h1 h2 => ⟨(s41 i (by omega)).1, (s41 i (by omega)).2.1⟩) (by omega)
  have i18_41 : xIs3 D ad41 (b + 519) Sh41 (b + 174) := xIs3_ex i18_40 (fun i h1 h2 => ⟨(s41 i (by omega)).1, (s41 i (by omega)).2.1⟩) (by omega)
  have i21_41 : xIs3 D ad41 (b + 519) Sh41 (b + 217) := xIs3_ex i21_40 (fun i h1 h2 => ⟨(s41 i (by omega)).1, (s41 i (by omega)).2.1⟩) (by omega)
  have i24_41 : xIs3 D ad41 (b + 519) Sh41 (b + 260) := xIs3_ex i24_40 (fun i h1 h2 => ⟨(s41 i (by omega)).1, (s41 i (by omega)).2.1⟩) (by omega)
  have i27_41 : xIs3 D ad41 (b + 519) Sh41 (b + 303) := xIs3_ex i27_40 (fun i h1 h2 => ⟨(s41 i (by omega)).1, (s41 i (by omega)).2.1⟩) (by omega)
  have i30_41 : xIs3 D ad41 (b + 519) Sh41 (b + 346) := xIs3_ex i30_40 (fun i h1 h2 => ⟨(s41 i (by omega)).1, (s41 i (by omega)).2.1⟩) (by omega)
  have i33_41 : xIs3 D ad41 (b + 519) Sh41 (b + 389) := xIs3_ex i33_40 (fun i h1 h2 => ⟨(s41 i (by omega)).1, (s41 i (by omega)).2.1⟩) (by omega)
  have i36_41 : xIs3 D ad41 (b + 519) Sh41 (b + 432) := xIs3_ex i36_40 (fun i h1 h2 => ⟨(s41 i (by omega)).1, (s41 i (by omega)).2.1⟩) (by omega)
  have i39_41 : xIs3 D ad41 (b + 519) Sh41 (b + 475) := xIs3_ex i39_40 (fun i h1 h2 => ⟨(s41 i (by omega)).1, (s41 i (by omega)).2.1⟩) (by omega)
  have q40_41 : Sh41 (b + 1) = (fun _ => .inl (D.1 105, 14, .inr (.inr (.inr (.inr (va_up (va_up (va_up (va_up (va_up (va_up (va_up (va_up (va_up (va_up (va_up (va_up (fun _ => none) 0 (some (ad41 (b + 2)))) 1 (some (ad41 (b + 45)))) 2 (some (ad41 (b + 88)))) 3 (some (ad41 (b + 131)))) 4 (some (ad41 (b + 174)))) 5 (some (ad41 (b + 217)))) 6 (some (ad41 (b + 260)))) 7 (some (ad41 (b + 303)))) 8 (some (ad41 (b + 346)))) 9 (some (ad41 (b + 389)))) 10 (some (ad41 (b + 432)))) 11 (some (ad41 (b + 475))))))))) := ((s41 (b + 1) (by omega)).2.1.trans q40).trans (by simp only [(s41 (b + 2) (by omega)).1, (s41 (b + 45) (by omega)).1, (s41 (b + 88) (by omega)).1, (s41 (b + 131) (by omega)).1, (s41 (b + 174) (by omega)).1, (s41 (b + 217) (by omega)).1, (s41 (b + 260) (by omega)).1, (s41 (b + 303) (by omega)).1, (s41 (b + 346) (by omega)).1, (s41 (b + 389) (by omega)).1, (s41 (b + 432) (by omega)).1, (s41 (b + 475) (by omega)).1])
  have t1_41 : σ41 (b + 1) = (fun _ => 0) := by rw [(s41 (b + 1) (by omega)).2.2]; exact t1_39
  have v3_41 : σ41 b 1 = 0 := by rw [(s41 (b) (by omega)).2.2]; exact v3_39
  have v4_41 : σ41 b 2 = 0 := by rw [(s41 (b) (by omega)).2.2]; exact v4_39
  have cA41 : ∀ i, i ≤ b → ad41 i = ad0 i := fun i hi => (s41 i (by omega)).1.trans (cA39 i hi)
  have cH41 : ∀ i, i < b → Sh41 i = Sh0 i := fun i hi => (s41 i (by omega)).2.1.trans (cH40 i hi)
  have cG41 : ∀ i, i < b → σ41 i = σ0 i := fun i hi => (s41 i (by omega)).2.2.trans (cG39 i hi)
  clear q2_40 i6_40 i9_40 i12_40 i15_40 i18_40 i21_40 i24_40 i27_40 i30_40 i33_40 i36_40 i39_40 q40 t1_39 v3_39 v4_39 cA39 cH40 cG39
  refine x_conv (lv2 := [(0, .ref (ad41 (b))), (1, .int 12)]) (st2 := [.ref (ad41 (b + 518)), .int 12, .ref (ad41 (b + 1))]) (by simp only [(s41 (b) (by omega)).1]) (by simp only [(s41 (b + 1) (by omega)).1]) ?_
  replace X41 : xC Γ _ _ _ _ _ D ad41 (b + 519) := X41
  refine x_convN (N2 := b + 519) rfl ?_
  refine xr_dup (pc := 39) X41 rfl dX1_init_39 ?_
  refine xr_callC (pc := 40) (na := 0) (b + 518) [] X41 hAO (c_X3_init Γ.2.1 D _) q41 t41 rfl (wG_1 wm_2_17) rfl rfl rfl (List.mem_cons_of_mem _ wm_1_16) (List.mem_cons_of_mem _ wm_5_11) (List.mem_cons_of_mem _ wm_2_16) rfl (by decide +kernel) ⟨(Nat.le_of_ble_eq_true rfl), (Nat.le_of_ble_eq_true rfl)⟩ rfl rfl (Nat.le_of_ble_eq_true rfl) ⟨(Nat.le_of_ble_eq_true rfl), (Nat.le_of_ble_eq_true rfl)⟩ dX1_init_40 (fun ad42 Sh42 σ42 p42 X42 => ?_)
  have s42 : ∀ i, i < b + 518 → ad42 i = ad41 i ∧ Sh42 i = Sh41 i ∧ σ42 i = σ41 i := fun i hi => ⟨p42.1 i (by omega), (p42.2.1 i hi).1, (p42.2.1 i hi).2⟩
  have n42 := p42.2.2
  have r42 : ad42 (b + 518) = ad41 (b + 518) := p42.1 _ (Nat.le_refl _)
  clear p42
  replace X42 : xC Γ _ _ _ _ _ D ad42 (b + 561) := X42
  refine x_convN (N2 := b + 561) rfl ?_
  have q2_42 : Sh42 (b) = (fun r => .inr (1, [.ref (ad42 (b + 1)), .int (r 1), .int (r 2)])) := ((s42 (b) (by omega)).2.1.trans q2_41).trans (by simp only [(s42 (b + 1) (by omega)).1])
  have i6_42 : xIs3 D ad42 (b + 561) Sh42 (b + 2) := xIs3_ex i6_41 (fun i h1 h2 => ⟨(s42 i (by omega)).1, (s42 i (by omega)).2.1⟩) (by omega)
  have i9_42 : xIs3 D ad42 (b + 561) Sh42 (b + 45) := xIs3_ex i9_41 (fun i h1 h2 => ⟨(s42 i (by omega)).1, (s42 i (by omega)).2.1⟩) (by omega)
  have i12_42 : xIs3 D ad42 (b + 561) Sh42 (b + 88) := xIs3_ex i12_41 (fun i h1 h2 => ⟨(s42 i (by omega)).1, (s42 i (by omega)).2.1⟩) (by omega)
  have i15_42 : xIs3 D ad42 (b + 561) Sh42 (b + 131) := xIs3_ex i15_41 (fun i h1 h2 => ⟨(s42 i (by omega)).1, (s42 i (by omega)).2.1⟩) (by omega)
  have i18_42 : xIs3 D ad42 (b + 561) Sh42 (b + 174) := xIs3_ex i18_41 (fun i h1 h2 => ⟨(s42 i (by omega)).1, (s42 i (by omega)).2.1⟩) (by omega)
  have i21_42 : xIs3 D ad42 (b + 561) Sh42 (b + 217) := xIs3_ex i21_41 (fun i h1 h2 => ⟨(s42 i (by omega)).1, (s42 i (by omega)).2.1⟩) (by omega)
  have i24_42 : xIs3 D ad42 (b + 561) Sh42 (b + 260) := xIs3_ex i24_41 (fun i h1 h2 => ⟨(s42 i (by omega)).1, (s42 i (by omega)).2.1⟩) (by omega)
  have i27_42 : xIs3 D ad42 (b + 561) Sh42 (b + 303) := xIs3_ex i27_41 (fun i h1 h2 => ⟨(s42 i (by omega)).1, (s42 i (by omega)).2.1⟩) (by omega)
  have i30_42 : xIs3 D ad42 (b + 561) Sh42 (b + 346) := xIs3_ex i30_41 (fun i h1 h2 => ⟨(s42 i (by omega)).1, (s42 i (by omega)).2.1⟩) (by omega)
  have i33_42 : xIs3 D ad42 (b + 561) Sh42 (b + 389) := xIs3_ex i33_41 (fun i h1 h2 => ⟨(s42 i (by omega)).1, (s42 i (by omega)).2.1⟩) (by omega)
  have i36_42 : xIs3 D ad42 (b + 561) Sh42 (b + 432) := xIs3_ex i36_41 (fun i h1 h2 => ⟨(s42 i (by omega)).1, (s42 i (by omega)).2.1⟩) (by omega)
  have i39_42 : xIs3 D ad42 (b + 561) Sh42 (b + 475) := xIs3_ex i39_41 (fun i h1 h2 => ⟨(s42 i (by omega)).1, (s42 i (by omega)).2.1⟩) (by omega)
  have q40_42 : Sh42 (b + 1) = (fun _ => .inl (D.1 105, 14, .inr (.inr (.inr (.inr (va_up (va_up (va_up (va_up (va_up (va_up (va_up (va_up (va_up (va_up (va_up (va_up (fun _ => none) 0 (some (ad42 (b + 2)))) 1 (some (ad42 (b + 45)))) 2 (some (ad42 (b + 88)))) 3 (some (ad42 (b + 131)))) 4 (some (ad42 (b + 174)))) 5 (some (ad42 (b + 217)))) 6 (some (ad42 (b + 260)))) 7 (some (ad42 (b + 303)))) 8 (some (ad42 (b + 346)))) 9 (some (ad42 (b + 389)))) 10 (some (ad42 (b + 432)))) 11 (some (ad42 (b + 475))))))))) := ((s42 (b + 1) (by omega)).2.1.trans q40_41).trans (by simp only [(s42 (b + 2) (by omega)).1, (s42 (b + 45) (by omega)).1, (s42 (b + 88) (by omega)).1, (s42 (b + 131) (by omega)).1, (s42 (b + 174) (by omega)).1, (s42 (b + 217) (by omega)).1, (s42 (b + 260) (by omega)).1, (s42 (b + 303) (by omega)).1, (s42 (b + 346) (by omega)).1, (s42 (b + 389) (by omega)).1, (s42 (b + 432) (by omega)).1, (s42 (b + 475) (by omega)).1])
  have t1_42 : σ42 (b + 1) = (fun _ => 0) := by rw [(s42 (b + 1) (by omega)).2.2]; exact t1_41
  have v3_42 : σ42 b 1 = 0 := by rw [(s42 (b) (by omega)).2.2]; exact v3_41
  have v4_42 : σ42 b 2 = 0 := by rw [(s42 (b) (by omega)).2.2]; exact v4_41
  have cA42 : ∀ i, i ≤ b → ad42 i = ad0 i := fun i hi => (s42 i (by omega)).1.trans (cA41 i hi)
  have cH42 : ∀ i, i < b → Sh42 i = Sh0 i := fun i hi => (s42 i (by omega)).2.1.trans (cH41 i hi)
  have cG42 : ∀ i, i < b → σ42 i = σ0 i := fun i hi => (s42 i (by omega)).2.2.trans (cG41 i hi)
  clear q2_41 i6_41 i9_41 i12_41 i15_41 i18_41 i21_41 i24_41 i27_41 i30_41 i33_41 i36_41 i39_41 q40_41 t1_41 v3_41 v4_41 cA41 cH41 cG41
  have i42 : xIs3 D ad42 (b + 561) Sh42 (b + 518) := n42.1
  refine x_conv (lv2 := [(0, .ref (ad42 (b))), (1, .int 12)]) (st2 := [.ref (ad42 (b + 518)), .int 12, .ref (ad42 (b + 1))]) (by simp only [(s42 (b) (by omega)).1]) (by simp only [r42, (s42 (b + 1) (by omega)).1]) ?_
  refine xr_astq (pc := 43) (t0 := 5) (n0 := 14) (cid := D.1 105) X42 (b + 1) (b + 518) (fun _ => .inl (D.1 105, 14, .inr (.inr (.inr (.inr (va_up (va_up (va_up (va_up (va_up (va_up (va_up (va_up (va_up (va_up (va_up (va_up (va_up (fun _ => none) 0 (some (ad42 (b + 2)))) 1 (some (ad42 (b + 45)))) 2 (some (ad42 (b + 88)))) 3 (some (ad42 (b + 131)))) 4 (some (ad42 (b + 174)))) 5 (some (ad42 (b + 217)))) 6 (some (ad42 (b + 260)))) 7 (some (ad42 (b + 303)))) 8 (some (ad42 (b + 346)))) 9 (some (ad42 (b + 389)))) 10 (some (ad42 (b + 432)))) 11 (some (ad42 (b + 475)))) 12 (some (ad42 (b + 518))))))))) (by omega) (by omega) (by rw [q40_42]) rfl (by rw [i42.1.2]; rfl) (C := RX3) (T := TX3) (NF := 5) (ci := 3) rfl (vp_in_nI (n := 12) (N := 14) (by decide) (by decide)) rfl dX1_init_43 ?_
  obtain ⟨Sh43, y43⟩ : ∃ z, z = xupS Sh42 (b + 1) (fun _ => .inl (D.1 105, 14, .inr (.inr (.inr (.inr (va_up (va_up (va_up (va_up (va_up (va_up (va_up (va_up (va_up (va_up (va_up (va_up (va_up (fun _ => none) 0 (some (ad42 (b + 2)))) 1 (some (ad42 (b + 45)))) 2 (some (ad42 (b + 88)))) 3 (some (ad42 (b + 131)))) 4 (some (ad42 (b + 174)))) 5 (some (ad42 (b + 217)))) 6 (some (ad42 (b + 260)))) 7 (some (ad42 (b + 303)))) 8 (some (ad42 (b + 346)))) 9 (some (ad42 (b + 389)))) 10 (some (ad42 (b + 432)))) 11 (some (ad42 (b + 475)))) 12 (some (ad42 (b + 518))))))))) := ⟨_, rfl⟩
  rw [← y43]
  have s43 : ∀ i, i ≠ b + 1 → Sh43 i = Sh42 i := fun i hb => by rw [y43]; exact if_neg hb
  have q43 : Sh43 (b + 1) = (fun _ => .inl (D.1 105, 14, .inr (.inr (.inr (.inr (va_up (va_up (va_up (va_up (va_up (va_up (va_up (va_up (va_up (va_up (va_up (va_up (va_up (fun _ => none) 0 (some (ad42 (b + 2)))) 1 (some (ad42 (b + 45)))) 2 (some (ad42 (b + 88)))) 3 (some (ad42 (b + 131)))) 4 (some (ad42 (b + 174)))) 5 (some (ad42 (b + 217)))) 6 (some (ad42 (b + 260)))) 7 (some (ad42 (b + 303)))) 8 (some (ad42 (b + 346)))) 9 (some (ad42 (b + 389)))) 10 (some (ad42 (b + 432)))) 11 (some (ad42 (b + 475)))) 12 (some (ad42 (b + 518))))))))) := by rw [y43]; exact if_pos rfl
  clear y43
  have q2_43 : Sh43 (b) = (fun r => .inr (1, [.ref (ad42 (b + 1)), .int (r 1), .int (r 2)])) := (s43 (b) (by omega)).trans q2_42
  have i6_43 : xIs3 D ad42 (b + 561) Sh43 (b + 2) := xIs3_ex i6_42 (fun i h1 h2 => ⟨rfl, s43 i (by omega)⟩) (by omega)
  have i9_43 : xIs3 D ad42 (b + 561) Sh43 (b + 45) := xIs3_ex i9_42 (fun i h1 h2 => ⟨rfl, s43 i (by omega)⟩) (by omega)
  have i12_43 : xIs3 D ad42 (b + 561) Sh43 (b + 88) := xIs3_ex i12_42 (fun i h1 h2 => ⟨rfl, s43 i (by omega)⟩) (by omega)
  have i15_43 : xIs3 D ad42 (b + 561) Sh43 (b + 131) := xIs3_ex i15_42 (fun i h1 h2 => ⟨rfl, s43 i (by omega)⟩) (by omega)
  have i18_43 : xIs3 D ad42 (b + 561) Sh43 (b + 174) := xIs3_ex i18_42 (fun i h1 h2 => ⟨rfl, s43 i (by omega)⟩) (by omega)
  have i21_43 : xIs3 D ad42 (b + 561) Sh43 (b + 217) := xIs3_ex i21_42 (fun i h1 h2 => ⟨rfl, s43 i (by omega)⟩) (by omega)
  have i24_43 : xIs3 D ad42 (b + 561) Sh43 (b + 260) := xIs3_ex i24_42 (fun i h1 h2 => ⟨rfl, s43 i (by omega)⟩) (by omega)
  have i27_43 : xIs3 D ad42 (b + 561) Sh43 (b + 303) := xIs3_ex i27_42 (fun i h1 h2 => ⟨rfl, s43 i (by omega)⟩) (by omega)
  have i30_43 : xIs3 D ad42 (b + 561) Sh43 (b + 346) := xIs3_ex i30_42 (fun i h1 h2 => ⟨rfl, s43 i (by omega)⟩) (by omega)
  have i33_43 : xIs3 D ad42 (b + 561) Sh43 (b + 389) := xIs3_ex i33_42 (fun i h1 h2 => ⟨rfl, s43 i (by omega)⟩) (by omega)
  have i36_43 : xIs3 D ad42 (b + 561) Sh43 (b + 432) := xIs3_ex i36_42 (fun i h1 h2 => ⟨rfl, s43 i (by omega)⟩) (by omega)
  have i39_43 : xIs3 D ad42 (b + 561) Sh43 (b + 475) := xIs3_ex i39_42 (fun i h1 h2 => ⟨rfl, s43 i (by omega)⟩) (by omega)
  have i42_43 : xIs3 D ad42 (b + 561) Sh43 (b + 518) := xIs3_ex i42 (fun i h1 h2 => ⟨rfl, s43 i (by omega)⟩) (by omega)
  have cH43 : ∀ i, i < b → Sh43 i = Sh0 i := fun i hi => (s43 i (by omega)).trans (cH42 i hi)
  clear q2_42 i6_42 i9_42 i12_42 i15_42 i18_42 i21_42 i24_42 i27_42 i30_42 i33_42 i36_42 i39_42 q40_42 i42 cH42
  refine xr_iincC (pc := 44) X42 (i := 1) (j := 1) (v := 13) [1, 0] (Nat.le_of_ble_eq_true rfl) hnL rfl (by decide) rfl dX1_init_44 ?_
  refine x_conv (lv2 := [(0, .ref (ad42 (b))), (1, .int 13)]) (st2 := []) rfl rfl ?_
  refine xr_goto (pc := 47) X42 25 (by decide) dX1_init_47 ?_
  refine xr_iload_n (pc := 25) X42 (i := 1) 1 rfl rfl dX1_init_25 ?_
  refine xr_bipush (pc := 26) X42 dX1_init_26 (v := 14) (by decide) ?_
  refine x_convE (ex2 := if (14 : Int32) ≤ (13 : Int32) then some () else some ()) (by decide) ?_
  refine xr_icmp_ge (pc := 28) X42 50 (by decide) dX1_init_28 (fun hc => absurd hc (by decide)) (fun hc => ?_)
  refine xr_aload_n (pc := 31) X42 (i := 0) 0 rfl rfl dX1_init_31 ?_
  refine xr_getB (pc := 32) X42 (b) 0 (by omega) (by rw [q2_43]) (C := RX1) (T := TX1) (NF := 3) rfl hinX1 (by omega) wm_5_8 rfl rfl dX1_init_32 ?_
  refine xr_iload_n (pc := 35) X42 (i := 1) 1 rfl rfl dX1_init_35 ?_
  refine xr_new (pc := 36) X42 shB3 (C := RX3) (T := TX3) (NF := 5) (tyf := tyX3) rfl hinX3 tyX3_ok wm_5_7 wm_1_15 wm_1_16 rfl (fun j hj => by rcases (show j = 0 ∨ j = 1 ∨ j = 2 ∨ j = 3 ∨ j = 4 by omega) with rfl | rfl | rfl | rfl | rfl <;> rfl) (Nat.le_of_ble_eq_true rfl) (Nat.le_of_ble_eq_true rfl) dX1_init_36 (fun ad44 e44 X44 => ?_)
  obtain ⟨Sh44, y44⟩ : ∃ z, z = xupS Sh43 (b + 561) shB3 := ⟨_, rfl⟩
  obtain ⟨σ44, w44⟩ : ∃ z, z = xz σ42 (b + 561) := ⟨_, rfl⟩
  rw [← y44, ← w44]
  have s44 : ∀ i, i < b + 561 → ad44 i = ad42 i ∧ Sh44 i = Sh43 i ∧ σ44 i = σ42 i := fun i hi => ⟨e44 i hi, by rw [y44]; exact if_neg (Nat.ne_of_lt hi), by rw [w44]; exact if_neg (Nat.ne_of_lt hi)⟩
  have q44 : Sh44 (b + 561) = shB3 := by rw [y44]; exact if_pos rfl
  have t44 : σ44 (b + 561) = (fun _ => 0) := by rw [w44]; exact if_pos rfl
  clear e44 y44 w44
  have q2_44 : Sh44 (b) = (fun r => .inr (1, [.ref (ad44 (b + 1)), .int (r 1), .int (r 2)])) := ((s44 (b) (by omega)).2.1.trans q2_43).trans (by simp only [(s44 (b + 1) (by omega)).1])
  have i6_44 : xIs3 D ad44 (b + 562) Sh44 (b + 2) := xIs3_ex i6_43 (fun i h1 h2 => ⟨(s44 i (by omega)).1, (s44 i (by omega)).2.1⟩) (by omega)
  have i9_44 : xIs3 D ad44 (b + 562) Sh44 (b + 45) := xIs3_ex i9_43 (fun i h1 h2 => ⟨(s44 i (by omega)).1, (s44 i (by omega)).2.1⟩) (by omega)
  have i12_44 : xIs3 D ad44 (b + 562) Sh44 (b + 88) := xIs3_ex i12_43 (fun i h1 h2 => ⟨(s44 i (by omega)).1, (s44 i (by omega)).2.1⟩) (by omega)
  have i15_44 : xIs3 D ad44 (b + 562) Sh44 (b + 131) := xIs3_ex i15_43 (fun i h1 h2 => ⟨(s44 i (by omega)).1, (s44 i (by omega)).2.1⟩) (by omega)
  have i18_44 : xIs3 D ad44 (b + 562) Sh44 (b + 174) := xIs3_ex i18_43 (fun i h1 h2 => ⟨(s44 i (by omega)).1, (s44 i (by omega)).2.1⟩) (by omega)
  have i21_44 : xIs3 D ad44 (b + 562) Sh44 (b + 217) := xIs3_ex i21_43 (fun i h1 h2 => ⟨(s44 i (by omega)).1, (s44 i (by omega)).2.1⟩) (by omega)
  have i24_44 : xIs3 D ad44 (b + 562) Sh44 (b + 260) := xIs3_ex i24_43 (fun i h1 h2 => ⟨(s44 i (by omega)).1, (s44 i (by omega)).2.1⟩) (by omega)
  have i27_44 : xIs3 D ad44 (b + 562) Sh44 (b + 303) := xIs3_ex i27_43 (fun i h1 h2 => ⟨(s44 i (by omega)).1, (s44 i (by omega)).2.1⟩) (by omega)
  have i30_44 : xIs3 D ad44 (b + 562) Sh44 (b + 346) := xIs3_ex i30_43 (fun i h1 h2 => ⟨(s44 i (by omega)).1, (s44 i (by omega)).2.1⟩) (by omega)
  have i33_44 : xIs3 D ad44 (b + 562) Sh44 (b + 389) := xIs3_ex i33_43 (fun i h1 h2 => ⟨(s44 i (by omega)).1, (s44 i (by omega)).2.1⟩) (by omega)
  have i36_44 : xIs3 D ad44 (b + 562) Sh44 (b + 432) := xIs3_ex i36_43 (fun i h1 h2 => ⟨(s44 i (by omega)).1, (s44 i (by omega)).2.1⟩) (by omega)
  have i39_44 : xIs3 D ad44 (b + 562) Sh44 (b + 475) := xIs3_ex i39_43 (fun i h1 h2 => ⟨(s44 i (by omega)).1, (s44 i (by omega)).2.1⟩) (by omega)
  have i42_44 : xIs3 D ad44 (b + 562) Sh44 (b + 518) := xIs3_ex i42_43 (fun i h1 h2 => ⟨(s44 i (by omega)).1, (s44 i (by omega)).2.1⟩) (by omega)
  have q43_44 : Sh44 (b + 1) = (fun _ => .inl (D.1 105, 14, .inr (.inr (.inr (.inr (va_up (va_up (va_up (va_up (va_up (va_up (va_up (va_up (va_up (va_up (va_up (va_up (va_up (fun _ => none) 0 (some (ad44 (b + 2)))) 1 (some (ad44 (b + 45)))) 2 (some (ad44 (b + 88)))) 3 (some (ad44 (b + 131)))) 4 (some (ad44 (b + 174)))) 5 (some (ad44 (b + 217)))) 6 (some (ad44 (b + 260)))) 7 (some (ad44 (b + 303)))) 8 (some (ad44 (b + 346)))) 9 (some (ad44 (b + 389)))) 10 (some (ad44 (b + 432)))) 11 (some (ad44 (b + 475)))) 12 (some (ad44 (b + 518))))))))) := ((s44 (b + 1) (by omega)).2.1.trans q43).trans (by simp only [(s44 (b + 2) (by omega)).1, (s44 (b + 45) (by omega)).1, (s44 (b + 88) (by omega)).1, (s44 (b + 131) (by omega)).1, (s44 (b + 174) (by omega)).1, (s44 (b + 217) (by omega)).1, (s44 (b + 260) (by omega)).1, (s44 (b + 303) (by omega)).1, (s44 (b + 346) (by omega)).1, (s44 (b + 389) (by omega)).1, (s44 (b + 432) (by omega)).1, (s44 (b + 475) (by omega)).1, (s44 (b + 518) (by omega)).1])
  have t1_44 : σ44 (b + 1) = (fun _ => 0) := by rw [(s44 (b + 1) (by omega)).2.2]; exact t1_42
  have v3_44 : σ44 b 1 = 0 := by rw [(s44 (b) (by omega)).2.2]; exact v3_42
  have v4_44 : σ44 b 2 = 0 := by rw [(s44 (b) (by omega)).2.2]; exact v4_42
  have cA44 : ∀ i, i ≤ b → ad44 i = ad0 i := fun i hi => (s44 i (by omega)).1.trans (cA42 i hi)
  have cH44 : ∀ i, i < b → Sh44 i = Sh0 i := fun i hi => (s44 i (by omega)).2.1.trans (cH43 i hi)
  have cG44 : ∀ i, i < b → σ44 i = σ0 i := fun i hi => (s44 i (by omega)).2.2.trans (cG42 i hi)
  clear q2_43 i6_43 i9_43 i12_43 i15_43 i18_43 i21_43 i24_43 i27_43 i30_43 i33_43 i36_43 i39_43 i42_43 q43 t1_42 v3_42 v4_42 cA42 cH43 cG42
  refine x_conv (lv2 := [(0, .ref (ad44 (b))), (1, .int 13)]) (st2 := [.ref (ad44 (b + 561)), .int 13, .ref (ad44 (b + 1))]) (by simp only [(s44 (b) (by omega)).1]) (by simp only [(s44 (b + 1) (by omega)).1]) ?_
  replace X44 : xC Γ _ _ _ _ _ D ad44 (b + 562) := X44
  refine x_convN (N2 := b + 562) rfl ?_
  refine xr_dup (pc := 39) X44 rfl dX1_init_39 ?_
  refine xr_callC (pc := 40) (na := 0) (b + 561) [] X44 hAO (c_X3_init Γ.2.1 D _) q44 t44 rfl (wG_1 wm_2_17) rfl rfl rfl (List.mem_cons_of_mem _ wm_1_16) (List.mem_cons_of_mem _ wm_5_11) (List.mem_cons_of_mem _ wm_2_16) rfl (by decide +kernel) ⟨(Nat.le_of_ble_eq_true rfl), (Nat.le_of_ble_eq_true rfl)⟩ rfl rfl (Nat.le_of_ble_eq_true rfl) ⟨(Nat.le_of_ble_eq_true rfl), (Nat.le_of_ble_eq_true rfl)⟩ dX1_init_40 (fun ad45 Sh45 σ45 p45 X45 => ?_)
  have s45 : ∀ i, i < b + 561 → ad45 i = ad44 i ∧ Sh45 i = Sh44 i ∧ σ45 i = σ44 i := fun i hi => ⟨p45.1 i (by omega), (p45.2.1 i hi).1, (p45.2.1 i hi).2⟩
  have n45 := p45.2.2
  have r45 : ad45 (b + 561) = ad44 (b + 561) := p45.1 _ (Nat.le_refl _)
  clear p45
  replace X45 : xC Γ _ _ _ _ _ D ad45 (b + 604) := X45
  refine x_convN (N2 := b + 604) rfl ?_
  have q2_45 : Sh45 (b) = (fun r => .inr (1, [.ref (ad45 (b + 1)), .int (r 1), .int (r 2)])) := ((s45 (b) (by omega)).2.1.trans q2_44).trans (by simp only [(s45 (b + 1) (by omega)).1])
  have i6_45 : xIs3 D ad45 (b + 604) Sh45 (b + 2) := xIs3_ex i6_44 (fun i h1 h2 => ⟨(s45 i (by omega)).1, (s45 i (by omega)).2.1⟩) (by omega)
  have i9_45 : xIs3 D ad45 (b + 604) Sh45 (b + 45) := xIs3_ex i9_44 (fun i h1 h2 => ⟨(s45 i (by omega)).1, (s45 i (by omega)).2.1⟩) (by omega)
  have i12_45 : xIs3 D ad45 (b + 604) Sh45 (b + 88) := xIs3_ex i12_44 (fun i h1 h2 => ⟨(s45 i (by omega)).1, (s45 i (by omega)).2.1⟩) (by omega)
  have i15_45 : xIs3 D ad45 (b + 604) Sh45 (b + 131) := xIs3_ex i15_44 (fun i h1 h2 => ⟨(s45 i (by omega)).1, (s45 i (by omega)).2.1⟩) (by omega)
  have i18_45 : xIs3 D ad45 (b + 604) Sh45 (b + 174) := xIs3_ex i18_44 (fun i h1 h2 => ⟨(s45 i (by omega)).1, (s45 i (by omega)).2.1⟩) (by omega)
  have i21_45 : xIs3 D ad45 (b + 604) Sh45 (b + 217) := xIs3_ex i21_44 (fun i h1 h2 => ⟨(s45 i (by omega)).1, (s45 i (by omega)).2.1⟩) (by omega)
  have i24_45 : xIs3 D ad45 (b + 604) Sh45 (b + 260) := xIs3_ex i24_44 (fun i h1 h2 => ⟨(s45 i (by omega)).1, (s45 i (by omega)).2.1⟩) (by omega)
  have i27_45 : xIs3 D ad45 (b + 604) Sh45 (b + 303) := xIs3_ex i27_44 (fun i h1 h2 => ⟨(s45 i (by omega)).1, (s45 i (by omega)).2.1⟩) (by omega)
  have i30_45 : xIs3 D ad45 (b + 604) Sh45 (b + 346) := xIs3_ex i30_44 (fun i h1 h2 => ⟨(s45 i (by omega)).1, (s45 i (by omega)).2.1⟩) (by omega)
  have i33_45 : xIs3 D ad45 (b + 604) Sh45 (b + 389) := xIs3_ex i33_44 (fun i h1 h2 => ⟨(s45 i (by omega)).1, (s45 i (by omega)).2.1⟩) (by omega)
  have i36_45 : xIs3 D ad45 (b + 604) Sh45 (b + 432) := xIs3_ex i36_44 (fun i h1 h2 => ⟨(s45 i (by omega)).1, (s45 i (by omega)).2.1⟩) (by omega)
  have i39_45 : xIs3 D ad45 (b + 604) Sh45 (b + 475) := xIs3_ex i39_44 (fun i h1 h2 => ⟨(s45 i (by omega)).1, (s45 i (by omega)).2.1⟩) (by omega)
  have i42_45 : xIs3 D ad45 (b + 604) Sh45 (b + 518) := xIs3_ex i42_44 (fun i h1 h2 => ⟨(s45 i (by omega)).1, (s45 i (by omega)).2.1⟩) (by omega)
  have q43_45 : Sh45 (b + 1) = (fun _ => .inl (D.1 105, 14, .inr (.inr (.inr (.inr (va_up (va_up (va_up (va_up (va_up (va_up (va_up (va_up (va_up (va_up (va_up (va_up (va_up (fun _ => none) 0 (some (ad45 (b + 2)))) 1 (some (ad45 (b + 45)))) 2 (some (ad45 (b + 88)))) 3 (some (ad45 (b + 131)))) 4 (some (ad45 (b + 174)))) 5 (some (ad45 (b + 217)))) 6 (some (ad45 (b + 260)))) 7 (some (ad45 (b + 303)))) 8 (some (ad45 (b + 346)))) 9 (some (ad45 (b + 389)))) 10 (some (ad45 (b + 432)))) 11 (some (ad45 (b + 475)))) 12 (some (ad45 (b + 518))))))))) := ((s45 (b + 1) (by omega)).2.1.trans q43_44).trans (by simp only [(s45 (b + 2) (by omega)).1, (s45 (b + 45) (by omega)).1, (s45 (b + 88) (by omega)).1, (s45 (b + 131) (by omega)).1, (s45 (b + 174) (by omega)).1, (s45 (b + 217) (by omega)).1, (s45 (b + 260) (by omega)).1, (s45 (b + 303) (by omega)).1, (s45 (b + 346) (by omega)).1, (s45 (b + 389) (by omega)).1, (s45 (b + 432) (by omega)).1, (s45 (b + 475) (by omega)).1, (s45 (b + 518) (by omega)).1])
  have t1_45 : σ45 (b + 1) = (fun _ => 0) := by rw [(s45 (b + 1) (by omega)).2.2]; exact t1_44
  have v3_45 : σ45 b 1 = 0 := by rw [(s45 (b) (by omega)).2.2]; exact v3_44
  have v4_45 : σ45 b 2 = 0 := by rw [(s45 (b) (by omega)).2.2]; exact v4_44
  have cA45 : ∀ i, i ≤ b → ad45 i = ad0 i := fun i hi => (s45 i (by omega)).1.trans (cA44 i hi)
  have cH45 : ∀ i, i < b → Sh45 i = Sh0 i := fun i hi => (s45 i (by omega)).2.1.trans (cH44 i hi)
  have cG45 : ∀ i, i < b → σ45 i = σ0 i := fun i hi => (s45 i (by omega)).2.2.trans (cG44 i hi)
  clear q2_44 i6_44 i9_44 i12_44 i15_44 i18_44 i21_44 i24_44 i27_44 i30_44 i33_44 i36_44 i39_44 i42_44 q43_44 t1_44 v3_44 v4_44 cA44 cH44 cG44
  have i45 : xIs3 D ad45 (b + 604) Sh45 (b + 561) := n45.1
  refine x_conv (lv2 := [(0, .ref (ad45 (b))), (1, .int 13)]) (st2 := [.ref (ad45 (b + 561)), .int 13, .ref (ad45 (b + 1))]) (by simp only [(s45 (b) (by omega)).1]) (by simp only [r45, (s45 (b + 1) (by omega)).1]) ?_
  refine xr_astq (pc := 43) (t0 := 5) (n0 := 14) (cid := D.1 105) X45 (b + 1) (b + 561) (fun _ => .inl (D.1 105, 14, .inr (.inr (.inr (.inr (va_up (va_up (va_up (va_up (va_up (va_up (va_up (va_up (va_up (va_up (va_up (va_up (va_up (va_up (fun _ => none) 0 (some (ad45 (b + 2)))) 1 (some (ad45 (b + 45)))) 2 (some (ad45 (b + 88)))) 3 (some (ad45 (b + 131)))) 4 (some (ad45 (b + 174)))) 5 (some (ad45 (b + 217)))) 6 (some (ad45 (b + 260)))) 7 (some (ad45 (b + 303)))) 8 (some (ad45 (b + 346)))) 9 (some (ad45 (b + 389)))) 10 (some (ad45 (b + 432)))) 11 (some (ad45 (b + 475)))) 12 (some (ad45 (b + 518)))) 13 (some (ad45 (b + 561))))))))) (by omega) (by omega) (by rw [q43_45]) rfl (by rw [i45.1.2]; rfl) (C := RX3) (T := TX3) (NF := 5) (ci := 3) rfl (vp_in_nI (n := 13) (N := 14) (by decide) (by decide)) rfl dX1_init_43 ?_
  obtain ⟨Sh46, y46⟩ : ∃ z, z = xupS Sh45 (b + 1) (fun _ => .inl (D.1 105, 14, .inr (.inr (.inr (.inr (va_up (va_up (va_up (va_up (va_up (va_up (va_up (va_up (va_up (va_up (va_up (va_up (va_up (va_up (fun _ => none) 0 (some (ad45 (b + 2)))) 1 (some (ad45 (b + 45)))) 2 (some (ad45 (b + 88)))) 3 (some (ad45 (b + 131)))) 4 (some (ad45 (b + 174)))) 5 (some (ad45 (b + 217)))) 6 (some (ad45 (b + 260)))) 7 (some (ad45 (b + 303)))) 8 (some (ad45 (b + 346)))) 9 (some (ad45 (b + 389)))) 10 (some (ad45 (b + 432)))) 11 (some (ad45 (b + 475)))) 12 (some (ad45 (b + 518)))) 13 (some (ad45 (b + 561))))))))) := ⟨_, rfl⟩
  rw [← y46]
  have s46 : ∀ i, i ≠ b + 1 → Sh46 i = Sh45 i := fun i hb => by rw [y46]; exact if_neg hb
  have q46 : Sh46 (b + 1) = (fun _ => .inl (D.1 105, 14, .inr (.inr (.inr (.inr (va_up (va_up (va_up (va_up (va_up (va_up (va_up (va_up (va_up (va_up (va_up (va_up (va_up (va_up (fun _ => none) 0 (some (ad45 (b + 2)))) 1 (some (ad45 (b + 45)))) 2 (some (ad45 (b + 88)))) 3 (some (ad45 (b + 131)))) 4 (some (ad45 (b + 174)))) 5 (some (ad45 (b + 217)))) 6 (some (ad45 (b + 260)))) 7 (some (ad45 (b + 303)))) 8 (some (ad45 (b + 346)))) 9 (some (ad45 (b + 389)))) 10 (some (ad45 (b + 432)))) 11 (some (ad45 (b + 475)))) 12 (some (ad45 (b + 518)))) 13 (some (ad45 (b + 561))))))))) := by rw [y46]; exact if_pos rfl
  clear y46
  have q2_46 : Sh46 (b) = (fun r => .inr (1, [.ref (ad45 (b + 1)), .int (r 1), .int (r 2)])) := (s46 (b) (by omega)).trans q2_45
  have i6_46 : xIs3 D ad45 (b + 604) Sh46 (b + 2) := xIs3_ex i6_45 (fun i h1 h2 => ⟨rfl, s46 i (by omega)⟩) (by omega)
  have i9_46 : xIs3 D ad45 (b + 604) Sh46 (b + 45) := xIs3_ex i9_45 (fun i h1 h2 => ⟨rfl, s46 i (by omega)⟩) (by omega)
  have i12_46 : xIs3 D ad45 (b + 604) Sh46 (b + 88) := xIs3_ex i12_45 (fun i h1 h2 => ⟨rfl, s46 i (by omega)⟩) (by omega)
  have i15_46 : xIs3 D ad45 (b + 604) Sh46 (b + 131) := xIs3_ex i15_45 (fun i h1 h2 => ⟨rfl, s46 i (by omega)⟩) (by omega)
  have i18_46 : xIs3 D ad45 (b + 604) Sh46 (b + 174) := xIs3_ex i18_45 (fun i h1 h2 => ⟨rfl, s46 i (by omega)⟩) (by omega)
  have i21_46 : xIs3 D ad45 (b + 604) Sh46 (b + 217) := xIs3_ex i21_45 (fun i h1 h2 => ⟨rfl, s46 i (by omega)⟩) (by omega)
  have i24_46 : xIs3 D ad45 (b + 604) Sh46 (b + 260) := xIs3_ex i24_45 (fun i h1 h2 => ⟨rfl, s46 i (by omega)⟩) (by omega)
  have i27_46 : xIs3 D ad45 (b + 604) Sh46 (b + 303) := xIs3_ex i27_45 (fun i h1 h2 => ⟨rfl, s46 i (by omega)⟩) (by omega)
  have i30_46 : xIs3 D ad45 (b + 604) Sh46 (b + 346) := xIs3_ex i30_45 (fun i h1 h2 => ⟨rfl, s46 i (by omega)⟩) (by omega)
  have i33_46 : xIs3 D ad45 (b + 604) Sh46 (b + 389) := xIs3_ex i33_45 (fun i h1 h2 => ⟨rfl, s46 i (by omega)⟩) (by omega)
  have i36_46 : xIs3 D ad45 (b + 604) Sh46 (b + 432) := xIs3_ex i36_45 (fun i h1 h2 => ⟨rfl, s46 i (by omega)⟩) (by omega)
  have i39_46 : xIs3 D ad45 (b + 604) Sh46 (b + 475) := xIs3_ex i39_45 (fun i h1 h2 => ⟨rfl, s46 i (by omega)⟩) (by omega)
  have i42_46 : xIs3 D ad45 (b + 604) Sh46 (b + 518) := xIs3_ex i42_45 (fun i h1 h2 => ⟨rfl, s46 i (by omega)⟩) (by omega)
  have i45_46 : xIs3 D ad45 (b + 604) Sh46 (b + 561) := xIs3_ex i45 (fun i h1 h2 => ⟨rfl, s46 i (by omega)⟩) (by omega)
  have cH46 : ∀ i, i < b → Sh46 i = Sh0 i := fun i hi => (s46 i (by omega)).trans (cH45 i hi)
  clear q2_45 i6_45 i9_45 i12_45 i15_45 i18_45 i21_45 i24_45 i27_45 i30_45 i33_45 i36_45 i39_45 i42_45 q43_45 i45 cH45
  refine xr_iincC (pc := 44) X45 (i := 1) (j := 1) (v := 14) [1, 0] (Nat.le_of_ble_eq_true rfl) hnL rfl (by decide) rfl dX1_init_44 ?_
  refine x_conv (lv2 := [(0, .ref (ad45 (b))), (1, .int 14)]) (st2 := []) rfl rfl ?_
  refine xr_goto (pc := 47) X45 25 (by decide) dX1_init_47 ?_
  refine xr_iload_n (pc := 25) X45 (i := 1) 1 rfl rfl dX1_init_25 ?_
  refine xr_bipush (pc := 26) X45 dX1_init_26 (v := 14) (by decide) ?_
  refine x_convE (ex2 := if (14 : Int32) ≤ (14 : Int32) then some () else some ()) (by decide) ?_
  refine xr_icmp_ge (pc := 28) X45 50 (by decide) dX1_init_28 (fun hc => ?_) (fun hc => absurd (by decide) hc)
  exact xr_cret (pc := 50) (nn := 604) X45 ⟨cA45, fun i hi => ⟨cH46 i hi, cG45 i hi⟩, ⟨⟨⟨by omega, q2_46⟩, ⟨by omega, q46.trans (shOs_of (fun j => by rcases (show j = 0 ∨ j = 1 ∨ j = 2 ∨ j = 3 ∨ j = 4 ∨ j = 5 ∨ j = 6 ∨ j = 7 ∨ j = 8 ∨ j = 9 ∨ j = 10 ∨ j = 11 ∨ j = 12 ∨ j = 13 ∨ 14 ≤ j by omega) with rfl | rfl | rfl | rfl | rfl | rfl | rfl | rfl | rfl | rfl | rfl | rfl | rfl | rfl | h <;> first | rfl | (simp only [va_up]; rw [if_neg (by omega), if_neg (by omega), if_neg (by omega), if_neg (by omega), if_neg (by omega), if_neg (by omega), if_neg (by omega), if_neg (by omega), if_neg (by omega), if_neg (by omega), if_neg (by omega), if_neg (by omega), if_neg (by omega), if_neg (by omega), if_neg (by omega)])))⟩, fun j hj => by rcases (show j = 0 ∨ j = 1 ∨ j = 2 ∨ j = 3 ∨ j = 4 ∨ j = 5 ∨ j = 6 ∨ j = 7 ∨ j = 8 ∨ j = 9 ∨ j = 10 ∨ j = 11 ∨ j = 12 ∨ j = 13 by omega) with rfl | rfl | rfl | rfl | rfl | rfl | rfl | rfl | rfl | rfl | rfl | rfl | rfl | rfl <;> first | exact i6_46 | exact i9_46 | exact i12_46 | exact i15_46 | exact i18_46 | exact i21_46 | exact i24_46 | exact i27_46 | exact i30_46 | exact i33_46 | exact i36_46 | exact i39_46 | exact i42_46 | exact i45_46⟩, v3_45, v4_45⟩⟩ (Nat.le_of_ble_eq_true rfl) (Nat.le_of_ble_eq_true rfl) dX1_init_50
