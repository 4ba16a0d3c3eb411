/-! THE LAW'S WALK TO ITS LOOP -/
/-- what holds when the loop begins: the object is 0, the reference 824, the row for results 832 -/
def LStart (σ : xS) : Prop := σ 1 1 = 0 ∧ xBg3 σ 3 ∧ (σ 46 1 = 0 ∧ σ 46 2 = 0) ∧ σ 651 = (fun _ => 0) ∧ σ 826 = mFirst (mClear (fun _ => 0) 1) ∧ σ 824 = (fun _ => 0) ∧ σ 831 = (fun _ => 0)
theorem x_anyQ {Γ : xG} {D : va_G} {ad : Nat → Nat} {N : Nat} {Sh : xSh} {k n : Nat} {ex : Option (Int32 × xS)} {q : Int32 × xS} {σ : xS} {pc : Nat} {lv : List (Nat × Value)} {st : List Value} (h : ∃ r, ex = some r) (kk : xM Γ D ad N Sh (xQL Γ) k n ex σ pc lv st) : xM Γ D ad N Sh (xQL Γ) k n (some q) σ pc lv st := by
  obtain ⟨r, hr⟩ := h
  obtain ⟨p, l, e, R, s, m, args, below, meth, c, nL, A⟩ := Γ
  intro q2 _
  exact kk r hr
set_option maxHeartbeats 40000000 in
theorem law_walk {Γ : xG} {c0 : Cond} {D : va_G} {ad0 : Nat → Nat} {Sh0 : xSh} {σ0 : xS} (hst : Γ.2.1.stackTraces = false) (hnL : Γ.2.2.2.2.2.2.2.2.2.2.1 = 7) (hAO : xAO Γ.2.2.2.2.1) (X0 : xC Γ cL_law (c0 :: wG) RL (some .boolean) room_1 D ad0 0) {bb LL : Nat} {xs : Nat → Int32} (hSC : xSC Γ bb LL xs) (hEnd : xEnd Γ bb) (hp : ∀ σ, LStart σ → ∃ σ', L_law 0 824 832 LL xs 520 0 σ = some (1, σ')) (q : Int32 × xS) : xM Γ D ad0 0 Sh0 (xQL Γ) 0 0 (some q) σ0 0 [(0, .ref bb)] [] := by
  refine xr_new (pc := 0) X0 shB5 (C := RX5) (T := TX5) (NF := 7) (tyf := tyX5) rfl hinX5 tyX5_ok wm_1_0 wm_1_1 wm_1_2 rfl (fun j hj => by rcases (show j = 0 ∨ j = 1 ∨ j = 2 ∨ j = 3 ∨ j = 4 ∨ j = 5 ∨ j = 6 by omega) with rfl | rfl | rfl | rfl | rfl | rfl | rfl <;> rfl) (Nat.le_of_ble_eq_true rfl) (Nat.le_of_ble_eq_true rfl) dL_law_0 (fun ad1 e1 X1 => ?_)
  refine xr_dup (pc := 3) X1 rfl dL_law_3 ?_
  refine xr_callC (pc := 4) (na := 0) (0) [] X1 hAO (c_X5_init Γ.2.1 D _) (if_pos rfl) (if_pos rfl) rfl (wG_1 wm_1_10) rfl rfl rfl (List.mem_cons_of_mem _ wm_1_2) (List.mem_cons_of_mem _ wm_1_8) (List.mem_cons_of_mem _ wm_1_9) rfl (by decide +kernel) ⟨(Nat.le_of_ble_eq_true rfl), (Nat.le_of_ble_eq_true rfl)⟩ rfl rfl (Nat.le_of_ble_eq_true rfl) ⟨(Nat.le_of_ble_eq_true rfl), (Nat.le_of_ble_eq_true rfl)⟩ dL_law_4 (fun ad2 Sh2 σ2 p2 X2 => ?_)
  have n2 : xIs5 D ad2 824 Sh2 0 ∧ σ2 1 1 = 0 ∧ xBg3 σ2 3 ∧ (σ2 46 1 = 0 ∧ σ2 46 2 = 0) ∧ σ2 651 = (fun _ => 0) := p2.2.2
  have r2 : ad1 0 = ad2 0 := (p2.1 0 (Nat.le_refl 0)).symm
  replace X2 : xC Γ cL_law (c0 :: wG) RL (some .boolean) room_1 D ad2 824 := X2
  refine x_convN (N2 := 824) rfl ?_
  refine x_conv (lv2 := [(0, .ref bb)]) (st2 := [.ref (ad2 0)]) rfl (by rw [r2]) ?_
  refine xr_astore_n (pc := 7) X2 (hf := rfl) (i := 1) [1, 0] (Nat.le_of_ble_eq_true rfl) hnL rfl dL_law_7 ?_
  refine xr_new (pc := 8) X2 shB6 (C := RX6) (T := TX6) (NF := 12) (tyf := tyX6) rfl hinX6 tyX6_ok wm_1_3 wm_1_4 wm_1_5 rfl (fun j hj => by rcases (show j = 0 ∨ j = 1 ∨ j = 2 ∨ j = 3 ∨ j = 4 ∨ j = 5 ∨ j = 6 ∨ j = 7 ∨ j = 8 ∨ j = 9 ∨ j = 10 ∨ j = 11 by omega) with rfl | rfl | rfl | rfl | rfl | rfl | rfl | rfl | rfl | rfl | rfl | rfl <;> rfl) (Nat.le_of_ble_eq_true rfl) (Nat.le_of_ble_eq_true rfl) dL_law_8 (fun ad3 e3 X3 => ?_)
  obtain ⟨Sh3, y3⟩ : ∃ z, z = xupS Sh2 824 shB6 := ⟨_, rfl⟩
  obtain ⟨σ3, w3⟩ : ∃ z, z = xz σ2 824 := ⟨_, rfl⟩
  rw [← y3, ← w3]
  have s3 : ∀ i, i < 824 → ad3 i = ad2 i ∧ Sh3 i = Sh2 i ∧ σ3 i = σ2 i := fun i hi => ⟨e3 i hi, by rw [y3]; exact if_neg (Nat.ne_of_lt hi), by rw [w3]; exact if_neg (Nat.ne_of_lt hi)⟩
  have q3 : Sh3 824 = shB6 := by rw [y3]; exact if_pos rfl
  have t3 : σ3 824 = (fun _ => 0) := by rw [w3]; exact if_pos rfl
  refine xr_dup (pc := 11) X3 rfl dL_law_11 ?_
  refine xr_callC (pc := 12) (na := 0) (824) [] X3 hAO (c_X6_init Γ.2.1 D _) q3 t3 rfl (wG_1 wm_5_18) rfl rfl rfl (List.mem_cons_of_mem _ wm_1_5) (List.mem_cons_of_mem _ wm_5_16) (List.mem_cons_of_mem _ wm_5_17) rfl (by decide +kernel) ⟨(Nat.le_of_ble_eq_true rfl), (Nat.le_of_ble_eq_true rfl)⟩ rfl rfl (Nat.le_of_ble_eq_true rfl) ⟨(Nat.le_of_ble_eq_true rfl), (Nat.le_of_ble_eq_true rfl)⟩ dL_law_12 (fun ad4 Sh4 σ4 p4 X4 => ?_)
  have n4 : xIs6 D ad4 832 Sh4 824 ∧ σ4 826 = mFirst (mClear (fun _ => 0) 1) ∧ σ4 824 = (fun _ => 0) ∧ σ4 831 = (fun _ => 0) := p4.2.2
  have s4 : ∀ i, i < 824 → ad4 i = ad2 i ∧ Sh4 i = Sh2 i ∧ σ4 i = σ2 i := fun i hi => ⟨(p4.1 i (by omega)).trans (s3 i hi).1, (p4.2.1 i hi).1.trans (s3 i hi).2.1, (p4.2.1 i hi).2.trans (s3 i hi).2.2⟩
  have r4 : ad3 824 = ad4 824 := (p4.1 824 (Nat.le_refl _)).symm
  replace X4 : xC Γ cL_law (c0 :: wG) RL (some .boolean) room_1 D ad4 832 := X4
  refine x_convN (N2 := 832) rfl ?_
  refine x_conv (lv2 := [(0, .ref bb), (1, .ref (ad4 0))]) (st2 := [.ref (ad4 824)]) (by rw [(s4 0 (by decide)).1]; rfl) (by rw [r4]) ?_
  refine xr_astore_n (pc := 15) X4 (hf := rfl) (i := 2) [1, 2, 0] (Nat.le_of_ble_eq_true rfl) hnL rfl dL_law_15 ?_
  refine xr_iconst (pc := 16) X4 dL_law_16 (v := 1) (by decide) ?_
  refine xr_newJ (pc := 17) (N' := 1) X4 wm_1_6 (by decide) (by decide) (by decide) (Nat.le_of_ble_eq_true rfl) (Nat.le_of_ble_eq_true rfl) dL_law_17 (fun ad5 e5 X5 => ?_)
  obtain ⟨Sh5, y5⟩ : ∃ z, z = xupS Sh4 832 (shJ D 1) := ⟨_, rfl⟩
  obtain ⟨σ5, w5⟩ : ∃ z, z = xz σ4 832 := ⟨_, rfl⟩
  rw [← y5, ← w5]
  have s5 : ∀ i, i < 832 → ad5 i = ad4 i ∧ Sh5 i = Sh4 i ∧ σ5 i = σ4 i := fun i hi => ⟨e5 i hi, by rw [y5]; exact if_neg (Nat.ne_of_lt hi), by rw [w5]; exact if_neg (Nat.ne_of_lt hi)⟩
  have q5 : Sh5 832 = shJ D 1 := by rw [y5]; exact if_pos rfl
  have s6 : ∀ i, i < 824 → ad5 i = ad2 i ∧ Sh5 i = Sh2 i ∧ σ5 i = σ2 i := fun i hi => ⟨(s5 i (by omega)).1.trans (s4 i hi).1, (s5 i (by omega)).2.1.trans (s4 i hi).2.1, (s5 i (by omega)).2.2.trans (s4 i hi).2.2⟩
  replace X5 : xC Γ cL_law (c0 :: wG) RL (some .boolean) room_1 D ad5 833 := X5
  refine x_convN (N2 := 833) rfl ?_
  refine x_conv (lv2 := [(0, .ref bb), (1, .ref (ad5 0)), (2, .ref (ad5 824))]) (st2 := [.ref (ad5 832)]) (by rw [(s5 0 (by decide)).1, (s5 824 (by decide)).1]; rfl) rfl ?_
  refine xr_astore_n (pc := 19) X5 (hf := rfl) (i := 3) [1, 2, 3, 0] (Nat.le_of_ble_eq_true rfl) hnL rfl dL_law_19 ?_
  refine xr_iconst (pc := 20) X5 dL_law_20 (v := 0) (by decide) ?_
  refine xr_istore (pc := 21) X5 (i := 4) [1, 2, 3, 4, 0] (Nat.le_of_ble_eq_true rfl) hnL rfl dL_law_21 ?_
  have hh1 : xIs5 D ad5 833 Sh5 0 := xIs5_ex n2.1 (fun i h1 h2 => ⟨(s6 i (by omega)).1, (s6 i (by omega)).2.1⟩) (by omega)
  have hh2 : xIs6 D ad5 833 Sh5 824 := xIs6_ex n4.1 (fun i h1 h2 => ⟨(s5 i (by omega)).1, (s5 i (by omega)).2.1⟩) (by omega)
  have hL : LStart σ5 := by
    refine ⟨?_, xBg3_ex n2.2.2.1 (fun i h1 h2 => (s6 i (by omega)).2.2), ?_, ?_, ?_, ?_, ?_⟩
    · rw [(s6 1 (by decide)).2.2]; exact n2.2.1
    · rw [(s6 46 (by decide)).2.2]; exact n2.2.2.2.1
    · rw [(s6 651 (by decide)).2.2]; exact n2.2.2.2.2
    · rw [(s5 826 (by decide)).2.2]; exact n4.2.1
    · rw [(s5 824 (by decide)).2.2]; exact n4.2.2.1
    · rw [(s5 831 (by decide)).2.2]; exact n4.2.2.2
  obtain ⟨σE, hE⟩ := hp σ5 hL
  refine x_anyQ ⟨_, hE⟩ ?_
  exact c_law Γ hst (X5.2.2.2.2.2.2.2.1) hnL rfl X5 bb LL xs hSC hEnd 0 hh1 824 hh2 832 ⟨by decide, q5⟩ 520 0 σ5 _ _ (by decide) (by decide)
theorem law_start (l : Launch) (hflags : l.flags = flags0) {p : Program} {e : Env} {s : State} {m : MethodId} {below : List Frame} {meth : Method} {c : Code} {b L : Nat} {xs : Nat → Int32} (hp : ∀ σ, LStart σ → ∃ σ', L_law 0 824 832 L xs 520 0 σ = some (1, σ')) (h : lw_At p s m meth c b L xs) : W p l e room_1 s m #[Value.ref b] below meth c s.heap [] 0 0 (lw_Z below #[Value.ref b] s) (entryFrame m ([Value.ref b] : List Value).toArray 7) := by
  obtain ⟨hx, hb, hr, hml, hown, hts, hX, hbl, hlk, hgv⟩ := h
  have hs := flat_of_before _ hgv
  have hw : ∀ w ∈ wG, w.before #[Value.ref b] s = true := fun w h => hts w (wG_tbl w h)
  have hAO : xAO s := xAO_start hts
  obtain ⟨D, hK⟩ := xK_start hw ⟨va_AO.use hAO.1, va_AO.use hAO.2⟩
  have hst : l.stackTraces = false := by rw [Launch.stackTraces, hflags]; decide
  have hl := lv_entry [Value.ref b] (n := 7) (Nat.le_of_ble_eq_true rfl)
  rw [lg_entry_eq]
  have X : xC (p, l, e, room_1, s, m, #[Value.ref b], below, meth, c, 7, fun q => s.heap.size ≤ q) cL_law (Cond.initialized RX5 :: wG) RL (some .boolean) room_1 D (fun _ => 0) 0 :=
    ⟨hx, hb, hown, fun w hw1 => (List.mem_cons.mp hw1).elim (fun h => by rw [h]; exact hw _ wm_1_2) (hw w), hK, fun q h => h, fun i h => absurd h (Nat.not_lt_zero i), fun i j h => absurd h (Nat.not_lt_zero i), hml, hr, hlk, xNW_start hts, xSF_start hts hs, rfl⟩
  exact law_walk (Γ := (p, l, e, room_1, s, m, #[Value.ref b], below, meth, c, 7, fun q => s.heap.size ≤ q)) (σ0 := fun _ _ => 0) (Sh0 := fun _ => shB5) hst rfl hAO X (bb := b) (LL := L) (xs := xs) ⟨hX, hbl, fun h => absurd hbl (Nat.not_lt.mpr h)⟩ ⟨rfl, rfl, fun q h => h⟩ hp (1, fun _ _ => 0) _ rfl s.heap [] _ (fun i q hq => absurd (xW_lt hq).1 (Nat.not_lt_zero i)) va_S.rf hl
