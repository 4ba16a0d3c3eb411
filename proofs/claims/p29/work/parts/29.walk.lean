/-! THE LAW'S WALK TO ITS LOOP -/
/-- a new object -/
def LBg (σ : xS) (x : Nat) : Prop := σ (x + 1) 1 = 0 ∧ xBg3 σ (x + 3) ∧ (σ (x + 46) 1 = 0 ∧ σ (x + 46) 2 = 0) ∧ σ (x + 651) = (fun _ => 0)
theorem LBg_ex {σ σ2 : xS} {x : Nat} (h : LBg σ x) (hx : ∀ i, x ≤ i → i < x + 824 → σ2 i = σ i) : LBg σ2 x := by
  obtain ⟨h1, h2, h3, h4⟩ := h
  refine ⟨?_, xBg3_ex h2 (fun i a b => hx i (by omega) (by omega)), ?_, ?_⟩
  · rw [hx _ (by omega) (by omega)]; exact h1
  · rw [hx _ (by omega) (by omega)]; exact h3
  · rw [hx _ (by omega) (by omega)]; exact h4
/-- what holds when the loop begins: the objects are 0 and 824 -/
def LStart (σ : xS) : Prop := LBg σ 0 ∧ LBg σ 824
/-- the law from its turns' number on -/
def LAll (LL : Nat) (xs : Nat → Int32) (σ : xS) : Option (Int32 × xS) := xbI (F_L_cell LL xs (0 : Int32) σ) (fun (z : Int32) (σ1 : xS) => xlet (10 + (z - z / 21 * 21)) (fun (tt : Int32) => L_law 0 824 LL xs tt 31 1 0 σ1))
theorem x_anyQ {Γ : xG} {D : va_G} {ad : Nat → Nat} {N : Nat} {Sh : xSh} {k n : Nat} {ex : Option (Int32 × xS)} {q : Int32 × xS} {σ : xS} {pc : Nat} {lv : List (Nat × Value)} {st : List Value} (h : ∃ r, ex = some r) (kk : xM Γ D ad N Sh (xQL Γ) k n ex σ pc lv st) : xM Γ D ad N Sh (xQL Γ) k n (some q) σ pc lv st := by
  obtain ⟨r, hr⟩ := h
  obtain ⟨p, l, e, R, s, m, args, below, meth, c, nL, A⟩ := Γ
  intro q2 _
  exact kk r hr
set_option maxHeartbeats 40000000 in
theorem law_walk {Γ : xG} {c0 : Cond} {D : va_G} {ad0 : Nat → Nat} {Sh0 : xSh} {σ0 : xS} (hst : Γ.2.1.stackTraces = false) (hnL : Γ.2.2.2.2.2.2.2.2.2.2.1 = 8) (hAO : xAO Γ.2.2.2.2.1) (X0 : xC Γ cL_law (c0 :: wG) RL (some .boolean) room_1 D ad0 0) {bb LL : Nat} {xs : Nat → Int32} (hSC : xSC Γ bb LL xs) (hEnd : xEnd Γ bb) (hp : ∀ σ, LStart σ → ∃ σ', LAll LL xs σ = some (1, σ')) (q : Int32 × xS) : xM Γ D ad0 0 Sh0 (xQL Γ) 0 0 (some q) σ0 0 [(0, .ref bb)] [] := by
  refine xr_new (pc := 0) X0 shB5 (C := RX5) (T := TX5) (NF := 7) (tyf := tyX5) rfl hinX5 tyX5_ok wm_1_0 wm_1_1 wm_1_2 rfl (fun j hj => by rcases (show j = 0 ∨ j = 1 ∨ j = 2 ∨ j = 3 ∨ j = 4 ∨ j = 5 ∨ j = 6 by omega) with rfl | rfl | rfl | rfl | rfl | rfl | rfl <;> rfl) (Nat.le_of_ble_eq_true rfl) (Nat.le_of_ble_eq_true rfl) dL_law_0 (fun ad1 e1 X1 => ?_)
  refine xr_dup (pc := 3) X1 rfl dL_law_3 ?_
  refine xr_callC (pc := 4) (na := 0) (0) [] X1 hAO (c_X5_init Γ.2.1 D _) (if_pos rfl) (if_pos rfl) rfl (wG_1 wm_1_6) rfl rfl rfl (List.mem_cons_of_mem _ wm_1_2) (List.mem_cons_of_mem _ wm_1_4) (List.mem_cons_of_mem _ wm_1_5) rfl (by decide +kernel) ⟨(Nat.le_of_ble_eq_true rfl), (Nat.le_of_ble_eq_true rfl)⟩ rfl rfl (Nat.le_of_ble_eq_true rfl) ⟨(Nat.le_of_ble_eq_true rfl), (Nat.le_of_ble_eq_true rfl)⟩ dL_law_4 (fun ad2 Sh2 σ2 p2 X2 => ?_)
  have n2 : xIs5 D ad2 824 Sh2 0 ∧ σ2 1 1 = 0 ∧ xBg3 σ2 3 ∧ (σ2 46 1 = 0 ∧ σ2 46 2 = 0) ∧ σ2 651 = (fun _ => 0) := p2.2.2
  have r2 : ad1 0 = ad2 0 := (p2.1 0 (Nat.le_refl 0)).symm
  replace X2 : xC Γ cL_law (c0 :: wG) RL (some .boolean) room_1 D ad2 824 := X2
  refine x_convN (N2 := 824) rfl ?_
  refine x_conv (lv2 := [(0, .ref bb)]) (st2 := [.ref (ad2 0)]) rfl (by rw [r2]) ?_
  refine xr_astore_n (pc := 7) X2 (hf := rfl) (i := 1) [1, 0] (Nat.le_of_ble_eq_true rfl) hnL rfl dL_law_7 ?_
  refine xr_new (pc := 8) X2 shB5 (C := RX5) (T := TX5) (NF := 7) (tyf := tyX5) rfl hinX5 tyX5_ok wm_1_0 wm_1_1 wm_1_2 rfl (fun j hj => by rcases (show j = 0 ∨ j = 1 ∨ j = 2 ∨ j = 3 ∨ j = 4 ∨ j = 5 ∨ j = 6 by omega) with rfl | rfl | rfl | rfl | rfl | rfl | rfl <;> rfl) (Nat.le_of_ble_eq_true rfl) (Nat.le_of_ble_eq_true rfl) dL_law_8 (fun ad3 e3 X3 => ?_)
  obtain ⟨Sh3, y3⟩ : ∃ z, z = xupS Sh2 824 shB5 := ⟨_, rfl⟩
  obtain ⟨σ3, w3⟩ : ∃ z, z = xz σ2 824 := ⟨_, rfl⟩
  rw [← y3, ← w3]
  have s3 : ∀ i, i < 824 → ad3 i = ad2 i ∧ Sh3 i = Sh2 i ∧ σ3 i = σ2 i := fun i hi => ⟨e3 i hi, by rw [y3]; exact if_neg (Nat.ne_of_lt hi), by rw [w3]; exact if_neg (Nat.ne_of_lt hi)⟩
  have q3 : Sh3 824 = shB5 := by rw [y3]; exact if_pos rfl
  have t3 : σ3 824 = (fun _ => 0) := by rw [w3]; exact if_pos rfl
  refine xr_dup (pc := 11) X3 rfl dL_law_11 ?_
  refine xr_callC (pc := 12) (na := 0) (824) [] X3 hAO (c_X5_init Γ.2.1 D _) q3 t3 rfl (wG_1 wm_1_6) rfl rfl rfl (List.mem_cons_of_mem _ wm_1_2) (List.mem_cons_of_mem _ wm_1_4) (List.mem_cons_of_mem _ wm_1_5) rfl (by decide +kernel) ⟨(Nat.le_of_ble_eq_true rfl), (Nat.le_of_ble_eq_true rfl)⟩ rfl rfl (Nat.le_of_ble_eq_true rfl) ⟨(Nat.le_of_ble_eq_true rfl), (Nat.le_of_ble_eq_true rfl)⟩ dL_law_12 (fun ad4 Sh4 σ4 p4 X4 => ?_)
  have n4 : xIs5 D ad4 1648 Sh4 824 ∧ σ4 825 1 = 0 ∧ xBg3 σ4 827 ∧ (σ4 870 1 = 0 ∧ σ4 870 2 = 0) ∧ σ4 1475 = (fun _ => 0) := p4.2.2
  have s4 : ∀ i, i < 824 → ad4 i = ad2 i ∧ Sh4 i = Sh2 i ∧ σ4 i = σ2 i := fun i hi => ⟨(p4.1 i (by omega)).trans (s3 i hi).1, (p4.2.1 i hi).1.trans (s3 i hi).2.1, (p4.2.1 i hi).2.trans (s3 i hi).2.2⟩
  have r4 : ad3 824 = ad4 824 := (p4.1 824 (Nat.le_refl _)).symm
  replace X4 : xC Γ cL_law (c0 :: wG) RL (some .boolean) room_1 D ad4 1648 := X4
  refine x_convN (N2 := 1648) rfl ?_
  refine x_conv (lv2 := [(0, .ref bb), (1, .ref (ad4 0))]) (st2 := [.ref (ad4 824)]) (by rw [(s4 0 (by decide)).1]; rfl) (by rw [r4]) ?_
  refine xr_astore_n (pc := 15) X4 (hf := rfl) (i := 2) [1, 2, 0] (Nat.le_of_ble_eq_true rfl) hnL rfl dL_law_15 ?_
  have hh1 : xIs5 D ad4 1648 Sh4 0 := xIs5_ex n2.1 (fun i h1 h2 => ⟨(s4 i (by omega)).1, (s4 i (by omega)).2.1⟩) (by omega)
  have hL : LStart σ4 := by
    refine ⟨LBg_ex (σ := σ2) ⟨n2.2.1, n2.2.2.1, n2.2.2.2.1, n2.2.2.2.2⟩ (fun i _ h => (s4 i (by omega)).2.2), ⟨n4.2.1, n4.2.2.1, n4.2.2.2.1, n4.2.2.2.2⟩⟩
  obtain ⟨σE, hE⟩ := hp σ4 hL
  refine x_anyQ ⟨_, hE⟩ ?_
  have hI := X4.2.2.2.2.2.2.2.1
  unfold LAll
  refine xr_bipush (pc := 16) X4 dL_law_16 (v := 10) (by decide) ?_
  refine xr_aload_n (pc := 18) X4 (i := 0) 0 rfl rfl dL_law_18 ?_
  refine xr_iconst (pc := 19) X4 dL_law_19 (v := 0) (by decide) ?_
  refine xr_callSS (na := 2) (pc := 20) X4 hSC [.ref bb, .int 0] (c_L_cell Γ.2.1 hI bb LL xs 0 σ4) (wG_S wm_5_15 wm_5_12 wm_5_13 wm_5_14) rfl rfl rfl (by decide +kernel) ⟨Nat.le_of_ble_eq_true rfl, Nat.le_of_ble_eq_true rfl⟩ rfl rfl (Nat.le_of_ble_eq_true rfl) ⟨Nat.le_of_ble_eq_true rfl, Nat.le_of_ble_eq_true rfl⟩ dL_law_20 (fun z σ6 => ?_)
  refine xr_bipush (pc := 23) X4 dL_law_23 (v := 21) (by decide) ?_
  refine xr_irem (pc := 25) X4 (by decide) dL_law_25 ?_
  refine xr_iadd (pc := 26) X4 dL_law_26 ?_
  refine x_leti (fun tt => ?_)
  refine xr_istore_n (pc := 27) X4 (hf := rfl) (i := 3) [1, 2, 3, 0] (Nat.le_of_ble_eq_true rfl) hnL rfl dL_law_27 ?_
  refine xr_iconst (pc := 28) X4 dL_law_28 (v := 1) (by decide) ?_
  refine xr_istore (pc := 29) X4 (i := 4) [1, 2, 3, 4, 0] (Nat.le_of_ble_eq_true rfl) hnL rfl dL_law_29 ?_
  refine xr_iconst (pc := 31) X4 dL_law_31 (v := 0) (by decide) ?_
  refine xr_istore (pc := 32) X4 (i := 5) [1, 2, 3, 4, 5, 0] (Nat.le_of_ble_eq_true rfl) hnL rfl dL_law_32 ?_
  exact c_law Γ hst hI hnL rfl X4 bb LL xs hSC hEnd 0 hh1 824 n4.1 tt 31 1 0 σ6 _ _ (by decide) (by decide)
theorem law_start (l : Launch) (hflags : l.flags = flags0) {p : Program} {e : Env} {s : State} {m : MethodId} {below : List Frame} {meth : Method} {c : Code} {b L : Nat} {xs : Nat → Int32} (hp : ∀ σ, LStart σ → ∃ σ', LAll L xs σ = some (1, σ')) (h : lw_At p s m meth c b L xs) : W p l e room_1 s m #[Value.ref b] below meth c s.heap [] 0 0 (lw_Z below #[Value.ref b] s) (entryFrame m ([Value.ref b] : List Value).toArray 8) := by
  obtain ⟨hx, hb, hr, hml, hown, hts, hX, hbl, hlk, hgv⟩ := h
  have hs := flat_of_before _ hgv
  have hw : ∀ w ∈ wG, w.before #[Value.ref b] s = true := fun w h => hts w (wG_tbl w h)
  have hAO : xAO s := xAO_start hts
  obtain ⟨D, hK⟩ := xK_start hw ⟨va_AO.use hAO.1, va_AO.use hAO.2⟩
  have hst : l.stackTraces = false := by rw [Launch.stackTraces, hflags]; decide
  have hl := lv_entry [Value.ref b] (n := 8) (Nat.le_of_ble_eq_true rfl)
  rw [lg_entry_eq]
  have X : xC (p, l, e, room_1, s, m, #[Value.ref b], below, meth, c, 8, fun q => s.heap.size ≤ q) cL_law (Cond.initialized RX5 :: wG) RL (some .boolean) room_1 D (fun _ => 0) 0 :=
    ⟨hx, hb, hown, fun w hw1 => (List.mem_cons.mp hw1).elim (fun h => by rw [h]; exact hw _ wm_1_2) (hw w), hK, fun q h => h, fun i h => absurd h (Nat.not_lt_zero i), fun i j h => absurd h (Nat.not_lt_zero i), hml, hr, hlk, xNW_start hts, xSF_start hts hs, rfl⟩
  exact law_walk (Γ := (p, l, e, room_1, s, m, #[Value.ref b], below, meth, c, 8, fun q => s.heap.size ≤ q)) (σ0 := fun _ _ => 0) (Sh0 := fun _ => shB5) hst rfl hAO X (bb := b) (LL := L) (xs := xs) ⟨hX, hbl, fun h => absurd hbl (Nat.not_lt.mpr h)⟩ ⟨rfl, rfl, fun q h => h⟩ hp (1, fun _ _ => 0) _ rfl s.heap [] _ (fun i q hq => absurd (xW_lt hq).1 (Nat.not_lt_zero i)) va_S.rf hl
