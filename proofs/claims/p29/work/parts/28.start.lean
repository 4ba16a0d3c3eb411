/-! THE LAW'S START -/
theorem xNw_tbl : ∀ w ∈ xNw, w ∈ lw_tbl ∧ w.onTables = true := by
  intro w hw
  simp only [xNw, List.mem_cons, List.not_mem_nil, or_false] at hw
  rcases hw with rfl | rfl | rfl | rfl | rfl | rfl | rfl | rfl | rfl | rfl | rfl | rfl | rfl | rfl | rfl | rfl | rfl | rfl | rfl | rfl | rfl | rfl | rfl | rfl | rfl | rfl | rfl | rfl | rfl | rfl | rfl | rfl | rfl | rfl | rfl
  all_goals exact ⟨by decide +kernel, rfl⟩
theorem xNW_start {s : State} {args : Array Value} (hts : ∀ w ∈ lw_tbl, w.before args s = true) : xNW s := fun w hw => va_Nw.of (xNw_tbl w hw).2 (hts w (xNw_tbl w hw).1)
theorem xAO_start {s : State} {args : Array Value} (hts : ∀ w ∈ lw_tbl, w.before args s = true) : xAO s :=
  ⟨va_AO.of (A := args) (hts _ (by decide +kernel)), va_AO.of (A := args) (hts _ (by decide +kernel))⟩
theorem xK_start {s : State} {args : Array Value} (hw : ∀ w ∈ wG, w.before args s = true) (hAO : (Cond.arrayOver (.object "HeldNotes$Pair")).before args s = true ∧ (Cond.arrayOver (.object "HeldNotes$Post")).before args s = true) : ∃ D : va_G, va_K D vwCl (xT D) s := by
  obtain ⟨c0, i0, h0⟩ := u_known (s := s) (args := args) (ws := wG) (C := RX0) (T := TX0) (N := 4) (n := 4) hw (fun w h => wGi_wsX00 w h) (hw _ wm_2_22)
  obtain ⟨c1, i1, h1⟩ := u_known (s := s) (args := args) (ws := wG) (C := RX1) (T := TX1) (N := 3) (n := 3) hw (fun w h => wGi_wsX10 w h) (hw _ wm_1_19)
  obtain ⟨c2, i2, h2⟩ := u_known (s := s) (args := args) (ws := wG) (C := RX2) (T := TX2) (N := 14) (n := 14) hw (fun w h => wGi_wsX20 w h) (hw _ wm_3_3)
  obtain ⟨c3, i3, h3⟩ := u_known (s := s) (args := args) (ws := wG) (C := RX3) (T := TX3) (N := 5) (n := 5) hw (fun w h => wGi_wsX30 w h) (hw _ wm_1_15)
  obtain ⟨c4, i4, h4⟩ := u_known (s := s) (args := args) (ws := wG) (C := RX4) (T := TX4) (N := 8) (n := 8) hw (fun w h => wGi_wsX40 w h) (hw _ wm_1_11)
  obtain ⟨c5, i5, h5⟩ := u_known (s := s) (args := args) (ws := wG) (C := RX5) (T := TX5) (N := 7) (n := 7) hw (fun w h => wGi_wsX50 w h) (hw _ wm_1_1)
  obtain ⟨a0, k0, m0, r0, s0, t0⟩ := Cond.arrayClass_spec (show (Cond.arrayClass .int).holds args s none s [] = true from hw _ wm_2_19)
  obtain ⟨a1, k1, m1, r1, s1, t1⟩ := Cond.arrayClass_spec (show (Cond.arrayClass .char).holds args s none s [] = true from hw _ wm_2_6)
  obtain ⟨a2, k2, m2, r2, s2, t2⟩ := Cond.arrayClass_spec (show (Cond.arrayClass .boolean).holds args s none s [] = true from hw _ wm_1_23)
  obtain ⟨m4, a4, k4, p4, -, s4, t4, r4⟩ := Cond.arrayOver_spec (show (Cond.arrayOver (.object "HeldNotes$Pair")).holds args s none s [] = true from hAO.1)
  obtain ⟨m5, a5, k5, p5, -, s5, t5, r5⟩ := Cond.arrayOver_spec (show (Cond.arrayOver (.object "HeldNotes$Post")).holds args s none s [] = true from hAO.2)
  refine ⟨(fun i => if i < 100 then [c0, c1, c2, c3, c4, c5].getD i c0 else [a0, a1, a2, a0, a4, a5].getD (i - 100) a0, fun i => [i0, i1, i2, i3, i4, i5].getD i i0), ?_, ?_⟩
  · intro c q hq
    match c, hq with
    | 0, hq => obtain rfl := Option.some.inj hq; exact h0
    | 1, hq => obtain rfl := Option.some.inj hq; exact h1
    | 2, hq => obtain rfl := Option.some.inj hq; exact h2
    | 3, hq => obtain rfl := Option.some.inj hq; exact h3
    | 4, hq => obtain rfl := Option.some.inj hq; exact h4
    | 5, hq => obtain rfl := Option.some.inj hq; exact h5
    | c + 6, hq => exact absurd (List.getElem?_eq_some_iff.mp hq).1 (by simp)
  · intro c q hq
    match c, hq with
    | 0, hq => obtain rfl := Option.some.inj hq; exact ⟨fun n z => ⟨fun k h => (by cases h), k0, s0, m0, t0⟩, r0⟩
    | 1, hq => obtain rfl := Option.some.inj hq; exact ⟨fun n z => ⟨fun k h => (by cases h), k1, s1, m1, t1⟩, r1⟩
    | 2, hq => obtain rfl := Option.some.inj hq; exact ⟨fun n z => ⟨fun k h => (by cases h), k2, s2, m2, t2⟩, r2⟩
    | 3, hq => obtain rfl := Option.some.inj hq; exact ⟨fun n z => ⟨fun k h => (by cases h), k0, s0, m0, t0⟩, r0⟩
    | 4, hq => obtain rfl := Option.some.inj hq; exact ⟨fun n z => ⟨fun k h => (by cases h), k4, s4, m4, t4⟩, k4, m4, s4, t4, p4, r4⟩
    | 5, hq => obtain rfl := Option.some.inj hq; exact ⟨fun n z => ⟨fun k h => (by cases h), k5, s5, m5, t5⟩, k5, m5, s5, t5, p5, r5⟩
    | c + 6, hq => exact absurd (List.getElem?_eq_some_iff.mp hq).1 (by simp [xT])
theorem xSF_FIRST_VALUES {s : State} {b : Nat} (hts : ∀ w ∈ lw_tbl, w.before #[Value.ref b] s = true) (hs : ∀ w ∈ flatC (Jvm.Cond.and given_1 narrow_1), w.before #[Value.ref b] s = true) : xSF1 "FIRST_VALUES" xF1 (fun q => s.heap.size ≤ q) s s.heap := by
  obtain ⟨t, h1, h2⟩ := va_Tof (tm := .static "HeldNotes" "FIRST_VALUES" "[I") (ty := .int) (N := 4) (f := fun j => .int (xF1 j)) (A := fun q => s.heap.size ≤ q) (args := #[Value.ref b]) (s := s) (by decide) (hs _ (by decide +kernel)) (va_eqt (z := 4) (hs _ (by decide +kernel))) (fun j hj => by
    rcases (show j = 0 ∨ j = 1 ∨ j = 2 ∨ j = 3 by omega) with rfl | rfl | rfl | rfl
    · exact va_eqt (z := 3) (hs _ (by decide +kernel))
    · exact va_eqt (z := 6) (hs _ (by decide +kernel))
    · exact va_eqt (z := 20) (hs _ (by decide +kernel))
    · exact va_eqt (z := 3) (hs _ (by decide +kernel))) (fun a h => by omega)
  exact ⟨t, va_Zof (hts _ (by decide +kernel)) (hts _ (by decide +kernel)) h1 (fun a h => by omega), h2⟩
theorem xSF_LOWEST_VALUES {s : State} {b : Nat} (hts : ∀ w ∈ lw_tbl, w.before #[Value.ref b] s = true) (hs : ∀ w ∈ flatC (Jvm.Cond.and given_1 narrow_1), w.before #[Value.ref b] s = true) : xSF1 "LOWEST_VALUES" xF2 (fun q => s.heap.size ≤ q) s s.heap := by
  obtain ⟨t, h1, h2⟩ := va_Tof (tm := .static "HeldNotes" "LOWEST_VALUES" "[I") (ty := .int) (N := 4) (f := fun j => .int (xF2 j)) (A := fun q => s.heap.size ≤ q) (args := #[Value.ref b]) (s := s) (by decide) (hs _ (by decide +kernel)) (va_eqt (z := 4) (hs _ (by decide +kernel))) (fun j hj => by
    rcases (show j = 0 ∨ j = 1 ∨ j = 2 ∨ j = 3 by omega) with rfl | rfl | rfl | rfl
    · exact va_eqt (z := 1) (hs _ (by decide +kernel))
    · exact va_eqt (z := 0) (hs _ (by decide +kernel))
    · exact va_eqt (z := 4) (hs _ (by decide +kernel))
    · exact va_eqt (z := 1) (hs _ (by decide +kernel))) (fun a h => by omega)
  exact ⟨t, va_Zof (hts _ (by decide +kernel)) (hts _ (by decide +kernel)) h1 (fun a h => by omega), h2⟩
theorem xSF_HIGHEST_VALUES {s : State} {b : Nat} (hts : ∀ w ∈ lw_tbl, w.before #[Value.ref b] s = true) (hs : ∀ w ∈ flatC (Jvm.Cond.and given_1 narrow_1), w.before #[Value.ref b] s = true) : xSF1 "HIGHEST_VALUES" xF3 (fun q => s.heap.size ≤ q) s s.heap := by
  obtain ⟨t, h1, h2⟩ := va_Tof (tm := .static "HeldNotes" "HIGHEST_VALUES" "[I") (ty := .int) (N := 4) (f := fun j => .int (xF3 j)) (A := fun q => s.heap.size ≤ q) (args := #[Value.ref b]) (s := s) (by decide) (hs _ (by decide +kernel)) (va_eqt (z := 4) (hs _ (by decide +kernel))) (fun j hj => by
    rcases (show j = 0 ∨ j = 1 ∨ j = 2 ∨ j = 3 by omega) with rfl | rfl | rfl | rfl
    · exact va_eqt (z := 9) (hs _ (by decide +kernel))
    · exact va_eqt (z := 20) (hs _ (by decide +kernel))
    · exact va_eqt (z := 99) (hs _ (by decide +kernel))
    · exact va_eqt (z := 6) (hs _ (by decide +kernel))) (fun a h => by omega)
  exact ⟨t, va_Zof (hts _ (by decide +kernel)) (hts _ (by decide +kernel)) h1 (fun a h => by omega), h2⟩
theorem xSF_start {s : State} {b : Nat} (hts : ∀ w ∈ lw_tbl, w.before #[Value.ref b] s = true) (hs : ∀ w ∈ flatC (Jvm.Cond.and given_1 narrow_1), w.before #[Value.ref b] s = true) : xSF (fun q => s.heap.size ≤ q) s s.heap :=
  ⟨xSF_FIRST_VALUES hts hs, xSF_LOWEST_VALUES hts hs, xSF_HIGHEST_VALUES hts hs, vx_Zqof (hts _ (by decide +kernel)) (hts _ (by decide +kernel)) (hs _ (by decide +kernel)) (fun a h => by omega), vx_Zqof (hts _ (by decide +kernel)) (hts _ (by decide +kernel)) (hs _ (by decide +kernel)) (fun a h => by omega),
   ⟨va_Nc.of (args := #[Value.ref b]) (hs _ (by decide +kernel)), va_Nc.of (args := #[Value.ref b]) (hs _ (by decide +kernel)), va_Nc.of (args := #[Value.ref b]) (hs _ (by decide +kernel)), va_Nc.of (args := #[Value.ref b]) (hs _ (by decide +kernel)), va_Nc.of (args := #[Value.ref b]) (hs _ (by decide +kernel)), va_Nc.of (args := #[Value.ref b]) (hs _ (by decide +kernel))⟩⟩
