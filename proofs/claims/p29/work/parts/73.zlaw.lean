/-! THE LAW -/
theorem law_cell {L : Nat} {xs : Nat → Int32} (hL : L ≤ 260) (i : Nat) (hi0 : i < 2 ^ 20) (σ : xS) : ∃ X, X < 2 ^ 31 ∧ F_L_cell L xs (nI i) σ = some (nI X, σ) := by
  unfold F_L_cell
  by_cases h : nI L ≤ nI i
  · obtain ⟨X, h1, h2⟩ := pk_andE ((15519397 * (nI i + 3)) + 11471) (m := 2147483647) 31 (by rfl)
    exact ⟨X, h1, by rw [if_pos h, h2]⟩
  · by_cases hi : i < L
    · obtain ⟨X, h1, h2⟩ := pk_andE (xs (nI i).toNatClampNeg) (m := 2147483647) 31 (by rfl)
      exact ⟨X, h1, by rw [if_neg h, if_pos (xin_nI hi (by omega)), xlet_s, h2]⟩
    · exact absurd (nI_le (Nat.not_lt.mp hi) (by omega)) h
/-- the law's answer is 1 -/
def zG (o : Option (Int32 × xS)) : Prop := ∃ s, o = some (1, s)
theorem zgx {G : Option (Int32 × xS) → Prop} {w : Int32} {A3 B3 : zA} {o : Option (Int32 × xS)} {K : Int32 → xS → Option (Int32 × xS)} (h : zX w A3 B3 o) (k : ∀ z, zAM z 0 A3 → zAM z 824 B3 → G (K w z)) : G (xbI o K) := by
  obtain ⟨z, h0, h1, h2⟩ := h
  rw [h0, xbI_s]
  exact k z h1 h2
theorem z_par {G : Option (Int32 × xS) → Prop} {c : Prop} [Decidable c] {σ : xS} {A : zA} {T W : Nat} {N1 N2 K : xS → Option (Int32 × xS)} (h : zAP A T W) (hT : T < 80000) (hW : W < 6000000) (hσ : zAM σ 0 A) (hτ : zAM σ 824 A) (k : ∀ z, zAM z 0 A → zAM z 824 A → G (K z)) : G (xjn K (fun (KK20 : xS → Option (Int32 × xS)) => if c then (xbI (F_L_sound 824 σ) (fun (zz : Int32) (s : xS) => if zz = 0 then N1 s else KK20 s)) else (xbI (F_L_sound 0 σ) (fun (zz : Int32) (s : xS) => if zz = 0 then N2 s else KK20 s)))) := by
  rw [xjn_s]
  by_cases hc : c
  · rw [if_pos hc]
    refine zgq (z_sound h hT hW) hσ hτ (fun z hσ hτ => ?_)
    rw [if_neg (show ¬ (1 : Int32) = 0 by decide)]
    exact k z hσ hτ
  · rw [if_neg hc]
    refine zgo (z_sound h hT hW) hσ hτ (fun z hσ hτ => ?_)
    rw [if_neg (show ¬ (1 : Int32) = 0 by decide)]
    exact k z hσ hτ
set_option maxHeartbeats 1000000 in
theorem law_loop {L c : Nat} {xs : Nat → Int32} (hL : L ≤ 260) (hc : c ≤ 30) : ∀ (q k fuel : Nat) (σ : xS) (A : zA), k + q = c → q < fuel → zAP A (99 * k) (8000 * k) → zAM σ 0 A → zAM σ 824 A → zG (L_law 0 824 L xs (nI c) fuel 1 (nI k) σ) := by
  intro q
  induction q with
  | zero =>
    intro k fuel σ A hk hf h hσ hτ
    obtain ⟨g, rfl⟩ : ∃ g, fuel = g + 1 := ⟨fuel - 1, by omega⟩
    rw [L_law, if_pos (nI_le (by omega) (by omega)), if_pos rfl]
    exact ⟨σ, rfl⟩
  | succ q ih =>
    intro k fuel σ A hk hf h hσ hτ
    obtain ⟨g, rfl⟩ : ∃ g, fuel = g + 1 := ⟨fuel - 1, by omega⟩
    obtain ⟨X, hX, eX⟩ := law_cell (xs := xs) hL (1 + k) (by omega) σ
    rw [show nI (1 + k) = 1 + nI k from (nI_add 1 k).symm] at eX
    have n10 : ¬ (1 : Int32) = 0 := by decide
    rw [L_law, if_neg (nI_ge (by omega) (by omega)), if_neg n10, eX, xbI_s, show nI X - nI X / 100000 * 100000 = nI (X % 100000) from pk_rem (d := 100000) hX (by decide) (by decide), show nI X - nI X / 1000 * 1000 = nI (X % 1000) from pk_rem (d := 1000) hX (by decide) (by decide), show nI X - nI X / 5000 * 5000 = nI (X % 5000) from pk_rem (d := 5000) hX (by decide) (by decide), show nI X / 7 = nI (X / 7) from pk_div (d := 7) hX (by decide) (by decide), show nI X / 11 = nI (X / 11) from pk_div (d := 11) hX (by decide) (by decide)]
    obtain ⟨v, A2, hA2, hF⟩ := z_acts (X := X) h (by omega) (by omega) hX
    have hF0 : zL 0 (F_L_act 0 (nI X)) v A A2 := hF 0
    have hF1 : zL 824 (F_L_act 824 (nI X)) v A A2 := hF 824
    refine zgo hF0 hσ hτ (fun z hσ hτ => ?_)
    refine zgq (z_refuses h (Nat.mod_lt X (by decide))) hσ hτ (fun z hσ hτ => ?_)
    rw [if_neg n10]
    refine zgq hF1 hσ hτ (fun z hσ hτ => ?_)
    rw [if_neg (fun p => p rfl)]
    refine zgq (z_refuses hA2 (Nat.lt_of_lt_of_le (Nat.mod_lt X (y := 1000) (by decide)) (by decide))) hσ hτ (fun z hσ hτ => ?_)
    rw [if_neg n10]
    refine zgx (z_alike hA2 (by omega) (by omega) (Nat.lt_of_lt_of_le (Nat.mod_lt X (y := 5000) (by decide)) (by decide)) hσ hτ) (fun z hσ hτ => ?_)
    rw [if_neg n10]
    refine z_par hA2 (by omega) (by omega) hσ hτ (fun z hσ hτ => ?_)
    refine zgx (z_doneL hA2 (by omega) (by omega) (by omega) hσ hτ) (fun z hσ hτ => ?_)
    rw [if_neg n10]
    obtain ⟨B, hB, hx⟩ := z_thereL (X := X / 11) (zU_P hA2) (by omega) (by omega) (by omega) hσ hτ
    refine zgx hx (fun z hσ hτ => ?_)
    rw [if_neg n10, xlet_s, nI_1]
    exact ih (k + 1) g z B (by omega) (by omega) (hB.mono (by omega) (by omega)) hσ hτ
/-! THE START -/
theorem r0_ok : rOK (mClear (mFirst (fun _ => 0)) (nI 1)) 1 0 3 6 20 3 0 (rLo 0 1 (0 + 1)) 0 := rOK.clear ⟨by omega, by omega, by omega, by omega, by omega, by omega, by omega⟩ rfl rfl rfl rfl (by omega) (by omega)
def zA0 : zA := (mClear (mFirst (fun _ => 0)) (nI 1), [], fun _ => none)
theorem zA0_P : zAP zA0 0 0 := by
  refine ⟨zP_clear r0_ok (by omega), fun r hr => ?_, fun s r hr => ?_⟩
  · exact absurd (show r ∈ ([] : List (Nat → Int32)) from hr) List.not_mem_nil
  · have h2 : (none : Option (Nat → Int32)) = some r := hr
    cases h2
theorem zA0_M {σ : xS} {x : Nat} (h : LBg σ x) : zAM σ x zA0 := by
  obtain ⟨h1, ⟨b0, b1, ⟨s0, s1, s2, s3⟩, b2, b3⟩, ⟨m1, m2⟩, h651⟩ := h
  have hv : ∀ i, i < 4 → σ (x + 3 + 1) i = mClear (mFirst (fun _ => 0)) (nI 1) (3 + i) := fun i hi => by
    obtain e | e | e | e : i = 0 ∨ i = 1 ∨ i = 2 ∨ i = 3 := by omega
    · subst e; exact s0
    · subst e; exact s1
    · subst e; exact s2
    · subst e; exact s3
  have hq : xQ3 σ (x + 3) (mClear (mFirst (fun _ => 0)) (nI 1)) 0 := by
    refine ⟨⟨b0, b1, hv, fun k hk => ⟨0, 0, ?_⟩⟩, b2, fun j hj => absurd hj (by omega)⟩
    rw [mClear_row hk]
    exact xBg2_Q (b3 k hk)
  refine ⟨zQ.of hq r0_ok, ⟨0, by decide, Nat.zero_le _, m2, m1, fun j r hr => ?_⟩, fun s _ => Or.inl ⟨rfl, ?_⟩⟩
  · have hr2 : ([] : List (Nat → Int32))[j]? = some r := hr
    rw [List.getElem?_nil] at hr2
    cases hr2
  · rw [h651]
theorem law_pure {L : Nat} {xs : Nat → Int32} (hL : L ≤ 260) (σ : xS) (h : LStart σ) : ∃ σ', LAll L xs σ = some (1, σ') := by
  obtain ⟨X, hX, eX⟩ := law_cell (xs := xs) hL 0 (by decide) σ
  have eX2 : F_L_cell L xs (0 : Int32) σ = some (nI X, σ) := eX
  unfold LAll
  rw [eX2, xbI_s, xlet_s, show nI X - nI X / 21 * 21 = nI (X % 21) from pk_rem (d := 21) hX (by decide) (by decide), show (10 : Int32) + nI (X % 21) = nI (10 + X % 21) from nI_add 10 _]
  exact law_loop (c := 10 + X % 21) hL (by omega) (10 + X % 21) 0 31 σ zA0 (by omega) (by omega) (zA0_P.mono (by omega) (by omega)) (zA0_M h.1) (zA0_M h.2)
theorem whole_start (l : Launch) (hflags : l.flags = flags0) {p : Program} {e : Env} {s : State} {m : MethodId} {below : List Frame} {meth : Method} {c : Code} {b L : Nat} {xs : Nat → Int32} (hL : L ≤ 260) (h : lw_At p s m meth c b L xs) : W p l e room_1 s m #[Value.ref b] below meth c s.heap [] 0 0 (lw_Z below #[Value.ref b] s) (entryFrame m ([Value.ref b] : List Value).toArray 8) :=
  law_start l hflags (fun σ hσ => law_pure hL σ hσ) h
