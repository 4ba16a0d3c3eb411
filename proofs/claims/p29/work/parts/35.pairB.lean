/-! THE PAIR SENDS -/
theorem free_le : ∀ m, m < 7 → ∀ o, o < 7 → (nI m - nI o ≤ 0 ↔ m ≤ o) := by decide +kernel
theorem free_dec : ∀ m, m < 7 → ∀ o, o < 7 → (nI m - nI o) + (-1) = nI m - nI (o + 1) := by decide +kernel
theorem i22 : xin (2 : Int32) 4 = true := by decide
theorem i02 : xin (0 : Int32) 4 = true := by decide
theorem i12 : xin (1 : Int32) 4 = true := by decide
theorem i32 : xin (3 : Int32) 4 = true := by decide
theorem pL_send {b st n m sz : Nat} {now h : Int32} {V : Nat → Int32} {KK : xS → Option (Int32 × xS)} (hst : st < b ∨ b + 9 ≤ st) (hV2 : V 2 = nI sz) (hV3 : V 3 = nI m) (hm : m ≤ 6) (hs0 : 0 < sz) (hs : sz ≤ 99) : ∀ (f o x fuel : Nat) (u : Nat → Int32) (σ : xS), xQ2 σ b u o n → σ st = V → o + f = 6 → f < fuel → u 0 = nI x → x ≤ 9999 → cMax (now + V 0) (if o = 0 then -1 else u (15 + 2 * (o - 1) + 1)) = mMax (now + V 0) (u 7) →
    ∃ z o2 x2, L_X2_sendLetters_19 b now 4 st h KK fuel (nI m - nI o) σ = KK z ∧ xfr σ z b (b + 9) ∧ xQ2 z b (mSend (now + V 0) (V 2) (V 3) h f u) o2 n ∧ o ≤ o2 ∧ (mSend (now + V 0) (V 2) (V 3) h f u) 0 = nI x2 ∧ x2 ≤ x := by
  intro f
  induction f with
  | zero =>
    intro o x fuel u σ hQ hV ho hf h0 hx hl
    obtain ⟨g, rfl⟩ : ∃ g, fuel = g + 1 := ⟨fuel - 1, by omega⟩
    refine ⟨σ, o, x, ?_, xfr.refl, hQ, Nat.le_refl _, h0, Nat.le_refl _⟩
    rw [L_X2_sendLetters_19, if_pos ((free_le m (by omega) o (by omega)).mpr (by omega))]
  | succ f ih =>
    intro o x fuel u σ hQ hV ho hf h0 hx hl
    obtain ⟨g, rfl⟩ : ∃ g, fuel = g + 1 := ⟨fuel - 1, by omega⟩
    have h6 : u 6 = nI o := hQ.2.1
    have hbox : σ b 2 = u 0 := hQ.1.1
    have hcnt : σ (b + 1) 3 = nI o := by obtain ⟨w, hw⟩ := hQ.2.2.2.2.2.1; exact hw.1
    rw [L_X2_sendLetters_19, mSend]
    by_cases hmo : m ≤ o
    · rw [if_pos ((free_le m (by omega) o (by omega)).mpr hmo)]
      have hm2 : V 3 ≤ u 6 := by rw [hV3, h6]; exact nI_le hmo (by omega)
      refine ⟨σ, o, x, rfl, xfr.refl, ?_, Nat.le_refl _, ?_, Nat.le_refl _⟩
      · by_cases hb : u 0 ≤ 0
        · rw [if_pos hb]; exact hQ
        · rw [if_neg hb, if_pos hm2]; exact hQ
      · by_cases hb : u 0 ≤ 0
        · rw [if_pos hb]; exact h0
        · rw [if_neg hb, if_pos hm2]; exact h0
    rw [if_neg (fun q => hmo ((free_le m (by omega) o (by omega)).mp q))]
    have hm2 : ¬ V 3 ≤ u 6 := by rw [hV3, h6]; exact nI_ge (by omega) (by omega)
    rw [if_pos i22, cl_2, hV]
    simp only [xlet_s]
    -- a letter of y signs goes
    have go : ∀ y, y ≤ x → 0 < y → F_X2_signsOfNextLetter b (V 2) h σ = some (nI y, σ) → ∃ z o2 x2, (xbI (F_X2_signsOfNextLetter b (V 2) h σ) (fun (zz13 : Int32) (σ12 : xS) => if ¬ zz13 = 0 then (xbI (F_X0_timeAt 6 (b + 1) ((σ12 (b + 1) 3) - 1) σ12) (fun (zz15 : Int32) (σ14 : xS) => if xin (0 : Int32) 4 = true then (xlet (σ14 st (0 : Int32).toNatClampNeg) (fun (zz16 : Int32) => xlet (if (now + zz16) < zz15 then zz15 else (now + zz16)) (fun (zz17 : Int32) => xbV (F_X0_addLast 6 (b + 1) zz17 (σ14 b 0) zz13 σ14) (fun (σ18 : xS) => xlet (xu σ18 b 2 ((σ18 b 2) - zz13)) (fun (σ19 : xS) => xlet (xu σ19 b 5 ((σ19 b 5) + 1)) (fun (σ20 : xS) => xlet ((nI m - nI o) + (-1)) (fun (zz21 : Int32) => L_X2_sendLetters_19 b now 4 st h KK g zz21 σ20))))))) else none)) else (KK σ12))) = KK z ∧ xfr σ z b (b + 9) ∧ xQ2 z b (mSend (now + V 0) (V 2) (V 3) h f (mGoes (now + V 0) (nI y) u)) o2 n ∧ o ≤ o2 ∧ (mSend (now + V 0) (V 2) (V 3) h f (mGoes (now + V 0) (nI y) u)) 0 = nI x2 ∧ x2 ≤ x := by
      intro y hy hy0 hsig
      obtain ⟨z1, z, e1, e2, f1, q1⟩ := pP_goes (tt := now + V 0) (s := nI y) hQ (by omega)
      have hl2 : cMax (now + V 0) (if o + 1 = 0 then -1 else mGoes (now + V 0) (nI y) u (15 + 2 * (o + 1 - 1) + 1)) = mMax (now + V 0) (mGoes (now + V 0) (nI y) u 7) := by
        rw [if_neg (by omega), mGoes_hi h6 (by omega) (by omega), if_pos (by omega), mGoes_7, cMax_mMax]
      obtain ⟨z3, o2, x2, r1, r2, r3, r4, r5, r6⟩ := ih (o + 1) (x - y) g (mGoes (now + V 0) (nI y) u) z q1 (by rw [f1 st hst, hV]) (by omega) (by omega) (by rw [mGoes_0, h0, pk_sub hy]) (by omega) hl2
      refine ⟨z3, o2, x2, ?_, f1.trans r2, r3, by omega, r5, by omega⟩
      obtain ⟨w, hw⟩ := hQ.2.2.2.2.2.1
      rw [hsig]
      simp only [xbI_s]
      rw [if_pos (nI_ne0 hy0 (by omega)), pD_last hw (by omega) (by decide)]
      simp only [xbI_s, i02, if_true, cl_0, xlet_s, hV]
      rw [show (if now + V 0 < (if o = 0 then -1 else u (15 + 2 * (o - 1) + 1)) then (if o = 0 then -1 else u (15 + 2 * (o - 1) + 1)) else now + V 0) = mMax (now + V 0) (u 7) from hl, e1]
      simp only [xbV_s, e2, free_dec m (by omega) o (by omega)]
      exact r1
    have sig : F_X2_signsOfNextLetter b (V 2) h σ = if u 0 < V 2 then (if h = 0 then some (u 0, σ) else if ¬ u 6 = 0 then some (0, σ) else some (u 0, σ)) else some (V 2, σ) := by
      unfold F_X2_signsOfNextLetter
      rw [hbox, hcnt, h6]
    by_cases hb : u 0 ≤ 0
    · -- nothing to send
      have hx0 : x = 0 := by
        rw [h0] at hb
        exact Nat.le_zero.mp (Nat.le_of_not_lt fun q => nI_nle q (by omega) hb)
      subst hx0
      have hs2 : F_X2_signsOfNextLetter b (V 2) h σ = some (0, σ) := by
        rw [sig, h0, if_pos (by rw [hV2]; exact nI_lt hs0 (by omega)), nI_0]
        by_cases h1 : h = 0
        · rw [if_pos h1]
        · rw [if_neg h1]
          by_cases h2 : u 6 = 0
          · rw [if_neg (fun q => q h2)]
          · rw [if_pos h2]
      rw [if_pos hb, hs2]
      refine ⟨σ, o, 0, ?_, xfr.refl, hQ, Nat.le_refl _, h0, Nat.le_refl _⟩
      simp only [xbI_s, not_true_eq_false, if_false]
    rw [if_neg hb, if_neg hm2]
    have hx1 : 0 < x := Nat.pos_of_ne_zero fun q => hb (by rw [h0, q]; decide)
    by_cases hc : V 2 ≤ u 0
    · rw [if_pos hc, hV2]
      have hle : sz ≤ x := by
        rw [hV2, h0] at hc
        exact (nI_leI (by omega) (by omega)).mp hc
      rw [← hV2, show mGoes (now + V 0) (V 2) u = mGoes (now + V 0) (nI sz) u by rw [hV2]]
      exact go sz hle hs0 (by rw [sig, if_neg (Int32.not_lt.mpr hc), hV2])
    · rw [if_neg hc]
      have hlt : u 0 < V 2 := Int32.not_le.mp hc
      by_cases hh : h = 0 ∨ u 6 = 0
      · rw [if_pos hh]
        rw [show mGoes (now + V 0) (u 0) u = mGoes (now + V 0) (nI x) u by rw [h0]]
        refine go x (Nat.le_refl _) hx1 ?_
        rw [sig, if_pos hlt, ← h0]
        by_cases h1 : h = 0
        · rw [if_pos h1]
        · rw [if_neg h1, if_neg (fun q => q (hh.resolve_left h1))]
      · rw [if_neg hh]
        have hs2 : F_X2_signsOfNextLetter b (V 2) h σ = some (0, σ) := by
          rw [sig, if_pos hlt, if_neg (fun q => hh (Or.inl q)), if_pos (fun q => hh (Or.inr q))]
        rw [hs2]
        refine ⟨σ, o, x, ?_, xfr.refl, hQ, Nat.le_refl _, h0, Nat.le_refl _⟩
        simp only [xbI_s, not_true_eq_false, if_false]
theorem pP_send {σ : xS} {b st o n m sz x : Nat} {now h : Int32} {u : Nat → Int32} (hQ : xQ2 σ b u o n) (hst : st < b ∨ b + 9 ≤ st) (hV2 : σ st 2 = nI sz) (hV3 : σ st 3 = nI m) (hm : m ≤ 6) (hs0 : 0 < sz) (hs : sz ≤ 99) (h0 : u 0 = nI x) (hx : x ≤ 9999) (hl : cMax (now + σ st 0) (if o = 0 then -1 else u (15 + 2 * (o - 1) + 1)) = mMax (now + σ st 0) (u 7)) :
    ∃ z o2 x2, F_X2_sendLetters b now 4 st h σ = some (mSends (now + σ st 0) (σ st 2) (σ st 3) h u 3 - u 3, z) ∧ xfr σ z b (b + 9) ∧ xQ2 z b (mSends (now + σ st 0) (σ st 2) (σ st 3) h u) o2 n ∧ o ≤ o2 ∧ mSends (now + σ st 0) (σ st 2) (σ st 3) h u 0 = nI x2 ∧ x2 ≤ x := by
  have ho : o ≤ 6 := hQ.2.2.2.1
  have hcnt : σ (b + 1) 3 = nI o := by obtain ⟨w, hw⟩ := hQ.2.2.2.2.2.1; exact hw.1
  have hmn : mN (u 6) = o := by rw [hQ.2.1, mN_nI (by omega)]
  obtain ⟨z, o2, x2, r1, r2, r3, r4, r5, r6⟩ := pL_send (n := n) (m := m) (sz := sz) (now := now) (h := h) (V := σ st) (KK := fun (σ4 : xS) => some (((σ4 b 5) - σ b 5), σ4)) hst hV2 hV3 hm hs0 hs (6 - o) o x 1000 u σ hQ rfl (by omega) (by omega) h0 hx hl
  refine ⟨z, o2, x2, ?_, r2, ?_, r4, ?_, r6⟩
  · have e : F_X2_sendLetters b now 4 st h σ = L_X2_sendLetters_19 b now 4 st h (fun (σ4 : xS) => some (((σ4 b 5) - σ b 5), σ4)) 1000 (nI m - nI o) σ := by
      unfold F_X2_sendLetters
      simp only [xlet_s, i32, if_true, cl_3, hV3, hcnt]
    unfold mSends
    rw [hmn, e, r1, r3.1.2.2.2.1, hQ.1.2.2.2.1]
  · unfold mSends
    rw [hmn]
    exact r3
  · unfold mSends
    rw [hmn]
    exact r5
