/-! SENDING KEEPS WHAT HOLDS -/
theorem xC1.goes {u : Nat → Int32} {W o n c a d x y : Nat} {T : Nat → Nat} {tt : Int32} (h : xC1 u W o n c a d x T) (ho : o < 6) (hy : y ≤ x) : xC1 (mGoes tt (nI y) u) (W + 1) (o + 1) n c a d (x - y) T := by
  obtain ⟨h1, h2, h3, h4, h5, h6, h7, h8, h9, h10, h11, h12, h13, h14, h15, h16⟩ := h
  refine ⟨?_, ?_, ?_, ?_, ?_, ?_, by omega, h8, by omega, by omega, by omega, ?_, h13, h14, h15, ?_⟩
  · rw [mGoes_6, h1, nI_1]
  · rw [mGoes_lo (by decide) (by decide) (by decide) (by decide) (by decide), h2]
  · rw [mGoes_lo (by decide) (by decide) (by decide) (by decide) (by decide), h3]
  · rw [mGoes_lo (by decide) (by decide) (by decide) (by decide) (by decide), h4]
  · rw [mGoes_lo (by decide) (by decide) (by decide) (by decide) (by decide), h5]
  · rw [mGoes_0, h6, pk_sub hy]
  · intro j hj
    rw [mGoes_hi h1 ho (by omega), if_neg (by omega), if_neg (by omega), h12 j hj]
  · rw [mGoes_lo (by decide) (by decide) (by decide) (by decide) (by decide)]; exact h16
theorem xC2.goes {u : Nat → Int32} {t lo o c a r : Nat} {F : Nat → Nat} {s : Int32} (h : xC2 u t lo o c a F) (h6 : u 6 = nI o) (ho : o < 6) (hca : c - a ≤ o) (hr : r ≤ 9) (hlo : lo ≤ t + r) (ht : t < 2 ^ 29) : ∃ F2, xC2 (mGoes (nI (t + r)) s u) t lo (o + 1) c a F2 := by
  obtain ⟨h1, h2, h3, h4, h5, l, h7, h8, h9⟩ := h
  have hl : l ≤ t + 9 := by
    by_cases h0 : o = 0
    · have := h8 h0; omega
    · rw [h9 (by omega)]; exact h5 _ (by omega)
  refine ⟨nUp F o (max (t + r) l), ?_, ?_, ?_, ?_, ?_, max (t + r) l, ?_, fun q => absurd q (by omega), fun _ => ?_⟩
  · intro j hj
    rw [mGoes_hi h6 ho (by omega)]
    unfold nUp
    by_cases hjo : j = o
    · subst hjo; rw [if_pos rfl, if_pos rfl, h7, mMax_nI (by omega) (by omega)]
    · rw [if_neg (by omega), if_neg (by omega), if_neg hjo, h1 j (by omega)]
  · intro j hj
    unfold nUp
    rw [if_neg (by omega)]
    by_cases hjo : j + 1 = o
    · rw [if_pos hjo]
      have e := h9 (by omega)
      have e2 : o - 1 = j := by omega
      rw [e2] at e
      omega
    · rw [if_neg hjo]; exact h2 j (by omega)
  · intro j hj
    unfold nUp
    rw [if_neg (by omega)]
    exact h3 j hj
  · intro j hj1 hj2
    unfold nUp
    by_cases hjo : j = o
    · rw [if_pos hjo]; omega
    · rw [if_neg hjo]; exact h4 j hj1 (by omega)
  · intro j hj
    unfold nUp
    by_cases hjo : j = o
    · rw [if_pos hjo]; omega
    · rw [if_neg hjo]; exact h5 j (by omega)
  · rw [mGoes_7, h7, mMax_nI (by omega) (by omega)]
  · unfold nUp
    rw [if_pos (by omega)]
theorem xC3.goes {u : Nat → Int32} {t n o : Nat} {tt s : Int32} (h : xC3 u t n) (h6 : u 6 = nI o) (ho : o < 6) : xC3 (mGoes tt s u) t n :=
  h.cg (mGoes_lo (by decide) (by decide) (by decide) (by decide) (by decide)) (fun j hj => by rw [mGoes_hi h6 ho (by omega), if_neg (by omega), if_neg (by omega)])
/-- all that always holds of a row at time t; W: how much was done -/
def xI (u : Nat → Int32) (t lo W : Nat) : Prop := ∃ o n c a d x T F, xC1 u W o n c a d x T ∧ xC2 u t lo o c a F ∧ xC3 u t n
theorem xI.mono {u : Nat → Int32} {t lo W W2 : Nat} (h : xI u t lo W) (hw : W ≤ W2) : xI u t lo W2 := by
  obtain ⟨o, n, c, a, d, x, T, F, ⟨h1, h2, h3, h4, h5, h6, h7, h8, h9, h10, h11⟩, k2, k3⟩ := h
  exact ⟨o, n, c, a, d, x, T, F, ⟨h1, h2, h3, h4, h5, h6, h7, h8, h9, by omega, h11⟩, k2, k3⟩
theorem pI_send {t lo r sz : Nat} {most h : Int32} (hr : r ≤ 9) (hlo : lo ≤ t + r) (ht : t < 2 ^ 29) (hsz : sz ≤ 99) : ∀ (f o W : Nat) (u : Nat → Int32), u 6 = nI o → o + f = 6 → xI u t lo W → xI (mSend (nI (t + r)) (nI sz) most h f u) t lo (W + f) := by
  intro f
  induction f with
  | zero => intro o W u _ _ hI; exact hI
  | succ f ih =>
    intro o W u h6 ho hI
    have step : ∀ y, (∃ x, u 0 = nI x ∧ y ≤ x ∧ x ≤ 9999) → xI (mSend (nI (t + r)) (nI sz) most h f (mGoes (nI (t + r)) (nI y) u)) t lo (W + (f + 1)) := by
      intro y hy
      obtain ⟨x1, e1, e2, e3⟩ := hy
      have hI2 : xI (mGoes (nI (t + r)) (nI y) u) t lo (W + 1) := by
        obtain ⟨o', n, c, a, d, x, T, F, k1, k2, k3⟩ := hI
        have g6 := k1.1
        have g0 := k1.2.2.2.2.2.1
        have g7 := k1.2.2.2.2.2.2.1
        have g9 := k1.2.2.2.2.2.2.2.2.1
        have gx := k1.2.2.2.2.2.2.2.2.2.2.1
        obtain rfl : o' = o := (nI_eq (by omega) (by omega)).mp (g6.symm.trans h6)
        obtain rfl : x1 = x := (nI_eq (by omega) (by omega)).mp (e1.symm.trans g0)
        obtain ⟨F2, k22⟩ := k2.goes (s := nI y) g6 (by omega) (by omega) hr hlo ht
        exact ⟨_, _, _, _, _, _, T, F2, k1.goes (by omega) e2, k22, k3.goes g6 (by omega)⟩
      exact (ih (o + 1) (W + 1) _ (by rw [mGoes_6, h6, nI_1]) (by omega) hI2).mono (by omega)
    obtain ⟨o', n, c, a, d, x, T, F, k1, -, -⟩ := id hI
    have g0 := k1.2.2.2.2.2.1
    have gx := k1.2.2.2.2.2.2.2.2.2.2.1
    rw [mSend]
    by_cases h1 : u 0 ≤ 0
    · rw [if_pos h1]; exact hI.mono (by omega)
    rw [if_neg h1]
    by_cases h2 : most ≤ u 6
    · rw [if_pos h2]; exact hI.mono (by omega)
    rw [if_neg h2]
    by_cases h3 : nI sz ≤ u 0
    · rw [if_pos h3]
      exact step sz ⟨x, g0, (nI_leI (by omega) (by omega)).mp (by rw [← g0]; exact h3), gx⟩
    rw [if_neg h3]
    by_cases h4 : h = 0 ∨ u 6 = 0
    · rw [if_pos h4]
      have := step x ⟨x, g0, Nat.le_refl _, gx⟩
      rwa [← g0] at this
    · rw [if_neg h4]; exact hI.mono (by omega)
theorem pI_sends {t lo r sz W : Nat} {most h : Int32} {u : Nat → Int32} (hr : r ≤ 9) (hlo : lo ≤ t + r) (ht : t < 2 ^ 29) (hsz : sz ≤ 99) (hI : xI u t lo W) : xI (mSends (nI (t + r)) (nI sz) most h u) t lo (W + 6) := by
  obtain ⟨o, n, c, a, d, x, T, F, k1, -, -⟩ := id hI
  have g6 := k1.1
  have g7 := k1.2.2.2.2.2.2.1
  unfold mSends
  rw [g6, mN_nI (by omega)]
  exact (pI_send hr hlo ht hsz (6 - o) o W u g6 (by omega) hI).mono (by omega)
/-- a note is written -/
theorem pI_note {t lo W y : Nat} {u : Nat → Int32} {v : Int32} (hI : xI u t lo W) (hy : ∀ x, u 0 = nI x → x ≤ 9999 → x + y ≤ 9999) : xI (upd (upd u 0 (u 0 + nI y)) 2 v) t lo W := by
  obtain ⟨o, n, c, a, d, x, T, F, ⟨h1, h2, h3, h4, h5, h6, h7, h8, h9, h10, h11, h12, h13, h14, h15, h16⟩, k2, k3⟩ := hI
  have e : ∀ j, j ≠ 0 → j ≠ 2 → upd (upd u 0 (u 0 + nI y)) 2 v j = u j := fun j a b => by rw [up_n b, up_n a]
  refine ⟨o, n, c, a, d, x + y, T, F, ⟨?_, ?_, ?_, ?_, ?_, ?_, h7, h8, h9, h10, hy x h6 h11, ?_, h13, h14, h15, ?_⟩, k2.cg (e _ (by decide) (by decide)) (fun j hj _ => e j (by omega) (by omega)) h7, k3.cg (e _ (by decide) (by decide)) (fun j hj => e j (by omega) (by omega))⟩
  · rw [e _ (by decide) (by decide), h1]
  · rw [e _ (by decide) (by decide), h2]
  · rw [e _ (by decide) (by decide), h3]
  · rw [e _ (by decide) (by decide), h4]
  · rw [e _ (by decide) (by decide), h5]
  · rw [up_n (by decide), up_s, h6, nI_add]
  · intro j hj; rw [e _ (by omega) (by omega), h12 j hj]
  · rw [e _ (by decide) (by decide)]; exact h16
