/-! WHAT A TICK LEAVES -/
theorem mTake_k {told : Int32} {j : Nat} (hj : j = 1 ∨ j = 8) : ∀ (f : Nat) (u : Nat → Int32), mTake told f u j = u j := by
  intro f
  induction f with
  | zero => intro u; rfl
  | succ f ih =>
    intro u
    rw [mTake]
    by_cases h1 : told ≤ u 5
    · rw [if_pos h1]
    rw [if_neg h1]
    by_cases h2 : u 6 ≤ 0
    · rw [if_pos h2]
    · rw [if_neg h2, ih, mDrop_lo (by omega) (by omega) (by omega)]
theorem mAL_k {t : Int32} {j : Nat} (hj : j = 1 ∨ j = 8) : ∀ (f : Nat) (z : Int32) (u : Nat → Int32), (mAL t f z u).2 j = u j := by
  intro f
  induction f with
  | zero => intro z u; rfl
  | succ f ih =>
    intro z u
    rw [mAL]
    by_cases h1 : u 13 ≤ 0
    · rw [if_pos h1]
    rw [if_neg h1]
    by_cases h2 : u 27 = t
    · rw [if_neg (fun q => q h2), ih]
      unfold mAnsC
      rw [mTake_k hj, up_n (by omega), mShA_lo (by omega)]
    · rw [if_pos h2]
theorem mSend_k {tt size most h : Int32} {j : Nat} (hj : j = 1 ∨ j = 8) : ∀ (f : Nat) (u : Nat → Int32), mSend tt size most h f u j = u j := by
  intro f
  induction f with
  | zero => intro u; rfl
  | succ f ih =>
    intro u
    have e : ∀ s, mGoes tt s u j = u j := fun s => mGoes_lo (by omega) (by omega) (by omega) (by omega) (by omega)
    rw [mSend]
    by_cases h1 : u 0 ≤ 0
    · rw [if_pos h1]
    rw [if_neg h1]
    by_cases h2 : most ≤ u 6
    · rw [if_pos h2]
    rw [if_neg h2]
    by_cases h3 : size ≤ u 0
    · rw [if_pos h3, ih, e]
    rw [if_neg h3]
    by_cases h4 : h = 0 ∨ u 6 = 0
    · rw [if_pos h4, ih, e]
    · rw [if_neg h4]
theorem mR2_k {t tt : Int32} {u : Nat → Int32} {j : Nat} (hj : j = 1 ∨ j = 8) : mR2 t tt u j = u j := by
  unfold mR2
  by_cases h : u 11 = t
  · rw [if_neg (fun q => q h), mAns_lo (by omega)]
  · rw [if_pos h]
theorem mR3_k {t tt size most : Int32} {u : Nat → Int32} {j : Nat} (hj : j = 1 ∨ j = 8) : mR3 t tt size most u j = u j := by
  unfold mR3
  by_cases h : (mAL t (mN (u 13)) 0 u).1 = 0
  · rw [if_pos h, mAL_k hj]
  · rw [if_neg h]
    unfold mAsIs mSends
    rw [mSend_k hj, mAL_k hj]
/-- the signs that came are those of the letters that came -/
theorem mRow_8 {t tt wait size most : Int32} {u : Nat → Int32} : mRow t tt wait size most u 8 = mR1 t tt wait u 8 := by
  unfold mRow mR4
  rw [up_n (by decide), mR3_k (Or.inr rfl), mR2_k (Or.inr rfl)]
theorem mRow_1 {t tt wait size most : Int32} {u : Nat → Int32} : mRow t tt wait size most u 1 = u 1 := by
  unfold mRow mR4
  rw [up_n (by decide), mR3_k (Or.inl rfl), mR2_k (Or.inl rfl)]
  exact mComes_1 _ _ _
