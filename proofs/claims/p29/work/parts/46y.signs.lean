/-! THE SIGNS OF LETTERS UNDER WAY, and how many signs come in a tick -/
def yG (u : Nat → Int32) : Prop := ∃ o, u 6 = nI o ∧ o ≤ 6 ∧ ∀ j, j < o → ∃ s, u (15 + 2 * j) = nI s ∧ s ≤ 99
theorem yG.cg {u v : Nat → Int32} (h : yG u) (h6 : v 6 = u 6) (e : ∀ j, 15 ≤ j → j < 27 → v j = u j) : yG v := by
  obtain ⟨o, h1, h2, h3⟩ := h
  exact ⟨o, h6.trans h1, h2, fun j hj => by rw [e _ (by omega) (by omega)]; exact h3 j hj⟩
theorem yG.goes {u : Nat → Int32} {tt : Int32} {y o : Nat} (h : yG u) (h6 : u 6 = nI o) (ho : o < 6) (hy : y ≤ 99) : yG (mGoes tt (nI y) u) := by
  obtain ⟨o2, h1, h2, h3⟩ := h
  obtain rfl : o2 = o := (nI_eq (by omega) (by omega)).mp (h1.symm.trans h6)
  refine ⟨o2 + 1, by rw [mGoes_6, h1, nI_1], by omega, fun j hj => ?_⟩
  rw [mGoes_hi h6 ho (by omega), if_neg (by omega)]
  by_cases e : j = o2
  · subst e; rw [if_pos rfl]; exact ⟨y, rfl, hy⟩
  · rw [if_neg (by omega)]; exact h3 j (by omega)
theorem yG.send {tt most h : Int32} {sz : Nat} (hsz : sz ≤ 99) : ∀ (f o x : Nat) (u : Nat → Int32), u 6 = nI o → o + f = 6 → u 0 = nI x → x ≤ 9999 → yG u → yG (mSend tt (nI sz) most h f u) ∧ ∃ j, j ≤ f ∧ mSend tt (nI sz) most h f u 3 = u 3 + nI j := by
  intro f
  induction f with
  | zero => intro o x u h6 hf h0 hx hG; exact ⟨hG, 0, Nat.le_refl _, by rw [show nI 0 = (0 : Int32) from rfl, Int32.add_zero]; rfl⟩
  | succ f ih =>
    intro o x u h6 hf h0 hx hG
    have z : ∃ j, j ≤ f + 1 ∧ u 3 = u 3 + nI j := ⟨0, by omega, by rw [show nI 0 = (0 : Int32) from rfl, Int32.add_zero]⟩
    have n : ∀ y, y ≤ x → y ≤ 99 → yG (mSend tt (nI sz) most h f (mGoes tt (nI y) u)) ∧ ∃ j, j ≤ f + 1 ∧ mSend tt (nI sz) most h f (mGoes tt (nI y) u) 3 = u 3 + nI j := by
      intro y hyx hy
      obtain ⟨g1, j, g2, g3⟩ := ih (o + 1) (x - y) (mGoes tt (nI y) u) (by rw [mGoes_6, h6, nI_1]) (by omega) (by rw [mGoes_0, h0, pk_sub hyx]) (by omega) (hG.goes h6 (by omega) hy)
      refine ⟨g1, j + 1, by omega, ?_⟩
      rw [g3, mGoes_3, Int32.add_assoc, Int32.add_comm 1, nI_1]
    rw [mSend]
    by_cases h1 : u 0 ≤ 0
    · rw [if_pos h1]; exact ⟨hG, z⟩
    rw [if_neg h1]
    by_cases h2 : most ≤ u 6
    · rw [if_pos h2]; exact ⟨hG, z⟩
    rw [if_neg h2]
    by_cases h3 : nI sz ≤ u 0
    · rw [if_pos h3]
      rw [h0] at h3
      exact n sz ((nI_leI (by omega) (by omega)).mp h3) hsz
    rw [if_neg h3]
    by_cases h4 : h = 0 ∨ u 6 = 0
    · rw [if_pos h4, h0]
      rw [h0] at h3
      have : ¬ sz ≤ x := fun q => h3 (nI_le q (by omega))
      exact n x (Nat.le_refl _) (by omega)
    · rw [if_neg h4]; exact ⟨hG, z⟩
theorem yG.sends {tt most h : Int32} {sz x : Nat} {u : Nat → Int32} (hG : yG u) (hsz : sz ≤ 99) (h0 : u 0 = nI x) (hx : x ≤ 9999) : yG (mSends tt (nI sz) most h u) ∧ ∃ j, j ≤ 6 ∧ mSends tt (nI sz) most h u 3 = u 3 + nI j := by
  obtain ⟨o, h1, h2, h3⟩ := id hG
  unfold mSends
  rw [h1, mN_nI (by omega)]
  obtain ⟨g1, j, g2, g3⟩ := yG.send (tt := tt) (most := most) (h := h) hsz (6 - o) o x u h1 (by omega) h0 hx hG
  exact ⟨g1, j, by omega, g3⟩
theorem mCame_8 {t tt wait s : Int32} {u : Nat → Int32} : mCame t tt wait s u 8 = u 8 + s := by
  unfold mCame
  split
  · rw [mAns_lo (by decide), mCame0_8]
  split
  · split
    · rw [mCame0_8]
    · rw [up_n (by decide), mCame0_8]
  · rw [mAns_lo (by decide), mCame0_8]
theorem yG.comes {t tt wait : Int32} {o : Nat} (ho : o ≤ 6) : ∀ (q i : Nat) (u : Nat → Int32), u 6 = nI o → yG u → (∀ j, i ≤ j → j < i + q → j < o) → yG (mComes t tt wait q i u) ∧ ∃ S, S ≤ 99 * q ∧ mComes t tt wait q i u 8 = u 8 + nI S := by
  intro q
  induction q with
  | zero => intro i u h6 hG hi; exact ⟨hG, 0, Nat.le_refl _, by rw [show nI 0 = (0 : Int32) from rfl, Int32.add_zero]; rfl⟩
  | succ q ih =>
    intro i u h6 hG hi
    rw [mComes]
    by_cases h : u (15 + 2 * i + 1) = t
    · rw [if_pos h]
      obtain ⟨o2, h1, h2, h3⟩ := id hG
      obtain rfl : o2 = o := (nI_eq (by omega) (by omega)).mp (h1.symm.trans h6)
      obtain ⟨s, e, hs⟩ := h3 i (hi i (by omega) (by omega))
      obtain ⟨g1, S, g2, g3⟩ := ih (i + 1) (mCame t tt wait (u (15 + 2 * i)) u) (by rw [mCame_n (Or.inl (by decide)), h6]) (hG.cg (mCame_n (Or.inl (by decide))) (fun j a b => mCame_n (Or.inr ⟨a, b⟩))) (fun j a b => hi j (by omega) (by omega))
      refine ⟨g1, s + S, by omega, ?_⟩
      rw [g3, mCame_8, e, Int32.add_assoc, nI_add]
    · rw [if_neg h]
      exact ⟨hG, 0, by omega, by rw [show nI 0 = (0 : Int32) from rfl, Int32.add_zero]⟩
theorem yG.drop {u : Nat → Int32} {o : Nat} (h : yG u) (h6 : u 6 = nI o) (h0 : 0 < o) (ho : o ≤ 6) : yG (mDrop u) := by
  obtain ⟨o2, h1, h2, h3⟩ := h
  obtain rfl : o2 = o := (nI_eq (by omega) (by omega)).mp (h1.symm.trans h6)
  refine ⟨o2 - 1, by rw [mDrop_6, h6, nI_s1 h0], by omega, fun j hj => ?_⟩
  rw [mDrop_sh h6 ho (by omega) (by omega)]
  exact h3 (j + 1) (by omega)
theorem yG.take {told : Int32} : ∀ (f : Nat) (u : Nat → Int32), yG u → yG (mTake told f u) := by
  intro f
  induction f with
  | zero => intro u h; exact h
  | succ f ih =>
    intro u h
    obtain ⟨o, h6, ho, -⟩ := id h
    rw [mTake]
    by_cases h1 : told ≤ u 5
    · rw [if_pos h1]; exact h
    rw [if_neg h1]
    by_cases h2 : u 6 ≤ 0
    · rw [if_pos h2]; exact h
    · rw [if_neg h2]
      refine ih _ (h.drop h6 ?_ ho)
      rcases Nat.eq_zero_or_pos o with e | e
      · subst e; exact absurd (by rw [h6]; decide) h2
      · exact e
theorem yG.ansC {u : Nat → Int32} (h : yG u) : yG (mAnsC u) := by
  unfold mAnsC
  refine yG.take _ _ (h.cg ?_ (fun j a b => ?_))
  · rw [up_n (by decide), mShA_lo (by decide)]
  · rw [up_n (by omega), mShA_lo (by omega)]
theorem yG.al {t : Int32} : ∀ (f : Nat) (z : Int32) (u : Nat → Int32), yG u → yG (mAL t f z u).2 := by
  intro f
  induction f with
  | zero => intro z u h; exact h
  | succ f ih =>
    intro z u h
    rw [mAL]
    by_cases h1 : u 13 ≤ 0
    · rw [if_pos h1]; exact h
    rw [if_neg h1]
    by_cases h2 : u 27 = t
    · rw [if_neg (fun q => q h2)]; exact ih 1 _ h.ansC
    · rw [if_pos h2]; exact h
theorem yG.r1 {t tt wait : Int32} {u : Nat → Int32} (h : yG u) : yG (mR1 t tt wait u) ∧ ∃ S, S ≤ 594 ∧ mR1 t tt wait u 8 = u 8 + nI S := by
  obtain ⟨o, h1, h2, h3⟩ := id h
  unfold mR1
  rw [h1, mN_nI (by omega)]
  obtain ⟨g1, S, g2, g3⟩ := yG.comes (t := t) (tt := tt) (wait := wait) h2 (o - mN (u 9 - u 5)) (mN (u 9 - u 5)) u h1 h (fun j a b => by omega)
  exact ⟨g1, S, by omega, g3⟩
theorem mTake_0 {told : Int32} : ∀ (f : Nat) (u : Nat → Int32), mTake told f u 0 = u 0 := by
  intro f
  induction f with
  | zero => intro u; rfl
  | succ f ih =>
    intro u
    rw [mTake]
    by_cases h1 : told ≤ u 5
    · rw [if_pos h1]
    rw [if_neg h1]
    by_cases h2 : u 6 ≤ 0
    · rw [if_pos h2]
    · rw [if_neg h2, ih, mDrop_lo (by decide) (by decide) (by decide)]
theorem mAL_0 {t : Int32} : ∀ (f : Nat) (z : Int32) (u : Nat → Int32), (mAL t f z u).2 0 = u 0 := by
  intro f
  induction f with
  | zero => intro z u; rfl
  | succ f ih =>
    intro z u
    rw [mAL]
    by_cases h1 : u 13 ≤ 0
    · rw [if_pos h1]
    rw [if_neg h1]
    by_cases h2 : u 27 = t
    · rw [if_neg (fun q => q h2), ih]
      unfold mAnsC
      rw [mTake_0, up_n (by decide), mShA_lo (by decide)]
    · rw [if_pos h2]
theorem mComes_0 {t tt wait : Int32} : ∀ (q i : Nat) (u : Nat → Int32), mComes t tt wait q i u 0 = u 0 := by
  intro q
  induction q with
  | zero => intro i u; rfl
  | succ q ih =>
    intro i u
    rw [mComes]
    by_cases h : u (15 + 2 * i + 1) = t
    · rw [if_pos h, ih, mCame_n (Or.inl (by decide))]
    · rw [if_neg h]
theorem mR2_0 {t tt : Int32} {u : Nat → Int32} : mR2 t tt u 0 = u 0 := by
  unfold mR2
  split
  · rfl
  · exact mAns_lo (by decide)
/-- a tick keeps the signs of letters -/
theorem yG.row {t tt wait most : Int32} {sz x : Nat} {u : Nat → Int32} (h : yG u) (hsz : sz ≤ 99) (h0 : u 0 = nI x) (hx : x ≤ 9999) : yG (mRow t tt wait (nI sz) most u) ∧ ∃ S, S ≤ 594 ∧ mRow t tt wait (nI sz) most u 8 = u 8 + nI S := by
  obtain ⟨g1, S, g2, g3⟩ := h.r1 (t := t) (tt := tt) (wait := wait)
  refine ⟨?_, S, g2, by rw [mRow_8, g3]⟩
  have g4 : yG (mR2 t tt (mR1 t tt wait u)) := by
    unfold mR2
    split
    · exact g1
    · exact g1.cg (mAns_lo (by decide)) (fun j a b => mAns_mid a b)
  have g5 := yG.al (t := t) (mN ((mR2 t tt (mR1 t tt wait u)) 13)) 0 _ g4
  have e0 : (mAL t (mN ((mR2 t tt (mR1 t tt wait u)) 13)) 0 (mR2 t tt (mR1 t tt wait u))).2 0 = nI x := by
    rw [mAL_0, mR2_0]
    unfold mR1
    rw [mComes_0, h0]
  have g6 : yG (mR3 t tt (nI sz) most (mR2 t tt (mR1 t tt wait u))) := by
    unfold mR3
    split
    · exact g5
    · exact (g5.sends hsz e0 hx).1
  unfold mRow mR4
  exact g6.cg (up_n (by decide)) (fun j a b => up_n (by omega))
