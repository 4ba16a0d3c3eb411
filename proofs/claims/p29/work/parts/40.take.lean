/-! LETTERS ARE ANSWERED -/
/-- as xC1 while an answer that tells b is taken in -/
def xCm (u : Nat → Int32) (W o n c a b d x : Nat) (T : Nat → Nat) : Prop := u 6 = nI o ∧ u 13 = nI n ∧ u 9 = nI c ∧ u 5 = nI a ∧ u 10 = nI d ∧ u 0 = nI x ∧ o ≤ 6 ∧ a ≤ b ∧ b ≤ c ∧ c ≤ a + o ∧ a + o ≤ W ∧ x ≤ 9999 ∧ (∀ j, j < n → u (33 + j) = nI (T j)) ∧ (∀ j, j + 1 < n → T j < T (j + 1)) ∧ (0 < n → b < T 0) ∧ (if n = 0 then b else T (n - 1)) + d = c ∧ (u 11 = -1 ∨ 1 ≤ d)
theorem xCm.to {u : Nat → Int32} {W o n c a d x : Nat} {T : Nat → Nat} (h : xCm u W o n c a a d x T) : xC1 u W o n c a d x T := by
  obtain ⟨h1, h2, h3, h4, h5, h6, h7, h8, h9, h10, h11, h12, h13, h14, h15, h16, h17⟩ := h
  exact ⟨h1, h2, h3, h4, h5, h6, h7, h9, h10, h11, h12, h13, h14, h15, h16, h17⟩
theorem mDrop_lo {u : Nat → Int32} {j : Nat} (h : j < 15) (h5 : j ≠ 5) (h6 : j ≠ 6) : mDrop u j = u j := by
  unfold mDrop
  rw [up_n h5, up_n h6, mSh_lo h]
theorem mDrop_5 {u : Nat → Int32} : mDrop u 5 = u 5 + 1 := up_s
theorem mDrop_sh {u : Nat → Int32} {j o : Nat} (hm : u 6 = nI o) (ho : o ≤ 6) (h : 15 ≤ j) (h2 : j < 15 + 2 * (o - 1)) : mDrop u j = u (j + 2) := by
  unfold mDrop
  rw [up_n (by omega), up_n (by omega), hm, mN_nI (by omega)]
  exact if_pos ⟨h, h2⟩
theorem mDrop_hi {u : Nat → Int32} {j o : Nat} (hm : u 6 = nI o) (ho : o ≤ 6) (h : 27 ≤ j) : mDrop u j = u j := by
  unfold mDrop
  rw [up_n (by omega), up_n (by omega), hm, mN_nI (by omega), mSh_hi (by omega)]
theorem xCm.drop {u : Nat → Int32} {W o n c a b d x : Nat} {T : Nat → Nat} (h : xCm u W o n c a b d x T) (hab : a < b) : xCm (mDrop u) W (o - 1) n c (a + 1) b d x T := by
  obtain ⟨h1, h2, h3, h4, h5, h6, h7, h8, h9, h10, h11, h12, h13, h14, h15, h16, h17⟩ := h
  refine ⟨?_, ?_, ?_, ?_, ?_, ?_, by omega, hab, h9, by omega, by omega, h12, ?_, h14, h15, h16, ?_⟩
  · rw [mDrop_6, h1, nI_s1 (by omega)]
  · rw [mDrop_lo (by decide) (by decide) (by decide), h2]
  · rw [mDrop_lo (by decide) (by decide) (by decide), h3]
  · rw [mDrop_5, h4, nI_1]
  · rw [mDrop_lo (by decide) (by decide) (by decide), h5]
  · rw [mDrop_lo (by decide) (by decide) (by decide), h6]
  · intro j hj
    rw [mDrop_hi h1 h7 (by omega), h13 j hj]
  · rw [mDrop_lo (by decide) (by decide) (by decide)]; exact h17
theorem xC2.drop {u : Nat → Int32} {t lo o c a : Nat} {F : Nat → Nat} (h : xC2 u t lo o c a F) (h6 : u 6 = nI o) (ho : o ≤ 6) (h0 : 0 < o) (hac : a < c) : xC2 (mDrop u) t lo (o - 1) c (a + 1) (fun j => F (j + 1)) := by
  obtain ⟨h1, h2, h3, h4, h5, l, h7, h8, h9⟩ := h
  refine ⟨?_, fun j hj => h2 (j + 1) (by omega), fun j hj => h3 (j + 1) (by omega), fun j a b => h4 (j + 1) (by omega) (by omega), fun j hj => h5 (j + 1) (by omega), l, ?_, ?_, ?_⟩
  · intro j hj
    rw [mDrop_sh h6 ho (by omega) (by omega), show 15 + 2 * j + 1 + 2 = 15 + 2 * (j + 1) + 1 by omega, h1 (j + 1) (by omega)]
  · rw [mDrop_lo (by decide) (by decide) (by decide), h7]
  · intro q
    rw [h9 h0]
    exact h3 (o - 1) (by omega)
  · intro q
    rw [h9 h0]
    dsimp only
    rw [show o - 1 - 1 + 1 = o - 1 by omega]
theorem xC3.drop {u : Nat → Int32} {t n o : Nat} (h : xC3 u t n) (h6 : u 6 = nI o) (ho : o ≤ 6) : xC3 (mDrop u) t n :=
  h.cg (mDrop_lo (by decide) (by decide) (by decide)) (fun j hj => mDrop_hi h6 ho hj)
theorem xC.take {t lo W n c b d x : Nat} {T : Nat → Nat} (hW : W < 2 ^ 30) : ∀ (f o a : Nat) (F : Nat → Nat) (u : Nat → Int32), xCm u W o n c a b d x T → xC2 u t lo o c a F → xC3 u t n → o ≤ f → ∃ o2 F2, xCm (mTake (nI b) f u) W o2 n c b b d x T ∧ xC2 (mTake (nI b) f u) t lo o2 c b F2 ∧ xC3 (mTake (nI b) f u) t n := by
  intro f
  induction f with
  | zero =>
    intro o a F u k1 k2 k3 hf
    have e1 := k1.2.2.2.2.2.2.2.1
    have e2 := k1.2.2.2.2.2.2.2.2.1
    have e3 := k1.2.2.2.2.2.2.2.2.2.1
    obtain rfl : a = b := by omega
    exact ⟨o, F, k1, k2, k3⟩
  | succ f ih =>
    intro o a F u k1 k2 k3 hf
    have e0 := k1.1
    have e5 := k1.2.2.2.1
    have e6 := k1.2.2.2.2.2.2.1
    have e1 := k1.2.2.2.2.2.2.2.1
    have e2 := k1.2.2.2.2.2.2.2.2.1
    have e3 := k1.2.2.2.2.2.2.2.2.2.1
    have e4 := k1.2.2.2.2.2.2.2.2.2.2.1
    rw [mTake]
    by_cases h : a = b
    · subst h
      rw [if_pos (by rw [e5]; exact nI_le (Nat.le_refl _) (by omega))]
      exact ⟨o, F, k1, k2, k3⟩
    · rw [if_neg (by rw [e5]; exact nI_ge (by omega) (by omega)), if_neg (by rw [e0]; exact nI_nle (by omega) (by omega))]
      exact ih (o - 1) (a + 1) _ (mDrop u) (k1.drop (by omega)) (k2.drop e0 e6 (by omega) (by omega)) (k3.drop e0 e6) (by omega)
/-- an answer that tells T 0 comes in -/
theorem mShA_27 {u : Nat → Int32} {j n : Nat} (hn : n ≤ 6) (h : j < n - 1) : mShA u (n - 1) (27 + j) = u (27 + (j + 1)) := if_pos (by omega)
theorem mShA_33 {u : Nat → Int32} {j n : Nat} (hn : n ≤ 6) (h : j < n - 1) : mShA u (n - 1) (33 + j) = u (33 + (j + 1)) := if_pos (by omega)
theorem pI_ansC {u : Nat → Int32} {t lo W o n c a d x : Nat} {T F : Nat → Nat} (k1 : xC1 u W o n c a d x T) (k2 : xC2 u t lo o c a F) (k3 : xC3 u t n) (h0 : 0 < n) (ht : u 27 = nI t) (hW : W < 2 ^ 30) (ht2 : t < 2 ^ 29) : ∃ o2 F2, xC1 (mAnsC u) W o2 (n - 1) c (T 0) d x (fun j => T (j + 1)) ∧ xC2 (mAnsC u) t lo o2 c (T 0) F2 ∧ xC3 (mAnsC u) t (n - 1) := by
  have hcap := k1.cap
  have htg := k1.tge
  obtain ⟨h1, h2, h3, h4, h5, h6, h7, h8, h9, h10, h11, h12, h13, h14, h15, h16⟩ := k1
  have hn : n ≤ 6 := by omega
  rw [if_neg (by omega)] at h15
  have hTc : T 0 ≤ c := by
    have e : ∀ q, q < n → T 0 ≤ T q := by
      intro q
      induction q with
      | zero => intro _; exact Nat.le_refl _
      | succ q ih => intro hq; have := h13 q hq; have := ih (by omega); omega
    have := e (n - 1) (by omega)
    omega
  have b1 : ∀ j, j < 27 → j ≠ 13 → upd (mShA u (n - 1)) 13 (u 13 - 1) j = u j := fun j p q => by rw [up_n q, mShA_lo p]
  have km : xCm (upd (mShA u (n - 1)) 13 (u 13 - 1)) W o (n - 1) c a (T 0) d x (fun j => T (j + 1)) := by
    refine ⟨?_, ?_, ?_, ?_, ?_, ?_, h7, ?_, hTc, h9, h10, h11, ?_, fun j hj => h13 (j + 1) (by omega), fun q => h13 0 (by omega), ?_, ?_⟩
    · rw [b1 _ (by decide) (by decide), h1]
    · rw [up_s, h2, nI_s1 h0]
    · rw [b1 _ (by decide) (by decide), h3]
    · rw [b1 _ (by decide) (by decide), h4]
    · rw [b1 _ (by decide) (by decide), h5]
    · rw [b1 _ (by decide) (by decide), h6]
    · have := h14 h0; omega
    · intro j hj
      rw [up_n (by omega), mShA_33 hn hj, h12 (j + 1) (by omega)]
    · by_cases hq : n - 1 = 0
      · rw [if_pos hq]
        rw [hq] at h15
        exact h15
      · rw [if_neg hq]
        dsimp only
        rw [show n - 1 - 1 + 1 = n - 1 by omega]
        exact h15
    · rw [b1 _ (by decide) (by decide)]; exact h16
  have km2 : xC2 (upd (mShA u (n - 1)) 13 (u 13 - 1)) t lo o c a F := k2.cg (b1 _ (by decide) (by decide)) (fun j p q => b1 j q (by omega)) h7
  have km3 : xC3 (upd (mShA u (n - 1)) 13 (u 13 - 1)) t (n - 1) := by
    obtain ⟨l, m1, m2, m3, m4⟩ := k3
    refine ⟨l, by rw [b1 _ (by decide) (by decide), m1], m2, fun q => ?_, fun q => ?_⟩
    · have e := m4 h0
      rw [q] at e
      have e2 : l = t := (nI_eq (by omega) (by omega)).mp (e.symm.trans ht)
      omega
    · rw [up_n (by omega), mShA_27 hn (by omega), show n - 1 - 1 + 1 = n - 1 by omega]
      exact m4 h0
  obtain ⟨o2, F2, r1, r2, r3⟩ := xC.take (b := T 0) hW o o a F _ km km2 km3 (Nat.le_refl _)
  have e : mAnsC u = mTake (nI (T 0)) o (upd (mShA u (n - 1)) 13 (u 13 - 1)) := by
    unfold mAnsC
    rw [show u 33 = nI (T 0) from h12 0 h0, h1, mN_nI (by omega), h2, mN_nI (by omega)]
  rw [e]
  exact ⟨o2, F2, r1.to, r2, r3⟩
/-- all answers that are due come; first: whether any did -/
def mAL (t : Int32) : Nat → Int32 → (Nat → Int32) → Int32 × (Nat → Int32)
  | 0, z, u => (z, u)
  | f + 1, z, u => if u 13 ≤ 0 then (z, u) else if ¬ u 27 = t then (z, u) else mAL t f 1 (mAnsC u)
theorem pL_X6_answers {σ : xS} {ar k t lo W c d x : Nat} {KK : Int32 → xS → Option xS} (hk : k < 4) (h1 : σ ar 1 = nI t) (hW : W < 2 ^ 30) (ht : t < 2 ^ 29) : ∀ (n fuel o a : Nat) (z : Int32) (T F : Nat → Nat) (u : Nat → Int32), xC1 u W o n c a d x T → xC2 u t lo o c a F → xC3 u t n → n < fuel → L_X6_writerTicks_96 187 ar (nI k) KK fuel z (xX σ ar k u) = KK (mAL (nI t) n z u).1 (xX σ ar k (mAL (nI t) n z u).2) ∧ xI (mAL (nI t) n z u).2 t lo W := by
  intro n
  induction n with
  | zero =>
    intro fuel o a z T F u k1 k2 k3 hf
    obtain ⟨g, rfl⟩ : ∃ g, fuel = g + 1 := ⟨fuel - 1, by omega⟩
    refine ⟨?_, o, 0, c, a, d, x, T, F, k1, k2, k3⟩
    rw [L_X6_writerTicks_96, mAL]
    simp only [xof_13 hk, xbI_s]
    rw [if_pos (by rw [k1.2.1]; decide)]
  | succ n ih =>
    intro fuel o a z T F u k1 k2 k3 hf
    obtain ⟨g, rfl⟩ : ∃ g, fuel = g + 1 := ⟨fuel - 1, by omega⟩
    have hcap := k1.cap
    have ho := k1.2.2.2.2.2.2.1
    have hca := k1.2.2.2.2.2.2.2.2.1
    have h13 : ¬ u 13 ≤ 0 := by rw [k1.2.1]; exact nI_nle (by omega) (by omega)
    rw [L_X6_writerTicks_96, mAL, if_neg h13]
    simp only [xof_13 hk, xbI_s, xof_27 hk, xin_1, if_true, cl_1, xlet_s, xX_hd (show 1 < 31 by decide), h1]
    rw [if_neg h13]
    by_cases h : u 27 = nI t
    · rw [if_neg (fun q => q h), if_neg (fun q => q h), pF_X6_answerComes hk k1.1 ho k1.2.1 (by omega) (by omega)]
      simp only [xbV_s]
      obtain ⟨o2, F2, r1, r2, r3⟩ := pI_ansC k1 k2 k3 (by omega) h hW ht
      exact ih g o2 (T 0) 1 _ F2 (mAnsC u) r1 r2 r3 (by omega)
    · rw [if_pos h, if_pos h]
      exact ⟨rfl, o, n + 1, c, a, d, x, T, F, k1, k2, k3⟩
