/-! THE REFERENCE'S WRITER -/
theorem i10 : ((1 : Int32) = 0) = False := eq_false (by decide)
theorem i00 : ((0 : Int32) = 0) = True := eq_true rfl
theorem mGoes_6 {tt s : Int32} {u : Nat → Int32} : mGoes tt s u 6 = u 6 + 1 := by
  unfold mGoes
  rw [up_n (show 6 ≠ 0 by decide), up_n (show 6 ≠ 3 by decide), up_n (show 6 ≠ 7 by decide), up_s]
def mSend (tt size most h : Int32) : Nat → (Nat → Int32) → (Nat → Int32)
  | 0, u => u
  | f + 1, u => if u 0 ≤ 0 then u else if most ≤ u 6 then u else if size ≤ u 0 then mSend tt size most h f (mGoes tt size u) else if h = 0 ∨ u 6 = 0 then mSend tt size most h f (mGoes tt (u 0) u) else u
theorem pL_X6_sends {σ : xS} {a k m : Nat} {h : Int32} {KK : xS → Option (Int32 × xS)} (hk : k < 4) (hm : σ a 6 = nI m) (hm6 : m ≤ 6) : ∀ (f n fuel : Nat) (u : Nat → Int32), u 6 = nI n → n + f = 6 → f + 1 < fuel → L_X6_sends_10 187 a (nI k) h KK fuel 1 (xX σ a k u) = KK (xX σ a k (mSend (σ a 1 + σ a 3) (σ a 5) (σ a 6) h f u)) := by
  intro f
  induction f with
  | zero =>
    intro n fuel u h6 hn hf
    obtain ⟨g, rfl⟩ : ∃ g, fuel = g + 1 := ⟨fuel - 1, by omega⟩
    obtain rfl : n = 6 := by omega
    rw [L_X6_sends_10]
    simp only [i10, if_false, xof_0 hk, xbI_s, xof_6 hk, xin_6, if_true, cl_6, xlet_s, xX_hd (show 6 < 31 by decide), mSend]
    by_cases h0 : u 0 ≤ 0
    · rw [if_pos h0]
    · rw [if_neg h0, if_pos (by rw [hm, h6]; exact nI_le hm6 (by decide))]
  | succ f ih =>
    intro n fuel u h6 hn hf
    obtain ⟨g, rfl⟩ : ∃ g, fuel = g + 1 := ⟨fuel - 1, by omega⟩
    have hl : ∀ s, F_X6_letterGoes 187 a (nI k) s (xX σ a k u) = some (xX σ a k (mGoes (σ a 1 + σ a 3) s u)) := fun s => pF_X6_letterGoes hk (by omega) h6
    have hi : ∀ s, L_X6_sends_10 187 a (nI k) h KK g 1 (xX σ a k (mGoes (σ a 1 + σ a 3) s u)) = KK (xX σ a k (mSend (σ a 1 + σ a 3) (σ a 5) (σ a 6) h f (mGoes (σ a 1 + σ a 3) s u))) := fun s => ih (n + 1) g _ (by rw [mGoes_6, h6, nI_1]) (by omega) (by omega)
    rw [L_X6_sends_10, mSend]
    simp only [i10, if_false, xof_0 hk, xbI_s, xof_6 hk, xin_6, xin_5, if_true, cl_6, cl_5, xlet_s, xjn_s, xX_hd (show 6 < 31 by decide), xX_hd (show 5 < 31 by decide), hl, xbV_s, hi, i00, not_true_eq_false, not_false_eq_true]
    by_cases h0 : u 0 ≤ 0
    · rw [if_pos h0, if_pos h0]
    rw [if_neg h0, if_neg h0]
    by_cases h1 : σ a 6 ≤ u 6
    · rw [if_pos h1, if_pos h1]
    rw [if_neg h1, if_neg h1]
    by_cases h2 : u 0 < σ a 5
    · rw [if_pos h2, if_neg (show ¬ σ a 5 ≤ u 0 from Int32.not_le.mpr h2)]
      by_cases hh : h = 0
      · rw [if_pos hh, if_pos (Or.inl hh)]
      · rw [if_neg hh]
        by_cases ho : u 6 = 0
        · rw [if_neg (fun q => q ho), if_pos (Or.inr ho)]
        · rw [if_pos ho, if_neg (fun q => q.elim hh ho)]
          obtain ⟨g2, rfl⟩ : ∃ g2, g = g2 + 1 := ⟨g - 1, by omega⟩
          rw [L_X6_sends_10, if_pos rfl]
    · rw [if_neg h2, if_pos (show σ a 5 ≤ u 0 from Int32.not_lt.mp h2)]
def mSends (tt size most h : Int32) (u : Nat → Int32) : Nat → Int32 := mSend tt size most h (6 - mN (u 6)) u
theorem pF_X6_sends {σ : xS} {a k m n : Nat} {h : Int32} {u : Nat → Int32} (hk : k < 4) (hm : σ a 6 = nI m) (hm6 : m ≤ 6) (h6 : u 6 = nI n) (hn : n ≤ 6) : F_X6_sends 187 a (nI k) h (xX σ a k u) = some (mSends (σ a 1 + σ a 3) (σ a 5) (σ a 6) h u 3 - u 3, xX σ a k (mSends (σ a 1 + σ a 3) (σ a 5) (σ a 6) h u)) := by
  unfold F_X6_sends mSends
  simp only [xof_3 hk, xbI_s]
  rw [pL_X6_sends hk hm hm6 (6 - n) n 1000 u h6 (by omega) (by omega), h6, mN_nI (by omega)]
  simp only [xof_3 hk, xbI_s]
def mAsIs (tt size most : Int32) (u : Nat → Int32) : Nat → Int32 := mSends tt size most (if u 1 = 1 then 1 else 0) u
theorem pF_X6_asItDoes {σ : xS} {a k m n : Nat} {u : Nat → Int32} (hk : k < 4) (hm : σ a 6 = nI m) (hm6 : m ≤ 6) (h6 : u 6 = nI n) (hn : n ≤ 6) : F_X6_sendsAsItDoes 187 a (nI k) (xX σ a k u) = some (mAsIs (σ a 1 + σ a 3) (σ a 5) (σ a 6) u 3 - u 3, xX σ a k (mAsIs (σ a 1 + σ a 3) (σ a 5) (σ a 6) u)) := by
  unfold F_X6_sendsAsItDoes mAsIs
  simp only [xof_1 hk, xbI_s, pF_X6_sends hk hm hm6 h6 hn]
  by_cases h1 : u 1 = 1
  · rw [if_neg (fun q => q h1), if_pos h1]
  · rw [if_pos h1, if_neg h1]
def mWrite (tt size most s : Int32) (u : Nat → Int32) : Nat → Int32 := mAsIs tt size most (upd (upd u 0 (u 0 + s)) 2 (u 2 + s))
theorem pF_X6_writeOn {σ : xS} {a k m n : Nat} {s : Int32} {u : Nat → Int32} (hk : k < 4) (hm : σ a 6 = nI m) (hm6 : m ≤ 6) (h6 : u 6 = nI n) (hn : n ≤ 6) : F_X6_writeOn 187 a (nI k) s (xX σ a k u) = some (mWrite (σ a 1 + σ a 3) (σ a 5) (σ a 6) s u 3 - u 3, xX σ a k (mWrite (σ a 1 + σ a 3) (σ a 5) (σ a 6) s u)) := by
  unfold F_X6_writeOn mWrite
  simp only [xof_0 hk, xbI_s, xly_0 hk, xbV_s, xof_2 hk, xly_2 hk, up_n (show 2 ≠ 0 by decide)]
  rw [pF_X6_asItDoes hk hm hm6 (n := n) (by rw [up_n (show 6 ≠ 2 by decide), up_n (show 6 ≠ 0 by decide), h6]) hn]
  simp only [xbI_s, up_n (show 3 ≠ 2 by decide), up_n (show 3 ≠ 0 by decide)]
/-- an answer sets out -/
def mAns (tt : Int32) (u : Nat → Int32) : Nat → Int32 :=
  upd (upd (upd (upd (upd (upd (upd u (27 + mN (u 13)) (mMax tt (u 14))) (33 + mN (u 13)) (u 9)) 13 (u 13 + 1)) 14 (mMax tt (u 14))) 12 (u 12 + 1)) 10 0) 11 (-1)
theorem pF_X6_answers {σ : xS} {a k n : Nat} {u : Nat → Int32} (hk : k < 4) (hn : n < 6) (h13 : u 13 = nI n) : F_X6_answers 187 a (nI k) (xX σ a k u) = some (xX σ a k (mAns (σ a 1 + σ a 3) u)) := by
  have hm : mN (u 13) = n := by rw [h13, mN_nI (by omega)]
  have hr : ∀ z, (upd (upd (upd (upd u (27 + n) z) (33 + n) (u 9)) 13 (nI (n + 1))) 14 z) 12 = u 12 := fun z => by
    rw [up_n (show 12 ≠ 14 by decide), up_n (show 12 ≠ 13 by decide), up_n (show 12 ≠ 33 + n by omega), up_n (show 12 ≠ 27 + n by omega)]
  have hr9 : ∀ z, (upd u (27 + n) z) 9 = u 9 := fun z => by rw [up_n (show 9 ≠ 27 + n by omega)]
  unfold F_X6_answers mAns
  rw [hm]
  simp only [xin_1, xin_3, cl_1, cl_3, if_true, xlet_s, xjn_s, xX_hd (show 1 < 31 by decide), xX_hd (show 3 < 31 by decide), xof_14 hk, xbI_s, xof_13 hk, h13, nI_27, nI_33, nI_1, xX_lay hk (show 27 + n < 39 by omega), xX_lay hk (show 33 + n < 39 by omega), xbV_s, xof_9 hk, xly_13 hk, xly_14 hk, xof_12 hk, xly_12 hk, xly_10 hk, xly_11 hk, hr, hr9]
  by_cases hc : u 14 ≤ σ a 1 + σ a 3
  · rw [if_pos hc]; simp only [mMax, if_pos hc]
  · rw [if_neg hc]; simp only [mMax, if_neg hc]
