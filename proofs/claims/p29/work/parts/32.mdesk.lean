/-! THE REFERENCE'S DESK -/
def mCame0 (s : Int32) (u : Nat → Int32) : Nat → Int32 := upd (upd (upd u 8 (u 8 + s)) 9 (u 9 + 1)) 10 (u 10 + 1)
/-- a letter comes -/
def mCame (t tt wait s : Int32) (u : Nat → Int32) : Nat → Int32 :=
  if u 10 + 1 = 2 then mAns tt (mCame0 s u) else if ¬ wait = 0 then (if ¬ u 11 = -1 then mCame0 s u else upd (mCame0 s u) 11 (t + wait)) else mAns tt (mCame0 s u)
theorem pF_X6_letterComes {σ : xS} {a k n : Nat} {s : Int32} {u : Nat → Int32} (hk : k < 4) (hn : n < 6) (h13 : u 13 = nI n) : F_X6_letterComes 187 a (nI k) s (xX σ a k u) = some (xX σ a k (mCame (σ a 1) (σ a 1 + σ a 3) (σ a 4) s u)) := by
  have ha : F_X6_answers 187 a (nI k) (xX σ a k (mCame0 s u)) = some (xX σ a k (mAns (σ a 1 + σ a 3) (mCame0 s u))) := pF_X6_answers hk hn (by unfold mCame0; rw [up_n (show 13 ≠ 10 by decide), up_n (show 13 ≠ 9 by decide), up_n (show 13 ≠ 8 by decide), h13])
  have h11 : mCame0 s u 11 = u 11 := by unfold mCame0; rw [up_n (show 11 ≠ 10 by decide), up_n (show 11 ≠ 9 by decide), up_n (show 11 ≠ 8 by decide)]
  unfold F_X6_letterComes mCame
  simp only [xof_8 hk, xbI_s, xly_8 hk, xbV_s, xof_9 hk, xly_9 hk, xof_10 hk, xly_10 hk, up_s, up_n (show 9 ≠ 8 by decide), up_n (show 10 ≠ 9 by decide), up_n (show 10 ≠ 8 by decide)]
  rw [show upd (upd (upd u 8 (u 8 + s)) 9 (u 9 + 1)) 10 (u 10 + 1) = mCame0 s u from rfl]
  simp only [ha, xbV_s, xin_4, xin_1, if_true, cl_4, cl_1, xlet_s, xX_hd (show 4 < 31 by decide), xX_hd (show 1 < 31 by decide), xof_11 hk, xbI_s, h11, xly_11 hk]
  by_cases h2 : u 10 + 1 = 2
  · rw [if_pos h2, if_pos h2]
  rw [if_neg h2, if_neg h2]
  by_cases hw : σ a 4 = 0
  · rw [if_neg (fun q => q hw), if_neg (fun q => q hw)]
  rw [if_pos hw, if_pos hw]
  by_cases hq : u 11 = -1
  · rw [if_neg (fun q => q hq), if_neg (fun q => q hq)]
  · rw [if_pos hq, if_pos hq]
theorem nI_15 (n : Nat) : (15 : Int32) + nI n = nI (15 + n) := by rw [show (15 : Int32) = nI 15 from rfl, nI_add]
theorem nI_34 (n : Nat) : (34 : Int32) + nI n = nI (34 + n) := by rw [show (34 : Int32) = nI 34 from rfl, nI_add]
theorem nI_p2 (n : Nat) : nI n + 2 = nI (n + 2) := nI_add n 2
theorem nI_2x (n : Nat) : (2 : Int32) * nI n = nI (2 * n) := pk_mul 2 n
theorem nI_s1 {n : Nat} (h : 0 < n) : nI n - 1 = nI (n - 1) := pk_sub (b := 1) h
/-- the first letter of a row goes away: i of its ints are moved -/
def mSh (u : Nat → Int32) (i : Nat) : Nat → Int32 := fun j => if 15 ≤ j ∧ j < 15 + i then u (j + 2) else u j
theorem mSh_0 {u : Nat → Int32} : mSh u 0 = u := funext fun j => if_neg (by omega)
theorem mSh_lo {u : Nat → Int32} {i j : Nat} (h : j < 15) : mSh u i j = u j := if_neg (by omega)
theorem mSh_hi {u : Nat → Int32} {i j : Nat} (h : 15 + i ≤ j) : mSh u i j = u j := if_neg (by omega)
theorem mSh_step {u : Nat → Int32} {i : Nat} : upd (mSh u i) (15 + i) (u (15 + i + 2)) = mSh u (i + 1) := by
  funext j
  unfold upd mSh
  by_cases h : j = 15 + i
  · subst h
    rw [if_pos rfl, if_pos (by omega)]
  · rw [if_neg h]
    by_cases h2 : 15 ≤ j ∧ j < 15 + i
    · rw [if_pos h2, if_pos (by omega)]
    · rw [if_neg h2, if_neg (by omega)]
theorem pL_X6_first {σ : xS} {a k q : Nat} {u : Nat → Int32} {KK : xS → Option xS} (hk : k < 4) (hq : q ≤ 6) : ∀ (d i fuel : Nat), i + d = 2 * q → d < fuel → L_X6_firstAnswered_12 187 a (nI k) (nI q) KK fuel (nI i) (xX σ a k (mSh u i)) = KK (xX σ a k (mSh u (2 * q))) := by
  intro d
  induction d with
  | zero =>
    intro i fuel hi hf
    obtain ⟨g, rfl⟩ : ∃ g, fuel = g + 1 := ⟨fuel - 1, by omega⟩
    obtain rfl : i = 2 * q := by omega
    rw [L_X6_firstAnswered_12, nI_2x, if_pos (nI_le (Nat.le_refl _) (by omega))]
  | succ d ih =>
    intro i fuel hi hf
    obtain ⟨g, rfl⟩ : ∃ g, fuel = g + 1 := ⟨fuel - 1, by omega⟩
    rw [L_X6_firstAnswered_12, nI_2x, if_neg (nI_ge (by omega) (by omega)), nI_15, nI_p2, xX_of hk (show 15 + i + 2 < 39 by omega)]
    simp only [xbI_s, xX_lay hk (show 15 + i < 39 by omega), xbV_s, xlet_s, nI_1]
    rw [mSh_hi (show 15 + i ≤ 15 + i + 2 by omega), mSh_step, ih (i + 1) g (by omega) (by omega)]
def mDrop (u : Nat → Int32) : Nat → Int32 := upd (upd (mSh u (2 * (mN (u 6) - 1))) 6 (u 6 - 1)) 5 (u 5 + 1)
theorem pF_X6_firstAnswered {σ : xS} {a k o : Nat} {u : Nat → Int32} (hk : k < 4) (h6 : u 6 = nI o) (h0 : 0 < o) (ho : o ≤ 6) : F_X6_firstAnswered 187 a (nI k) (xX σ a k u) = some (xX σ a k (mDrop u)) := by
  have e := pL_X6_first (σ := σ) (a := a) (u := u) (q := o - 1) (KK := fun (σ4 : xS) => xbV (F_X6_lay 187 a (nI k) 6 (nI (o - 1)) σ4) (fun (σ5 : xS) => xbI (F_X6_of 187 a (nI k) 5 σ5) (fun (zz7 : Int32) (σ6 : xS) => xbV (F_X6_lay 187 a (nI k) 5 (zz7 + 1) σ6) (fun (σ8 : xS) => some σ8)))) hk (by omega) (2 * (o - 1)) 0 1000 (by omega) (by omega)
  rw [mSh_0] at e
  unfold F_X6_firstAnswered
  simp only [xof_6 hk, xbI_s, h6, xlet_s, nI_s1 h0]
  refine (show _ = _ from e).trans ?_
  simp only [xly_6 hk, xbV_s, xof_5 hk, xly_5 hk, xbI_s, up_n (show 5 ≠ 6 by decide), mSh_lo (show 5 < 15 by decide), mDrop, h6, nI_s1 h0, mN_nI (show o < 2 ^ 31 by omega)]
/-- the answers' rows move -/
def mShA (u : Nat → Int32) (i : Nat) : Nat → Int32 := fun j => if (27 ≤ j ∧ j < 27 + i) ∨ (33 ≤ j ∧ j < 33 + i) then u (j + 1) else u j
theorem mShA_0 {u : Nat → Int32} : mShA u 0 = u := funext fun j => if_neg (by omega)
theorem mShA_lo {u : Nat → Int32} {i j : Nat} (h : j < 27) : mShA u i j = u j := if_neg (by omega)
theorem mShA_step {u : Nat → Int32} {i : Nat} (hi : i < 6) : upd (upd (mShA u i) (27 + i) (u (27 + i + 1))) (33 + i) (u (34 + i)) = mShA u (i + 1) := by
  funext j
  unfold upd mShA
  by_cases h : j = 33 + i
  · subst h
    rw [if_pos rfl, if_pos (by omega)]
    congr 1
    omega
  · rw [if_neg h]
    by_cases h1 : j = 27 + i
    · subst h1
      rw [if_pos rfl, if_pos (by omega)]
    · rw [if_neg h1]
      by_cases h2 : (27 ≤ j ∧ j < 27 + i) ∨ (33 ≤ j ∧ j < 33 + i)
      · rw [if_pos h2, if_pos (by omega)]
      · rw [if_neg h2, if_neg (by omega)]
theorem pL_X6_ansRow {σ : xS} {a k q : Nat} {u : Nat → Int32} {KK : xS → Option xS} (hk : k < 4) (hq : q ≤ 5) : ∀ (d i fuel : Nat), i + d = q → d < fuel → L_X6_answerComes_21 187 a (nI k) (nI q) KK fuel (nI i) (xX σ a k (mShA u i)) = KK (xX σ a k (mShA u q)) := by
  intro d
  induction d with
  | zero =>
    intro i fuel hi hf
    obtain ⟨g, rfl⟩ : ∃ g, fuel = g + 1 := ⟨fuel - 1, by omega⟩
    obtain rfl : i = q := by omega
    rw [L_X6_answerComes_21, if_pos (nI_le (Nat.le_refl _) (by omega))]
  | succ d ih =>
    intro i fuel hi hf
    obtain ⟨g, rfl⟩ : ∃ g, fuel = g + 1 := ⟨fuel - 1, by omega⟩
    have e1 : mShA u i (27 + i + 1) = u (27 + i + 1) := if_neg (by omega)
    have e2 : ∀ v, upd (mShA u i) (27 + i) v (34 + i) = u (34 + i) := fun v => by rw [up_n (by omega)]; exact if_neg (by omega)
    rw [L_X6_answerComes_21, if_neg (nI_ge (by omega) (by omega)), nI_27, nI_1, xX_of hk (show 27 + i + 1 < 39 by omega)]
    simp only [xbI_s, xX_lay hk (show 27 + i < 39 by omega), xbV_s, nI_34, xX_of hk (show 34 + i < 39 by omega), nI_33, xX_lay hk (show 33 + i < 39 by omega), xlet_s, e1, e2, nI_1]
    rw [mShA_step (by omega), ih (i + 1) g (by omega) (by omega)]
def mTake (told : Int32) : Nat → (Nat → Int32) → (Nat → Int32)
  | 0, u => u
  | f + 1, u => if told ≤ u 5 then u else if u 6 ≤ 0 then u else mTake told f (mDrop u)
theorem mDrop_6 {u : Nat → Int32} : mDrop u 6 = u 6 - 1 := by unfold mDrop; rw [up_n (by decide), up_s]
theorem pL_X6_take {σ : xS} {a k : Nat} {told : Int32} {KK : xS → Option xS} (hk : k < 4) : ∀ (f fuel : Nat) (u : Nat → Int32), u 6 = nI f → f ≤ 6 → f < fuel → L_X6_answerComes_83 187 a (nI k) told KK fuel (xX σ a k u) = KK (xX σ a k (mTake told f u)) := by
  intro f
  induction f with
  | zero =>
    intro fuel u h6 hn hf
    obtain ⟨g, rfl⟩ : ∃ g, fuel = g + 1 := ⟨fuel - 1, by omega⟩
    rw [L_X6_answerComes_83, mTake]
    simp only [xof_5 hk, xbI_s, xof_6 hk, h6]
    by_cases h : told ≤ u 5
    · rw [if_pos h]
    · rw [if_neg h, if_pos (by decide)]
  | succ f ih =>
    intro fuel u h6 hn hf
    obtain ⟨g, rfl⟩ : ∃ g, fuel = g + 1 := ⟨fuel - 1, by omega⟩
    rw [L_X6_answerComes_83, mTake]
    simp only [xof_5 hk, xbI_s, xof_6 hk, pF_X6_firstAnswered (σ := σ) (a := a) hk h6 (by omega) hn, xbV_s]
    by_cases h : told ≤ u 5
    · rw [if_pos h, if_pos h]
    rw [if_neg h, if_neg h]
    have h0 : ¬ u 6 ≤ 0 := by rw [h6]; exact nI_nle (by omega) (by omega)
    rw [if_neg h0, if_neg h0, ih g (mDrop u) (by rw [mDrop_6, h6, nI_s1 (by omega)]; rfl) (by omega) (by omega)]
/-- an answer comes -/
def mAnsC (u : Nat → Int32) : Nat → Int32 := mTake (u 33) (mN (u 6)) (upd (mShA u (mN (u 13) - 1)) 13 (u 13 - 1))
theorem pF_X6_answerComes {σ : xS} {a k o n : Nat} {u : Nat → Int32} (hk : k < 4) (h6 : u 6 = nI o) (ho : o ≤ 6) (h13 : u 13 = nI n) (h0 : 0 < n) (hn : n ≤ 6) : F_X6_answerComes 187 a (nI k) (xX σ a k u) = some (xX σ a k (mAnsC u)) := by
  have e := pL_X6_ansRow (σ := σ) (a := a) (u := u) (q := n - 1) (KK := fun (σ6 : xS) => xbV (F_X6_lay 187 a (nI k) 13 (nI (n - 1)) σ6) (fun (σ7 : xS) => L_X6_answerComes_83 187 a (nI k) (u 33) (fun (σ8 : xS) => some σ8) 1000 σ7)) hk (by omega) (n - 1) 0 1000 (by omega) (by omega)
  rw [mShA_0] at e
  have e2 := pL_X6_take (σ := σ) (a := a) (told := u 33) (KK := fun (σ8 : xS) => some σ8) hk o 1000 (upd (mShA u (n - 1)) 13 (nI (n - 1))) (by rw [up_n (by decide), mShA_lo (by decide), h6]) ho (by omega)
  unfold F_X6_answerComes mAnsC
  simp only [xof_33 hk, xbI_s, xof_13 hk, h13, xlet_s, nI_s1 h0, h6, mN_nI (show o < 2 ^ 31 by omega), mN_nI (show n < 2 ^ 31 by omega)]
  refine (show _ = _ from e).trans ?_
  simp only [xly_13 hk, xbV_s]
  exact e2
