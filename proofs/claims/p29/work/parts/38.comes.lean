/-! LETTERS COME -/
theorem mCame_n {t tt wait s : Int32} {u : Nat → Int32} {j : Nat} (h : j < 8 ∨ 15 ≤ j ∧ j < 27) : mCame t tt wait s u j = u j := by
  have h0 : mCame0 s u j = u j := mCame0_n (by omega) (by omega) (by omega)
  have h1 : mAns tt (mCame0 s u) j = u j := by
    rcases h with h | h
    · rw [mAns_lo (by omega), h0]
    · rw [mAns_mid h.1 h.2, h0]
  unfold mCame
  split
  · exact h1
  split
  · split
    · exact h0
    · rw [up_n (by omega), h0]
  · exact h1
theorem xC3.came {u : Nat → Int32} {W o n c a d x t r : Nat} {T : Nat → Nat} {t1 wait s : Int32} (h : xC3 u t n) (k : xC1 u W o n c a d x T) (hc : c < a + o) (hr : r ≤ 9) (ht : t < 2 ^ 29) : ∃ n2 d2 T2, xC1 (mCame t1 (nI (t + r)) wait s u) W o n2 (c + 1) a d2 x T2 ∧ xC3 (mCame t1 (nI (t + r)) wait s u) t n2 := by
  have k0 := k.came0 (s := s) hc
  have h0 : xC3 (mCame0 s u) t n := h.cg (mCame0_n (by decide) (by decide) (by decide)) (fun j hj => mCame0_n (by omega) (by omega) (by omega))
  have ka := k0.ans (tt := nI (t + r)) (by omega)
  have ha := h0.ans k0.2.1 ka.1 hr ht
  unfold mCame
  by_cases h1 : u 10 + 1 = 2
  · rw [if_pos h1]; exact ⟨_, _, _, ka.2, ha⟩
  rw [if_neg h1]
  by_cases h2 : wait = 0
  · rw [if_neg (fun q => q h2)]; exact ⟨_, _, _, ka.2, ha⟩
  rw [if_pos h2]
  by_cases h3 : u 11 = -1
  · rw [if_neg (fun q => q h3)]
    exact ⟨_, _, _, k0.when (by omega), h0.cg (up_n (by decide)) (fun j hj => up_n (by omega))⟩
  · rw [if_pos h3]; exact ⟨_, _, _, k0, h0⟩
/-- the letters that are due come, from the i-th on -/
def mComes (t tt wait : Int32) : Nat → Nat → (Nat → Int32) → (Nat → Int32)
  | 0, _, u => u
  | q + 1, i, u => if u (15 + 2 * i + 1) = t then mComes t tt wait q (i + 1) (mCame t tt wait (u (15 + 2 * i)) u) else u
theorem xC2.came {u : Nat → Int32} {t o c a : Nat} {F : Nat → Nat} {t1 tt wait s : Int32} (h : xC2 u t t o c a F) (ho : o ≤ 6) (hF : F (c - a) = t) (hac : a ≤ c) : xC2 (mCame t1 tt wait s u) t t o (c + 1) a F := by
  have h' := h.cg (v := mCame t1 tt wait s u) (mCame_n (Or.inl (by decide))) (fun j a b => mCame_n (Or.inr ⟨a, b⟩)) ho
  obtain ⟨h1, h2, h3, h4, h5, h6⟩ := h'
  refine ⟨h1, h2, fun j hj => ?_, fun j a b => h4 j (by omega) b, h5, h6⟩
  by_cases hjc : j = c - a
  · rw [hjc, hF]; exact Nat.le_refl _
  · exact h3 j (by omega)
theorem srt {F : Nat → Nat} {o : Nat} (h : ∀ j, j + 1 < o → F j ≤ F (j + 1)) {i : Nat} : ∀ q, i + q < o → F i ≤ F (i + q) := by
  intro q
  induction q with
  | zero => intro _; exact Nat.le_refl _
  | succ q ih => intro hq; exact Nat.le_trans (ih (by omega)) (h (i + q) hq)
theorem xC2.later {u : Nat → Int32} {t o c a : Nat} {F : Nat → Nat} (h : xC2 u t t o c a F) (hF : c - a < o → t + 1 ≤ F (c - a)) : xC2 u t (t + 1) o c a F := by
  obtain ⟨h1, h2, h3, h4, h5, h6⟩ := h
  refine ⟨h1, h2, h3, fun j hj1 hj2 => ?_, h5, h6⟩
  have e := srt h2 (i := c - a) (j - (c - a)) (by omega)
  rw [show c - a + (j - (c - a)) = j by omega] at e
  exact Nat.le_trans (hF (by omega)) e
theorem pI_comes {t r W o a x : Nat} {wait : Int32} {F : Nat → Nat} (hr : r ≤ 9) (ht : t < 2 ^ 29) : ∀ (q i n c d : Nat) (T : Nat → Nat) (u : Nat → Int32), xC1 u W o n c a d x T → xC2 u t t o c a F → xC3 u t n → c = a + i → i + q = o → xI (mComes (nI t) (nI (t + r)) wait q i u) t (t + 1) W := by
  intro q
  induction q with
  | zero =>
    intro i n c d T u k1 k2 k3 hc hi
    exact ⟨o, n, c, a, d, x, T, F, k1, k2.later (fun h => absurd h (by omega)), k3⟩
  | succ q ih =>
    intro i n c d T u k1 k2 k3 hc hi
    have ho := k1.2.2.2.2.2.2.1
    rw [mComes]
    have hFi : u (15 + 2 * i + 1) = nI (F i) := k2.1 i (by omega)
    have hlo : t ≤ F i := k2.2.2.2.1 i (by omega) (by omega)
    have hhi : F i ≤ t + 9 := k2.2.2.2.2.1 i (by omega)
    have hci : c - a = i := by omega
    by_cases h : u (15 + 2 * i + 1) = nI t
    · rw [if_pos h]
      have hF : F i = t := (nI_eq (by omega) (by omega)).mp (hFi.symm.trans h)
      obtain ⟨n2, d2, T2, g1, g3⟩ := k3.came (t1 := nI t) (wait := wait) (s := u (15 + 2 * i)) k1 (by omega) hr ht
      exact ih (i + 1) n2 (c + 1) d2 T2 _ g1 (k2.came ho (by rw [hci, hF]) (by omega)) g3 (by omega) (by omega)
    · rw [if_neg h]
      refine ⟨o, n, c, a, d, x, T, F, k1, k2.later (fun _ => ?_), k3⟩
      rw [hci]
      have : F i ≠ t := fun e => h (by rw [hFi, e])
      omega
theorem pL_X6_comes {σ : xS} {ar k t r W o a x : Nat} {F : Nat → Nat} {KK : xS → Option xS} (hk : k < 4) (h1 : σ ar 1 = nI t) (h3 : σ ar 3 = nI r) (hr : r ≤ 9) (ht : t < 2 ^ 29) : ∀ (q i fuel n c d : Nat) (T : Nat → Nat) (u : Nat → Int32), xC1 u W o n c a d x T → xC2 u t t o c a F → xC3 u t n → c = a + i → i + q = o → q < fuel → L_X6_writerTicks_26 187 ar (nI k) (nI o) KK fuel (nI i) (xX σ ar k u) = KK (xX σ ar k (mComes (nI t) (nI (t + r)) (σ ar 4) q i u)) := by
  -- behind a letter that is not due none is due
  have late : ∀ (q i fuel : Nat) (u : Nat → Int32), (∀ j, i ≤ j → j < i + q → u (15 + 2 * j + 1) ≠ nI t) → i + q = o → o ≤ 6 → q < fuel → L_X6_writerTicks_26 187 ar (nI k) (nI o) KK fuel (nI i) (xX σ ar k u) = KK (xX σ ar k u) := by
    intro q
    induction q with
    | zero =>
      intro i fuel u _ hi ho hf
      obtain ⟨g, rfl⟩ : ∃ g, fuel = g + 1 := ⟨fuel - 1, by omega⟩
      rw [L_X6_writerTicks_26, if_pos (nI_le (by omega) (by omega))]
    | succ q ih =>
      intro i fuel u hne hi ho hf
      obtain ⟨g, rfl⟩ : ∃ g, fuel = g + 1 := ⟨fuel - 1, by omega⟩
      rw [L_X6_writerTicks_26, if_neg (nI_ge (by omega) (by omega)), nI_l15, nI_1, xX_of hk (show 15 + 2 * i + 1 < 39 by omega)]
      simp only [xbI_s, xin_1, if_true, cl_1, xlet_s, xX_hd (show 1 < 31 by decide), h1]
      rw [if_pos (hne i (Nat.le_refl _) (by omega)), nI_1]
      exact ih (i + 1) g u (fun j a b => hne j (by omega) (by omega)) (by omega) ho (by omega)
  intro q
  induction q with
  | zero =>
    intro i fuel n c d T u k1 k2 k3 hc hi hf
    have ho := k1.2.2.2.2.2.2.1
    obtain ⟨g, rfl⟩ : ∃ g, fuel = g + 1 := ⟨fuel - 1, by omega⟩
    rw [L_X6_writerTicks_26, if_pos (nI_le (by omega) (by omega)), mComes]
  | succ q ih =>
    intro i fuel n c d T u k1 k2 k3 hc hi hf
    have ho := k1.2.2.2.2.2.2.1
    have hFi : u (15 + 2 * i + 1) = nI (F i) := k2.1 i (by omega)
    have hlo : t ≤ F i := k2.2.2.2.1 i (by omega) (by omega)
    have hhi : F i ≤ t + 9 := k2.2.2.2.2.1 i (by omega)
    have hci : c - a = i := by omega
    by_cases h : u (15 + 2 * i + 1) = nI t
    · obtain ⟨g, rfl⟩ : ∃ g, fuel = g + 1 := ⟨fuel - 1, by omega⟩
      have hF : F i = t := (nI_eq (by omega) (by omega)).mp (hFi.symm.trans h)
      obtain ⟨n2, d2, T2, g1, g3⟩ := k3.came (t1 := nI t) (wait := σ ar 4) (s := u (15 + 2 * i)) k1 (by omega) hr ht
      have hcap := k1.cap
      rw [L_X6_writerTicks_26, if_neg (nI_ge (by omega) (by omega)), nI_l15, nI_1, xX_of hk (show 15 + 2 * i + 1 < 39 by omega)]
      simp only [xbI_s, xin_1, if_true, cl_1, xlet_s, xX_hd (show 1 < 31 by decide), h1]
      rw [if_neg (fun q => q h), xX_of hk (show 15 + 2 * i < 39 by omega)]
      simp only [xbI_s]
      rw [pF_X6_letterComes hk (n := n) (by omega) k1.2.1, h1, h3, nI_add]
      simp only [xbV_s, nI_1]
      rw [mComes, if_pos h]
      exact ih (i + 1) g n2 (c + 1) d2 T2 _ g1 (k2.came ho (by rw [hci, hF]) (by omega)) g3 (by omega) (by omega) (by omega)
    · rw [mComes, if_neg h]
      have hFi1 : t + 1 ≤ F i := by
        have : F i ≠ t := fun e => h (by rw [hFi, e])
        omega
      refine late (q + 1) i fuel u (fun j a b e => ?_) (by omega) ho hf
      have e2 := srt k2.2.1 (i := i) (j - i) (by omega)
      rw [show i + (j - i) = j by omega] at e2
      have e3 : F j = t := (nI_eq (by have := k2.2.2.2.2.1 j (by omega); omega) (by omega)).mp ((k2.1 j (by omega)).symm.trans e)
      omega
