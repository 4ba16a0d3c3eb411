/-! WHAT ALWAYS HOLDS OF A WRITER'S ROW -/
/-- counts: o open, n answers under way, c came, a answered, d due, x in the outbox; T: what the answers tell -/
def xC1 (u : Nat → Int32) (W o n c a d x : Nat) (T : Nat → Nat) : Prop := u 6 = nI o ∧ u 13 = nI n ∧ u 9 = nI c ∧ u 5 = nI a ∧ u 10 = nI d ∧ u 0 = nI x ∧ o ≤ 6 ∧ a ≤ c ∧ c ≤ a + o ∧ a + o ≤ W ∧ x ≤ 9999 ∧ (∀ j, j < n → u (33 + j) = nI (T j)) ∧ (∀ j, j + 1 < n → T j < T (j + 1)) ∧ (0 < n → a < T 0) ∧ (if n = 0 then a else T (n - 1)) + d = c ∧ (u 11 = -1 ∨ 1 ≤ d)
/-- the letters' times -/
def xC2 (u : Nat → Int32) (t lo o c a : Nat) (F : Nat → Nat) : Prop := (∀ j, j < o → u (15 + 2 * j + 1) = nI (F j)) ∧ (∀ j, j + 1 < o → F j ≤ F (j + 1)) ∧ (∀ j, j < c - a → F j ≤ t) ∧ (∀ j, c - a ≤ j → j < o → lo ≤ F j) ∧ (∀ j, j < o → F j ≤ t + 9) ∧ ∃ l, u 7 = nI l ∧ (o = 0 → l ≤ t) ∧ (0 < o → l = F (o - 1))
/-- the answers' times -/
def xC3 (u : Nat → Int32) (t n : Nat) : Prop := ∃ l, u 14 = nI l ∧ l ≤ t + 9 ∧ (n = 0 → l ≤ t) ∧ (0 < n → u (27 + (n - 1)) = nI l)
theorem xC1.tge {u : Nat → Int32} {W o n c a d x : Nat} {T : Nat → Nat} (h : xC1 u W o n c a d x T) : ∀ j, j < n → a + 1 + j ≤ T j := by
  obtain ⟨-, -, -, -, -, -, -, -, -, -, -, -, h1, h2, -, -⟩ := h
  intro j
  induction j with
  | zero => intro hj; exact h2 hj
  | succ j ih => intro hj; have a1 := ih (by omega); have a2 := h1 j hj; omega
theorem xC1.cap {u : Nat → Int32} {W o n c a d x : Nat} {T : Nat → Nat} (h : xC1 u W o n c a d x T) : n + a + d ≤ c := by
  have h1 := h.tge
  obtain ⟨-, -, -, -, -, -, -, -, -, -, -, -, -, -, h2, -⟩ := h
  by_cases h0 : n = 0
  · rw [if_pos h0] at h2; omega
  · rw [if_neg h0] at h2
    have a1 := h1 (n - 1) (by omega)
    omega
def nUp (T : Nat → Nat) (n v : Nat) : Nat → Nat := fun j => if j = n then v else T j
theorem xC1.ans {u : Nat → Int32} {W o n c a d x : Nat} {T : Nat → Nat} {tt : Int32} (h : xC1 u W o n c a d x T) (hd : 1 ≤ d) : n < 6 ∧ xC1 (mAns tt u) W o (n + 1) c a 0 x (nUp T n c) := by
  have hcap := h.cap
  have htg := h.tge
  obtain ⟨h1, h2, h3, h4, h5, h6, h7, h8, h9, h10, h11, h12, h13, h14, h15, h16⟩ := h
  have hn : n < 6 := by omega
  refine ⟨hn, ?_, ?_, ?_, ?_, ?_, ?_, h7, h8, h9, h10, h11, ?_, ?_, ?_, ?_, ?_⟩
  · rw [mAns_lo (by decide), h1]
  · rw [mAns_13, h2, nI_1]
  · rw [mAns_lo (by decide), h3]
  · rw [mAns_lo (by decide), h4]
  · rw [mAns_10]; rfl
  · rw [mAns_lo (by decide), h6]
  · intro j hj
    rw [mAns_hi h2 hn (by omega)]
    unfold nUp
    by_cases hjn : j = n
    · subst hjn; rw [if_pos rfl, if_pos rfl, h3]
    · rw [if_neg (by omega), if_neg (by omega), if_neg hjn, h12 j (by omega)]
  · intro j hj
    unfold nUp
    rw [if_neg (by omega)]
    by_cases hjn : j + 1 = n
    · rw [if_pos hjn]
      rw [if_neg (by omega)] at h15
      have e : n - 1 = j := by omega
      rw [e] at h15
      omega
    · rw [if_neg hjn]; exact h13 j (by omega)
  · intro _
    unfold nUp
    by_cases hn0 : 0 = n
    · rw [if_pos hn0]; omega
    · rw [if_neg hn0]; exact h14 (by omega)
  · rw [if_neg (by omega)]
    unfold nUp
    rw [if_pos (by omega)]
    rfl
  · exact Or.inl mAns_11
theorem mCame0_n {s : Int32} {u : Nat → Int32} {j : Nat} (h1 : j ≠ 8) (h2 : j ≠ 9) (h3 : j ≠ 10) : mCame0 s u j = u j := by
  unfold mCame0
  rw [up_n h3, up_n h2, up_n h1]
theorem mCame0_9 {s : Int32} {u : Nat → Int32} : mCame0 s u 9 = u 9 + 1 := by
  unfold mCame0
  rw [up_n (by decide), up_s]
theorem mCame0_10 {s : Int32} {u : Nat → Int32} : mCame0 s u 10 = u 10 + 1 := up_s
theorem mCame0_8 {s : Int32} {u : Nat → Int32} : mCame0 s u 8 = u 8 + s := by
  unfold mCame0
  rw [up_n (by decide), up_n (by decide), up_s]
theorem xC1.came0 {u : Nat → Int32} {W o n c a d x : Nat} {T : Nat → Nat} {s : Int32} (h : xC1 u W o n c a d x T) (hc : c < a + o) : xC1 (mCame0 s u) W o n (c + 1) a (d + 1) x T := by
  obtain ⟨h1, h2, h3, h4, h5, h6, h7, h8, h9, h10, h11, h12, h13, h14, h15, h16⟩ := h
  refine ⟨?_, ?_, ?_, ?_, ?_, ?_, h7, by omega, by omega, h10, h11, ?_, h13, h14, by omega, Or.inr (by omega)⟩
  · rw [mCame0_n (by decide) (by decide) (by decide), h1]
  · rw [mCame0_n (by decide) (by decide) (by decide), h2]
  · rw [mCame0_9, h3, nI_1]
  · rw [mCame0_n (by decide) (by decide) (by decide), h4]
  · rw [mCame0_10, h5, nI_1]
  · rw [mCame0_n (by decide) (by decide) (by decide), h6]
  · intro j hj
    rw [mCame0_n (by omega) (by omega) (by omega), h12 j hj]
theorem xC1.when {u : Nat → Int32} {W o n c a d x : Nat} {T : Nat → Nat} {v : Int32} (h : xC1 u W o n c a d x T) (hd : 1 ≤ d) : xC1 (upd u 11 v) W o n c a d x T := by
  obtain ⟨h1, h2, h3, h4, h5, h6, h7, h8, h9, h10, h11, h12, h13, h14, h15, h16⟩ := h
  refine ⟨?_, ?_, ?_, ?_, ?_, ?_, h7, h8, h9, h10, h11, ?_, h13, h14, h15, Or.inr hd⟩
  · rw [up_n (by decide), h1]
  · rw [up_n (by decide), h2]
  · rw [up_n (by decide), h3]
  · rw [up_n (by decide), h4]
  · rw [up_n (by decide), h5]
  · rw [up_n (by decide), h6]
  · intro j hj
    rw [up_n (by omega), h12 j hj]
theorem xC1.came {u : Nat → Int32} {W o n c a d x : Nat} {T : Nat → Nat} {t tt wait s : Int32} (h : xC1 u W o n c a d x T) (hc : c < a + o) : ∃ n2 d2 T2, xC1 (mCame t tt wait s u) W o n2 (c + 1) a d2 x T2 := by
  have h0 := h.came0 (s := s) hc
  unfold mCame
  by_cases h1 : u 10 + 1 = 2
  · rw [if_pos h1]; exact ⟨_, _, _, (h0.ans (by omega)).2⟩
  rw [if_neg h1]
  by_cases h2 : wait = 0
  · rw [if_neg (fun q => q h2)]; exact ⟨_, _, _, (h0.ans (by omega)).2⟩
  rw [if_pos h2]
  by_cases h3 : u 11 = -1
  · rw [if_neg (fun q => q h3)]; exact ⟨_, _, _, h0.when (by omega)⟩
  · rw [if_pos h3]; exact ⟨_, _, _, h0⟩
theorem mMax_nI {p l : Nat} (hp : p < 2 ^ 31) (hl : l < 2 ^ 31) : mMax (nI p) (nI l) = nI (max p l) := by
  unfold mMax
  by_cases h : l ≤ p
  · rw [if_pos (nI_le h hp), Nat.max_eq_left h]
  · rw [if_neg (nI_ge (by omega) hl), Nat.max_eq_right (by omega)]
/-- the class's and the reference's time of the next letter are one -/
theorem xC2.coh {u : Nat → Int32} {t lo o c a r : Nat} {F : Nat → Nat} (h : xC2 u t lo o c a F) (ht : t + r < 2 ^ 30) : cMax (nI (t + r)) (if o = 0 then -1 else u (15 + 2 * (o - 1) + 1)) = mMax (nI (t + r)) (u 7) := by
  obtain ⟨h1, -, -, -, h5, l, h6, h7, h8⟩ := h
  by_cases h0 : o = 0
  · have hl := h7 h0
    rw [if_pos h0, h6, mMax_nI (by omega) (by omega), Nat.max_eq_left (by omega)]
    unfold cMax
    rw [if_neg]
    intro q
    exact nI_pos (n := t + r) (by omega) (Int32.lt_trans q (by decide))
  · rw [if_neg h0, h1 (o - 1) (by omega), h6, h8 (by omega), cMax_mMax]
theorem xC3.coh {u : Nat → Int32} {t n r : Nat} (h : xC3 u t n) (ht : t + r < 2 ^ 30) : cMax (nI (t + r)) (if n = 0 then -1 else u (27 + (n - 1))) = mMax (nI (t + r)) (u 14) := by
  obtain ⟨l, h6, h5, h7, h8⟩ := h
  by_cases h0 : n = 0
  · have hl := h7 h0
    rw [if_pos h0, h6, mMax_nI (by omega) (by omega), Nat.max_eq_left (by omega)]
    unfold cMax
    rw [if_neg]
    intro q
    exact nI_pos (n := t + r) (by omega) (Int32.lt_trans q (by decide))
  · rw [if_neg h0, h8 (by omega), h6, cMax_mMax]
theorem xC3.ans {u : Nat → Int32} {t n r : Nat} (h : xC3 u t n) (h13 : u 13 = nI n) (hn : n < 6) (hr : r ≤ 9) (ht : t < 2 ^ 29) : xC3 (mAns (nI (t + r)) u) t (n + 1) := by
  obtain ⟨l, h6, h5, h7, h8⟩ := h
  refine ⟨max (t + r) l, ?_, by omega, fun q => absurd q (by omega), fun _ => ?_⟩
  · rw [mAns_14, h6, mMax_nI (by omega) (by omega)]
  · rw [mAns_hi h13 hn (by omega), if_neg (by omega), if_pos (by omega), h6, mMax_nI (by omega) (by omega)]
theorem xC2.cg {u v : Nat → Int32} {t lo o c a : Nat} {F : Nat → Nat} (h : xC2 u t lo o c a F) (h7 : v 7 = u 7) (hx : ∀ j, 15 ≤ j → j < 27 → v j = u j) (ho : o ≤ 6) : xC2 v t lo o c a F := by
  obtain ⟨h1, h2, h3, h4, h5, l, h6, h8⟩ := h
  exact ⟨fun j hj => by rw [hx _ (by omega) (by omega)]; exact h1 j hj, h2, h3, h4, h5, l, h7.trans h6, h8⟩
theorem xC3.cg {u v : Nat → Int32} {t n : Nat} (h : xC3 u t n) (h14 : v 14 = u 14) (hx : ∀ j, 27 ≤ j → v j = u j) : xC3 v t n := by
  obtain ⟨l, h6, h5, h7, h8⟩ := h
  exact ⟨l, h14.trans h6, h5, h7, fun q => by rw [hx _ (by omega)]; exact h8 q⟩
