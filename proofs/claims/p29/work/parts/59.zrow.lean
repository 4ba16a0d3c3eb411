/-! MORE THAT ALWAYS HOLDS OF A WRITER'S ROW -/
/-- the signs of n letters from i on -/
def lSum (u : Nat → Int32) : Nat → Nat → Int32
  | _, 0 => 0
  | i, n + 1 => u (15 + 2 * i) + lSum u (i + 1) n
theorem lSum_sh {u v : Nat → Int32} {e : Nat} : ∀ (n i : Nat), (∀ j, i ≤ j → j < i + n → v (15 + 2 * j) = u (15 + 2 * (j + e))) → lSum v i n = lSum u (i + e) n := by
  intro n
  induction n with
  | zero => intro i h; rw [lSum, lSum]
  | succ n ih =>
    intro i h
    rw [lSum, lSum, h i (Nat.le_refl _) (by omega), ih (i + 1) (fun j a b => h j (by omega) (by omega)), show i + 1 + e = i + e + 1 by omega]
theorem lSum_cg {u v : Nat → Int32} {i n : Nat} (h : ∀ j, i ≤ j → j < i + n → v (15 + 2 * j) = u (15 + 2 * j)) : lSum v i n = lSum u i n := lSum_sh (e := 0) n i h
theorem lSum_end {u : Nat → Int32} : ∀ (n i : Nat), lSum u i (n + 1) = lSum u i n + u (15 + 2 * (i + n)) := by
  intro n
  induction n with
  | zero =>
    intro i
    rw [lSum, lSum, lSum, Int32.add_zero, Int32.zero_add, Nat.add_zero]
  | succ n ih =>
    intro i
    rw [lSum, ih (i + 1), lSum, Int32.add_assoc, show i + 1 + n = i + (n + 1) by omega]
theorem lSum_n {u : Nat → Int32} {o : Nat} (h : ∀ j, j < o → ∃ s, u (15 + 2 * j) = nI s ∧ 1 ≤ s ∧ s ≤ 99) : ∀ (n i : Nat), i + n ≤ o → ∃ S, lSum u i n = nI S ∧ S ≤ 99 * n := by
  intro n
  induction n with
  | zero => intro i _; exact ⟨0, by rw [lSum]; rfl, by omega⟩
  | succ n ih =>
    intro i hi
    obtain ⟨s, e, -, hs⟩ := h i (by omega)
    obtain ⟨S, e2, hS⟩ := ih (i + 1) (by omega)
    exact ⟨s + S, by rw [lSum, e, e2, nI_add], by omega⟩
/-- o letters unanswered, c came, a answered, d not answered by the desk; g: a bound of the ticks held; lo: the desk's time is not earlier -/
def zY (u : Nat → Int32) (g t lo o c a d : Nat) : Prop := d ≤ 1 ∧ (∃ e, u 12 = nI e ∧ e + d ≤ c) ∧ (∃ h, u 4 = nI h ∧ h ≤ g) ∧ (∃ v, u 8 = nI v ∧ v ≤ 99 * c) ∧ u 3 = nI (a + o) ∧ (∀ j, j < o → (∃ s, u (15 + 2 * j) = nI s ∧ 1 ≤ s ∧ s ≤ 99) ∧ ∃ f, u (15 + 2 * j + 1) = nI f ∧ 1 ≤ f ∧ f < 2 ^ 31) ∧ u 2 = u 0 + lSum u (c - a) (o - (c - a)) + u 8 ∧ ((d = 0 ∧ u 11 = -1) ∨ (d = 1 ∧ ∃ w, u 11 = nI w ∧ lo ≤ w ∧ w ≤ t + 20))
def zI (u : Nat → Int32) (g t lo : Nat) : Prop := zY u g t lo (mN (u 6)) (mN (u 9)) (mN (u 5)) (mN (u 10))
theorem xC1.mn {u : Nat → Int32} {W o n c a d x : Nat} {T : Nat → Nat} (k : xC1 u W o n c a d x T) (hW : W < 2 ^ 30) : mN (u 6) = o ∧ mN (u 9) = c ∧ mN (u 5) = a ∧ mN (u 10) = d := by
  have hcap := k.cap
  obtain ⟨h1, h2, h3, h4, h5, h6, h7, h8, h9, h10, -⟩ := k
  rw [h1, h3, h4, h5]
  exact ⟨mN_nI (by omega), mN_nI (by omega), mN_nI (by omega), mN_nI (by omega)⟩
theorem zI.to {u : Nat → Int32} {g t lo W o n c a d x : Nat} {T : Nat → Nat} (h : zI u g t lo) (k : xC1 u W o n c a d x T) (hW : W < 2 ^ 30) : zY u g t lo o c a d := by
  obtain ⟨e1, e2, e3, e4⟩ := k.mn hW
  unfold zI at h
  rw [e1, e2, e3, e4] at h
  exact h
theorem zI.of {u : Nat → Int32} {g t lo o c a d : Nat} (h : zY u g t lo o c a d) (h6 : u 6 = nI o) (h9 : u 9 = nI c) (h5 : u 5 = nI a) (h10 : u 10 = nI d) (ho : o < 2 ^ 31) (hc : c < 2 ^ 31) (ha : a < 2 ^ 31) (hd : d < 2 ^ 31) : zI u g t lo := by
  unfold zI
  rw [h6, h9, h5, h10, mN_nI ho, mN_nI hc, mN_nI ha, mN_nI hd]
  exact h
theorem zY.cg {u v : Nat → Int32} {g t lo o c a d : Nat} (h : zY u g t lo o c a d) (ho : o ≤ 6) (e0 : v 0 = u 0) (e2 : v 2 = u 2) (e3 : v 3 = u 3) (e4 : v 4 = u 4) (e8 : v 8 = u 8) (e11 : v 11 = u 11) (e12 : v 12 = u 12) (e : ∀ j, 15 ≤ j → j < 27 → v j = u j) : zY v g t lo o c a d := by
  obtain ⟨h1, h2, h3, h4, h5, h6, h7, h8⟩ := h
  unfold zY
  rw [e12, e4, e8, e3, e2, e0, e11, lSum_cg (u := u) (v := v) (i := c - a) (n := o - (c - a)) (fun j a b => e _ (by omega) (by omega))]
  exact ⟨h1, h2, h3, h4, h5, fun j hj => by rw [e _ (by omega) (by omega), e _ (by omega) (by omega)]; exact h6 j hj, h7, h8⟩
theorem zI.cg {u v : Nat → Int32} {g t lo : Nat} (h : zI u g t lo) (ho : mN (u 6) ≤ 6) (e1 : ∀ j, j < 13 → j ≠ 1 → j ≠ 7 → v j = u j) (e : ∀ j, 15 ≤ j → j < 27 → v j = u j) : zI v g t lo := by
  unfold zI
  rw [e1 6 (by decide) (by decide) (by decide), e1 9 (by decide) (by decide) (by decide), e1 5 (by decide) (by decide) (by decide), e1 10 (by decide) (by decide) (by decide)]
  exact zY.cg (u := u) h ho (e1 0 (by decide) (by decide) (by decide)) (e1 2 (by decide) (by decide) (by decide)) (e1 3 (by decide) (by decide) (by decide)) (e1 4 (by decide) (by decide) (by decide)) (e1 8 (by decide) (by decide) (by decide)) (e1 11 (by decide) (by decide) (by decide)) (e1 12 (by decide) (by decide) (by decide)) e
theorem zI.weak {u : Nat → Int32} {g t lo g2 t2 lo2 : Nat} (h : zI u g t lo) (hg : g ≤ g2) (ht : t ≤ t2) (hl : lo2 ≤ lo) : zI u g2 t2 lo2 := by
  obtain ⟨h1, h2, ⟨e, h3, h3'⟩, h4, h5, h6, h7, h8⟩ := h
  refine ⟨h1, h2, ⟨e, h3, by omega⟩, h4, h5, h6, h7, ?_⟩
  rcases h8 with h8 | ⟨h8, w, h9, h10, h11⟩
  · exact Or.inl h8
  · exact Or.inr ⟨h8, w, h9, by omega, by omega⟩
theorem zz_goes (a S b y : Int32) : a + S + b = a - y + (S + y) + b := by grind
theorem zY.goes {u : Nat → Int32} {g t lo o c a d y p l : Nat} (h : zY u g t lo o c a d) (h6 : u 6 = nI o) (ho : o < 6) (hca : c - a ≤ o) (hy1 : 1 ≤ y) (hy : y ≤ 99) (hl : u 7 = nI l) (hl2 : l < 2 ^ 31) (hp1 : 1 ≤ p) (hp : p < 2 ^ 31) : zY (mGoes (nI p) (nI y) u) g t lo (o + 1) c a d := by
  obtain ⟨h1, h2, h3, h4, h5, h6', h7, h8⟩ := h
  have lo_ : ∀ j, j < 15 → j ≠ 0 → j ≠ 3 → j ≠ 6 → j ≠ 7 → mGoes (nI p) (nI y) u j = u j := fun j a b c d e => mGoes_lo a b c d e
  have hs : lSum (mGoes (nI p) (nI y) u) (c - a) (o + 1 - (c - a)) = lSum u (c - a) (o - (c - a)) + nI y := by
    rw [show o + 1 - (c - a) = (o - (c - a)) + 1 by omega, lSum_end, lSum_cg (u := u) (fun j a b => ?_), show c - a + (o - (c - a)) = o by omega, mGoes_hi h6 ho (by omega), if_neg (by omega), if_pos rfl]
    rw [mGoes_hi h6 ho (by omega), if_neg (by omega), if_neg (by omega)]
  unfold zY
  rw [lo_ 12 (by decide) (by decide) (by decide) (by decide) (by decide), lo_ 4 (by decide) (by decide) (by decide) (by decide) (by decide), lo_ 8 (by decide) (by decide) (by decide) (by decide) (by decide), lo_ 2 (by decide) (by decide) (by decide) (by decide) (by decide), lo_ 11 (by decide) (by decide) (by decide) (by decide) (by decide), mGoes_3, mGoes_0, hs, h5, nI_1]
  refine ⟨h1, h2, h3, h4, by rw [Nat.add_assoc], fun j hj => ?_, by rw [h7]; exact zz_goes _ _ _ _, h8⟩
  rw [mGoes_hi h6 ho (by omega), mGoes_hi h6 ho (by omega)]
  by_cases e : j = o
  · subst e
    rw [if_neg (by omega), if_pos rfl, if_pos rfl, hl, mMax_nI hp hl2]
    exact ⟨⟨y, rfl, hy1, hy⟩, _, rfl, by omega, by omega⟩
  · rw [if_neg (by omega), if_neg (by omega), if_neg (by omega), if_neg (by omega)]
    exact h6' j (by omega)
theorem xI.goes {u : Nat → Int32} {t lo W o r y x : Nat} (hr : r ≤ 9) (hlo : lo ≤ t + r) (ht : t < 2 ^ 29) (h6 : u 6 = nI o) (ho : o < 6) (h0 : u 0 = nI x) (hx : x ≤ 9999) (hy : y ≤ x) (h : xI u t lo W) : xI (mGoes (nI (t + r)) (nI y) u) t lo (W + 1) := by
  obtain ⟨o', n, c, a, d, x', T, F, k1, k2, k3⟩ := h
  have g6 := k1.1
  have g0 := k1.2.2.2.2.2.1
  have g7 := k1.2.2.2.2.2.2.1
  have g8 := k1.2.2.2.2.2.2.2.2.1
  have g10 := k1.2.2.2.2.2.2.2.2.2.2.1
  obtain rfl : o' = o := (nI_eq (by omega) (by omega)).mp (g6.symm.trans h6)
  obtain rfl : x' = x := (nI_eq (by omega) (by omega)).mp (g0.symm.trans h0)
  obtain ⟨F2, q⟩ := k2.goes (s := nI y) h6 ho (by omega) hr hlo ht
  exact ⟨_, _, _, _, _, _, _, F2, k1.goes ho hy, q, k3.goes h6 ho⟩
theorem xI.l7 {u : Nat → Int32} {t lo W : Nat} (h : xI u t lo W) : ∃ l, u 7 = nI l ∧ l ≤ t + 9 := by
  obtain ⟨o, n, c, a, d, x, T, F, k1, ⟨-, -, -, -, b5, l, b6, b7, b8⟩, k3⟩ := h
  refine ⟨l, b6, ?_⟩
  by_cases e : o = 0
  · have := b7 e; omega
  · have := b8 (by omega); have := b5 (o - 1) (by omega); omega
theorem zI.goes {u : Nat → Int32} {g t lo lo2 W o r y x : Nat} (hr1 : 1 ≤ r) (hr : r ≤ 9) (ht : t < 2 ^ 29) (hW : W < 2 ^ 30) (h6 : u 6 = nI o) (ho : o < 6) (hy1 : 1 ≤ y) (hy : y ≤ 99) (hx : u 0 = nI x) (h : xI u t lo W) (z : zI u g t lo2) : zI (mGoes (nI (t + r)) (nI y) u) g t lo2 := by
  obtain ⟨l, hl, hl2⟩ := h.l7
  obtain ⟨o', n, c, a, d, x', T, F, k1, k2, k3⟩ := h
  have zy := z.to k1 hW
  have g6 := k1.1
  have g7 := k1.2.2.2.2.2.2.1
  have g8 := k1.2.2.2.2.2.2.2.2.1
  have g9 := k1.2.2.2.2.2.2.2.2.2.1
  have hcap := k1.cap
  obtain rfl : o' = o := (nI_eq (by omega) (by omega)).mp (g6.symm.trans h6)
  refine zI.of (zy.goes h6 ho (by omega) hy1 hy hl (by omega) (by omega) (by omega)) (by rw [mGoes_6, h6, nI_1]) ?_ ?_ ?_ (by omega) (by omega) (by omega) (by omega)
  · rw [mGoes_lo (by decide) (by decide) (by decide) (by decide) (by decide), k1.2.2.1]
  · rw [mGoes_lo (by decide) (by decide) (by decide) (by decide) (by decide), k1.2.2.2.1]
  · rw [mGoes_lo (by decide) (by decide) (by decide) (by decide) (by decide), k1.2.2.2.2.1]
theorem zI.send {t lo lo2 g r sz : Nat} {most h : Int32} (hr1 : 1 ≤ r) (hr : r ≤ 9) (hlo : lo ≤ t + r) (ht : t < 2 ^ 29) (hsz1 : 1 ≤ sz) (hsz : sz ≤ 99) : ∀ (f o W : Nat) (u : Nat → Int32), u 6 = nI o → o + f = 6 → W + f < 2 ^ 30 → xI u t lo W → zI u g t lo2 → zI (mSend (nI (t + r)) (nI sz) most h f u) g t lo2 := by
  intro f
  induction f with
  | zero => intro o W u _ _ _ _ z; exact z
  | succ f ih =>
    intro o W u h6 ho hW hI z
    obtain ⟨x, h0, hx⟩ : ∃ x, u 0 = nI x ∧ x ≤ 9999 := by
      obtain ⟨o', n, c, a, d, x, T, F, k1, k2, k3⟩ := hI
      exact ⟨x, k1.2.2.2.2.2.1, k1.2.2.2.2.2.2.2.2.2.2.1⟩
    have step : ∀ y, 1 ≤ y → y ≤ 99 → y ≤ x → zI (mSend (nI (t + r)) (nI sz) most h f (mGoes (nI (t + r)) (nI y) u)) g t lo2 := fun y a b c =>
      ih (o + 1) (W + 1) _ (by rw [mGoes_6, h6, nI_1]) (by omega) (by omega) (hI.goes hr hlo ht h6 (by omega) h0 hx c) (z.goes hr1 hr ht (by omega) h6 (by omega) a b h0 hI)
    rw [mSend]
    by_cases h1 : u 0 ≤ 0
    · rw [if_pos h1]; exact z
    rw [if_neg h1]
    by_cases h2 : most ≤ u 6
    · rw [if_pos h2]; exact z
    rw [if_neg h2]
    have hx0 : 1 ≤ x := by
      rcases Nat.eq_zero_or_pos x with e | e
      · subst e; exact absurd (by rw [h0]; decide) h1
      · exact e
    by_cases h3 : nI sz ≤ u 0
    · rw [if_pos h3]
      rw [h0] at h3
      exact step sz hsz1 hsz ((nI_leI (by omega) (by omega)).mp h3)
    rw [if_neg h3]
    by_cases h4 : h = 0 ∨ u 6 = 0
    · rw [if_pos h4, h0]
      rw [h0] at h3
      have : ¬ sz ≤ x := fun q => h3 (nI_le q (by omega))
      exact step x hx0 (by omega) (Nat.le_refl _)
    · rw [if_neg h4]; exact z
theorem xI.o6 {u : Nat → Int32} {t lo W : Nat} (h : xI u t lo W) : ∃ o, u 6 = nI o ∧ o ≤ 6 := by
  obtain ⟨o, n, c, a, d, x, T, F, k1, -, -⟩ := h
  exact ⟨o, k1.1, k1.2.2.2.2.2.2.1⟩
theorem xI.m6 {u : Nat → Int32} {t lo W : Nat} (h : xI u t lo W) : mN (u 6) ≤ 6 := by
  obtain ⟨o, e, h⟩ := h.o6
  rw [e, mN_nI (by omega)]; exact h
theorem zI.sends {t lo lo2 g r sz W : Nat} {most h : Int32} {u : Nat → Int32} (hr1 : 1 ≤ r) (hr : r ≤ 9) (hlo : lo ≤ t + r) (ht : t < 2 ^ 29) (hsz1 : 1 ≤ sz) (hsz : sz ≤ 99) (hW : W + 6 < 2 ^ 30) (hI : xI u t lo W) (z : zI u g t lo2) : zI (mSends (nI (t + r)) (nI sz) most h u) g t lo2 := by
  obtain ⟨o, h6, ho⟩ := hI.o6
  unfold mSends
  rw [h6, mN_nI (by omega)]
  exact zI.send hr1 hr hlo ht hsz1 hsz (6 - o) o W u h6 (by omega) (by omega) hI z
theorem zz_note (a b S c s : Int32) (h : a = b + S + c) : a + s = b + s + S + c := by subst h; grind
theorem zI.note {t lo g W y : Nat} {u : Nat → Int32} (h6 : mN (u 6) ≤ 6) (z : zI u g t lo) : zI (upd (upd u 0 (u 0 + nI y)) 2 (u 2 + nI y)) g t lo := by
  have e : ∀ j, j ≠ 0 → j ≠ 2 → upd (upd u 0 (u 0 + nI y)) 2 (u 2 + nI y) j = u j := fun j a b => by rw [up_n b, up_n a]
  obtain ⟨h1, h2, h3, h4, h5, h6', h7, h8⟩ := z
  unfold zI zY
  rw [e 6 (by decide) (by decide), e 9 (by decide) (by decide), e 5 (by decide) (by decide), e 10 (by decide) (by decide), e 12 (by decide) (by decide), e 4 (by decide) (by decide), e 8 (by decide) (by decide), e 3 (by decide) (by decide), e 11 (by decide) (by decide), up_s, up_n (show 0 ≠ 2 by decide), up_s, lSum_cg (u := u) (fun j a b => e _ (by omega) (by omega))]
  exact ⟨h1, h2, h3, h4, h5, fun j hj => by rw [e _ (by omega) (by omega), e _ (by omega) (by omega)]; exact h6' j hj, zz_note _ _ _ _ _ h7, h8⟩
theorem xI.note {t lo W y : Nat} {u : Nat → Int32} (hI : xI u t lo W) (hy2 : y ≤ 500) (hy : ¬ (9999 : Int32) < u 0 + nI y) : xI (upd (upd u 0 (u 0 + nI y)) 2 (u 2 + nI y)) t lo W := by
  refine pI_note hI (fun x hx hx2 => ?_)
  rw [hx, nI_add] at hy
  exact Nat.not_lt.mp fun q => hy (nI_lt (a := 9999) (b := x + y) q (by omega))
theorem zI.hold {t lo g : Nat} {u : Nat → Int32} {b : Int32} (h6 : mN (u 6) ≤ 6) (z : zI u g t lo) : zI (upd u 1 b) g t lo := z.cg h6 (fun j a b c => up_n b) (fun j a b => up_n (by omega))
theorem zI.write {t lo lo2 g r sz W y : Nat} {most : Int32} {u : Nat → Int32} (hr1 : 1 ≤ r) (hr : r ≤ 9) (hlo : lo ≤ t + r) (ht : t < 2 ^ 29) (hsz1 : 1 ≤ sz) (hsz : sz ≤ 99) (hW : W + 6 < 2 ^ 30) (hy2 : y ≤ 500) (hy : ¬ (9999 : Int32) < u 0 + nI y) (hI : xI u t lo W) (z : zI u g t lo2) : zI (mWrite (nI (t + r)) (nI sz) most (nI y) u) g t lo2 := by
  unfold mWrite mAsIs
  exact zI.sends hr1 hr hlo ht hsz1 hsz hW (hI.note hy2 hy) (zI.note (W := W) hI.m6 z)
