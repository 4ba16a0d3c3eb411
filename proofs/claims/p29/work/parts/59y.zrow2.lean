/-! A TICK OF A ROW, and what was told in part 59 -/
theorem zz_came (a s S b : Int32) : a + (s + S) + b = a + S + (b + s) := by grind
/-- a letter comes; before the desk thinks of answering -/
theorem zY.came0 {u : Nat → Int32} {g t lo o c a d s : Nat} (h : zY u g t lo o c a d) (hac : a ≤ c) (hc : c < a + o) (ho : o ≤ 6) (hs : u (15 + 2 * (c - a)) = nI s) : (∃ e, mCame0 (nI s) u 12 = nI e ∧ e + (d + 1) ≤ c + 1) ∧ (∃ h, mCame0 (nI s) u 4 = nI h ∧ h ≤ g) ∧ (∃ v, mCame0 (nI s) u 8 = nI v ∧ v ≤ 99 * (c + 1)) ∧ mCame0 (nI s) u 3 = nI (a + o) ∧ (∀ j, j < o → (∃ s2, mCame0 (nI s) u (15 + 2 * j) = nI s2 ∧ 1 ≤ s2 ∧ s2 ≤ 99) ∧ ∃ f, mCame0 (nI s) u (15 + 2 * j + 1) = nI f ∧ 1 ≤ f ∧ f < 2 ^ 31) ∧ mCame0 (nI s) u 2 = mCame0 (nI s) u 0 + lSum (mCame0 (nI s) u) (c + 1 - a) (o - (c + 1 - a)) + mCame0 (nI s) u 8 := by
  have n : ∀ j, j ≠ 8 → j ≠ 9 → j ≠ 10 → mCame0 (nI s) u j = u j := fun j p q r => mCame0_n p q r
  obtain ⟨h1, ⟨e, h2, h2'⟩, h3, ⟨v, h4, h4'⟩, h5, h6, h7, h8⟩ := h
  rw [n 12 (by decide) (by decide) (by decide), n 4 (by decide) (by decide) (by decide), n 3 (by decide) (by decide) (by decide), n 2 (by decide) (by decide) (by decide), n 0 (by decide) (by decide) (by decide), mCame0_8, h4, nI_add, lSum_cg (u := u) (fun j p q => n _ (by omega) (by omega) (by omega))]
  obtain ⟨s2, e2, -, hs2⟩ := (h6 (c - a) (by omega)).1
  have ss : s % 2 ^ 32 = s2 := by
    have q := hs.symm.trans e2
    have q2 : (nI s).toBitVec.toNat = (nI s2).toBitVec.toNat := by rw [q]
    rw [pk_tn (show s2 < 2 ^ 32 by omega)] at q2
    exact q2
  refine ⟨⟨e, h2, by omega⟩, h3, ⟨v + s2, ?_, by omega⟩, h5, fun j hj => ?_, ?_⟩
  · rw [← nI_add, ← nI_add, ← hs, e2]
  · rw [n _ (by omega) (by omega) (by omega), n _ (by omega) (by omega) (by omega)]; exact h6 j hj
  · rw [h7, show o - (c - a) = (o - (c + 1 - a)) + 1 by omega, lSum, hs, show c - a + 1 = c + 1 - a by omega, h4, ← nI_add]
    exact zz_came _ _ _ _
/-- the desk answers -/
theorem zY_ans {u : Nat → Int32} {tt : Int32} {g t lo o c a d : Nat} (hac : a ≤ c) (hc : c ≤ a + o) (ho : o ≤ 6) (hd : 1 ≤ d) (h : (∃ e, u 12 = nI e ∧ e + d ≤ c) ∧ (∃ h, u 4 = nI h ∧ h ≤ g) ∧ (∃ v, u 8 = nI v ∧ v ≤ 99 * c) ∧ u 3 = nI (a + o) ∧ (∀ j, j < o → (∃ s2, u (15 + 2 * j) = nI s2 ∧ 1 ≤ s2 ∧ s2 ≤ 99) ∧ ∃ f, u (15 + 2 * j + 1) = nI f ∧ 1 ≤ f ∧ f < 2 ^ 31) ∧ u 2 = u 0 + lSum u (c - a) (o - (c - a)) + u 8) : zY (mAns tt u) g t lo o c a 0 := by
  obtain ⟨⟨e, h2, h2'⟩, h3, h4, h5, h6, h7⟩ := h
  have n : ∀ j, j < 10 → mAns tt u j = u j := fun j p => mAns_lo p
  unfold zY
  rw [mAns_12, n 4 (by decide), n 8 (by decide), n 3 (by decide), n 2 (by decide), n 0 (by decide), mAns_11, lSum_cg (u := u) (fun j p q => mAns_mid (by omega) (by omega)), h2, nI_1]
  exact ⟨by omega, ⟨e + 1, rfl, by omega⟩, h3, h4, h5, fun j hj => by rw [mAns_mid (by omega) (by omega), mAns_mid (by omega) (by omega)]; exact h6 j hj, h7, Or.inl ⟨rfl, rfl⟩⟩
theorem zI.came {u : Nat → Int32} {tt : Int32} {g t lo W o n c a d x wt : Nat} {T : Nat → Nat} (k : xC1 u W o n c a d x T) (hW : W < 2 ^ 30) (hc : c < a + o) (hwt : wt ≤ 20) (ht : t + 20 < 2 ^ 30) (hlo : lo ≤ t + 1) (z : zI u g t lo) : zI (mCame (nI t) tt (nI wt) (u (15 + 2 * (c - a))) u) g t lo := by
  have zy := z.to k hW
  have ho := k.2.2.2.2.2.2.1
  have hac := k.2.2.2.2.2.2.2.1
  have hcao := k.2.2.2.2.2.2.2.2.1
  have haW := k.2.2.2.2.2.2.2.2.2.1
  obtain ⟨s, hs, -, hs2⟩ := (zy.2.2.2.2.2.1 (c - a) (by omega)).1
  rw [hs]
  have q := zy.came0 hac hc ho hs
  have k0 := k.came0 (s := nI s) hc
  have hd1 : d ≤ 1 := zy.1
  have hb := zy.2.2.2.2.2.2.2
  have hA : zI (mAns tt (mCame0 (nI s) u)) g t lo := by
    obtain ⟨-, k1⟩ := k0.ans (tt := tt) (by omega)
    exact zI.of (zY_ans (c := c + 1) (d := d + 1) (by omega) (by omega) ho (by omega) q) k1.1 k1.2.2.1 k1.2.2.2.1 k1.2.2.2.2.1 (by omega) (by omega) (by omega) (by omega)
  unfold mCame
  by_cases h1 : u 10 + 1 = 2
  · rw [if_pos h1]; exact hA
  rw [if_neg h1]
  by_cases h2 : nI wt = 0
  · rw [if_neg (fun p => p h2)]; exact hA
  rw [if_pos h2]
  have hd0 : d = 0 := by
    rcases Nat.eq_zero_or_pos d with e | e
    · exact e
    · exfalso
      obtain rfl : d = 1 := by omega
      exact h1 (by rw [k.2.2.2.2.1]; rfl)
  subst hd0
  have e11 : u 11 = -1 := by
    rcases hb with ⟨-, e⟩ | ⟨e, -⟩
    · exact e
    · omega
  have hwt0 : 0 < wt := by
    rcases Nat.eq_zero_or_pos wt with e | e
    · subst e; exact absurd rfl h2
    · exact e
  rw [if_neg (fun p => p e11)]
  have k1 := k0.when (v := nI t + nI wt) (by omega)
  refine zI.of (d := 0 + 1) ?_ k1.1 k1.2.2.1 k1.2.2.2.1 k1.2.2.2.2.1 (by omega) (by omega) (by omega) (by omega)
  have nn : ∀ j, j ≠ 11 → upd (mCame0 (nI s) u) 11 (nI t + nI wt) j = mCame0 (nI s) u j := fun j p => up_n p
  obtain ⟨q1, q2, q3, q4, q5, q6⟩ := q
  unfold zY
  rw [nn 12 (by decide), nn 4 (by decide), nn 8 (by decide), nn 3 (by decide), nn 2 (by decide), nn 0 (by decide), up_s, lSum_cg (u := mCame0 (nI s) u) (fun j p r => nn _ (by omega))]
  exact ⟨by omega, q1, q2, q3, q4, fun j hj => by rw [nn _ (by omega), nn _ (by omega)]; exact q5 j hj, q6, Or.inr ⟨rfl, t + wt, nI_add t wt, by omega, by omega⟩⟩
theorem zI.comes {t r W o a x wt g : Nat} {F : Nat → Nat} (hr : r ≤ 9) (ht : t < 2 ^ 29) (hW : W < 2 ^ 30) (hwt : wt ≤ 20) : ∀ (q i n c d : Nat) (T : Nat → Nat) (u : Nat → Int32), xC1 u W o n c a d x T → xC2 u t t o c a F → xC3 u t n → c = a + i → i + q = o → zI u g t t → zI (mComes (nI t) (nI (t + r)) (nI wt) q i u) g t t := by
  intro q
  induction q with
  | zero => intro i n c d T u k1 k2 k3 hc hi z; exact z
  | succ q ih =>
    intro i n c d T u k1 k2 k3 hc hi z
    have ho := k1.2.2.2.2.2.2.1
    rw [mComes]
    have hFi : u (15 + 2 * i + 1) = nI (F i) := k2.1 i (by omega)
    have hhi : F i ≤ t + 9 := k2.2.2.2.2.1 i (by omega)
    have hci : c - a = i := by omega
    by_cases h : u (15 + 2 * i + 1) = nI t
    · rw [if_pos h]
      have hF : F i = t := (nI_eq (by omega) (by omega)).mp (hFi.symm.trans h)
      obtain ⟨n2, d2, T2, g1, g3⟩ := k3.came (t1 := nI t) (wait := nI wt) (s := u (15 + 2 * i)) k1 (by omega) hr ht
      have zc := zI.came (tt := nI (t + r)) (wt := wt) k1 hW (by omega) hwt (by omega) (by omega) z
      rw [hci] at zc
      exact ih (i + 1) n2 (c + 1) d2 T2 _ g1 (k2.came ho (by rw [hci, hF]) (by omega)) g3 (by omega) (by omega) zc
    · rw [if_neg h]; exact z
theorem zI.r1 {t r W wt g : Nat} {u : Nat → Int32} (hr : r ≤ 9) (ht : t < 2 ^ 29) (hW : W < 2 ^ 30) (hwt : wt ≤ 20) (hI : xI u t t W) (z : zI u g t t) : xI (mR1 (nI t) (nI (t + r)) (nI wt) u) t (t + 1) W ∧ zI (mR1 (nI t) (nI (t + r)) (nI wt) u) g t t := by
  obtain ⟨o, n, c, a, d, x, T, F, k1, k2, k3⟩ := hI
  have ho := k1.2.2.2.2.2.2.1
  have hac := k1.2.2.2.2.2.2.2.1
  have hca := k1.2.2.2.2.2.2.2.2.1
  have haw := k1.2.2.2.2.2.2.2.2.2.1
  have e95 : u 9 - u 5 = nI (c - a) := by rw [k1.2.2.1, k1.2.2.2.1, pk_sub hac]
  unfold mR1
  rw [e95, k1.1, mN_nI (by omega), mN_nI (by omega)]
  exact ⟨pI_comes hr ht (o - (c - a)) (c - a) n c d T u k1 k2 k3 (by omega) (by omega), zI.comes hr ht hW hwt (o - (c - a)) (c - a) n c d T u k1 k2 k3 (by omega) (by omega) z⟩
theorem zI.r2 {t r W g : Nat} {u : Nat → Int32} (hr : r ≤ 9) (ht : t < 2 ^ 29) (hW : W < 2 ^ 30) (hI : xI u t (t + 1) W) (z : zI u g t t) : zI (mR2 (nI t) (nI (t + r)) u) g t (t + 1) := by
  obtain ⟨o, n, c, a, d, x, T, F, k1, k2, k3⟩ := hI
  have zy := z.to k1 hW
  have ho := k1.2.2.2.2.2.2.1
  have hac := k1.2.2.2.2.2.2.2.1
  have hca := k1.2.2.2.2.2.2.2.2.1
  have haw := k1.2.2.2.2.2.2.2.2.2.1
  unfold mR2
  by_cases h : u 11 = nI t
  · rw [if_neg (fun q => q h)]
    have hd : 1 ≤ d := k1.2.2.2.2.2.2.2.2.2.2.2.2.2.2.2.resolve_left (fun q => nI_nm1 (t := t) (by omega) (h.symm.trans q))
    obtain ⟨hn, k⟩ := k1.ans (tt := nI (t + r)) hd
    obtain ⟨y1, y2, y3, y4, y5, y6, y7, y8⟩ := zy
    exact zI.of (zY_ans hac hca ho hd ⟨y2, y3, y4, y5, y6, y7⟩) k.1 k.2.2.1 k.2.2.2.1 k.2.2.2.2.1 (by omega) (by omega) (by omega) (by omega)
  · rw [if_pos h]
    obtain ⟨y1, y2, y3, y4, y5, y6, y7, y8⟩ := z
    refine ⟨y1, y2, y3, y4, y5, y6, y7, ?_⟩
    rcases y8 with y8 | ⟨y8, w, y9, y10, y11⟩
    · exact Or.inl y8
    · refine Or.inr ⟨y8, w, y9, ?_, y11⟩
      have : w ≠ t := fun e => h (by rw [y9, e])
      omega
theorem zY.drop {u : Nat → Int32} {g t lo o c a d : Nat} (h : zY u g t lo o c a d) (h6 : u 6 = nI o) (ho : o ≤ 6) (h0 : 0 < o) (hac : a < c) : zY (mDrop u) g t lo (o - 1) c (a + 1) d := by
  have n : ∀ j, j < 15 → j ≠ 5 → j ≠ 6 → mDrop u j = u j := fun j p q r => mDrop_lo p q r
  obtain ⟨h1, h2, h3, h4, h5, h6', h7, h8⟩ := h
  have sh : ∀ j, j < o - 1 → mDrop u (15 + 2 * j) = u (15 + 2 * (j + 1)) ∧ mDrop u (15 + 2 * j + 1) = u (15 + 2 * (j + 1) + 1) := fun j hj => by
    refine ⟨?_, ?_⟩
    · rw [mDrop_sh h6 ho (by omega) (by omega)]; congr 1
    · rw [mDrop_sh h6 ho (by omega) (by omega)]; congr 1
  unfold zY
  rw [n 12 (by decide) (by decide) (by decide), n 4 (by decide) (by decide) (by decide), n 8 (by decide) (by decide) (by decide), n 3 (by decide) (by decide) (by decide), n 2 (by decide) (by decide) (by decide), n 0 (by decide) (by decide) (by decide), n 11 (by decide) (by decide) (by decide), lSum_sh (u := u) (v := mDrop u) (e := 1) (o - 1 - (c - (a + 1))) (c - (a + 1)) (fun j p q => (sh j (by omega)).1)]
  refine ⟨h1, h2, h3, h4, by rw [h5]; congr 1; omega, fun j hj => ?_, ?_, h8⟩
  · rw [(sh j hj).1, (sh j hj).2]; exact h6' (j + 1) (by omega)
  · rw [h7, show c - (a + 1) + 1 = c - a by omega, show o - 1 - (c - (a + 1)) = o - (c - a) by omega]
theorem zY.take {g t lo W n c b d x : Nat} {T : Nat → Nat} (hW : W < 2 ^ 30) : ∀ (f o a : Nat) (u : Nat → Int32), xCm u W o n c a b d x T → o ≤ f → zY u g t lo o c a d → ∃ o2, xCm (mTake (nI b) f u) W o2 n c b b d x T ∧ zY (mTake (nI b) f u) g t lo o2 c b d := by
  intro f
  induction f with
  | zero =>
    intro o a u k1 hf z
    have e1 := k1.2.2.2.2.2.2.2.1
    have e2 := k1.2.2.2.2.2.2.2.2.1
    have e3 := k1.2.2.2.2.2.2.2.2.2.1
    obtain rfl : a = b := by omega
    exact ⟨o, k1, z⟩
  | succ f ih =>
    intro o a u k1 hf z
    have e0 := k1.1
    have e5 := k1.2.2.2.1
    have e6 := k1.2.2.2.2.2.2.1
    have e1 := k1.2.2.2.2.2.2.2.1
    have e2 := k1.2.2.2.2.2.2.2.2.1
    have e3 := k1.2.2.2.2.2.2.2.2.2.1
    have e4 := k1.2.2.2.2.2.2.2.2.2.2.1
    rw [mTake]
    by_cases h : a = b
    · subst h
      rw [if_pos (by rw [e5]; exact nI_le (Nat.le_refl _) (by omega))]
      exact ⟨o, k1, z⟩
    · rw [if_neg (by rw [e5]; exact nI_ge (by omega) (by omega)), if_neg (by rw [e0]; exact nI_nle (by omega) (by omega))]
      exact ih (o - 1) (a + 1) (mDrop u) (k1.drop (by omega)) (by omega) (z.drop e0 e6 (by omega) (by omega))
theorem zI.ansC {u : Nat → Int32} {g t lo W o n c a d x : Nat} {T : Nat → Nat} (k1 : xC1 u W o (n + 1) c a d x T) (hW : W < 2 ^ 30) (z : zI u g t lo) : zI (mAnsC u) g t lo := by
  have zy := z.to k1 hW
  have ho := k1.2.2.2.2.2.2.1
  obtain ⟨km, ke⟩ := k1.shift
  have hn : n + 1 ≤ 6 := by
    have := k1.cap
    have := k1.2.2.2.2.2.2.2.2.1
    omega
  rw [ke]
  have e : ∀ j, j < 27 → j ≠ 13 → mSft u n j = u j := fun j p q => by unfold mSft; rw [up_n q, mShA_lo p]
  obtain ⟨o2, m1, m2⟩ := zY.take hW o o a (mSft u n) km (Nat.le_refl _) (zy.cg ho (e 0 (by decide) (by decide)) (e 2 (by decide) (by decide)) (e 3 (by decide) (by decide)) (e 4 (by decide) (by decide)) (e 8 (by decide) (by decide)) (e 11 (by decide) (by decide)) (e 12 (by decide) (by decide)) (fun j p q => e j q (by omega)))
  have f1 := m1.to
  have hcap := f1.cap
  have g7 := f1.2.2.2.2.2.2.1
  have g8 := f1.2.2.2.2.2.2.2.1
  have g9 := f1.2.2.2.2.2.2.2.2.1
  have g10 := f1.2.2.2.2.2.2.2.2.2.1
  exact zI.of m2 f1.1 f1.2.2.1 f1.2.2.2.1 f1.2.2.2.2.1 (by omega) (by omega) (by omega) (by omega)
theorem zI.al {t lo lo2 g W c d x : Nat} (hW : W < 2 ^ 30) (ht : t < 2 ^ 29) : ∀ (n o a : Nat) (z0 : Int32) (T F : Nat → Nat) (u : Nat → Int32), xC1 u W o n c a d x T → xC2 u t lo o c a F → xC3 u t n → zI u g t lo2 → xI (mAL (nI t) n z0 u).2 t lo W ∧ zI (mAL (nI t) n z0 u).2 g t lo2 := by
  intro n
  induction n with
  | zero => intro o a z0 T F u k1 k2 k3 z; exact ⟨⟨o, 0, c, a, d, x, T, F, k1, k2, k3⟩, z⟩
  | succ n ih =>
    intro o a z0 T F u k1 k2 k3 z
    rw [mAL]
    by_cases h1 : u 13 ≤ 0
    · rw [if_pos h1]; exact ⟨⟨o, n + 1, c, a, d, x, T, F, k1, k2, k3⟩, z⟩
    rw [if_neg h1]
    by_cases h2 : u 27 = nI t
    · rw [if_neg (fun q => q h2)]
      obtain ⟨o2, F2, g1, g2, g3⟩ := pI_ansC k1 k2 k3 (by omega) h2 hW ht
      exact ih o2 (T 0) 1 (fun j => T (j + 1)) F2 _ g1 g2 g3 (zI.ansC k1 hW z)
    · rw [if_pos h2]; exact ⟨⟨o, n + 1, c, a, d, x, T, F, k1, k2, k3⟩, z⟩
theorem zI.r4 {u : Nat → Int32} {g t lo : Nat} (h6 : mN (u 6) ≤ 6) (z : zI u g t lo) : zI (mR4 u) (g + 1) t lo := by
  have e : ∀ j, j ≠ 4 → mR4 u j = u j := fun j p => up_n p
  obtain ⟨h1, h2, ⟨h, h3, h3'⟩, h4, h5, h6', h7, h8⟩ := z
  unfold zI zY
  rw [e 6 (by decide), e 9 (by decide), e 5 (by decide), e 10 (by decide), e 12 (by decide), e 8 (by decide), e 3 (by decide), e 2 (by decide), e 0 (by decide), e 11 (by decide), lSum_cg (u := u) (fun j a b => e _ (by omega))]
  refine ⟨h1, h2, ?_, h4, h5, fun j hj => by rw [e _ (by omega), e _ (by omega)]; exact h6' j hj, h7, h8⟩
  unfold mR4
  rw [up_s, h3]
  by_cases q : u 0 ≤ 0
  · rw [if_pos q]; exact ⟨h, Int32.add_zero _, by omega⟩
  · rw [if_neg q]; exact ⟨h + 1, nI_1 h, by omega⟩
/-- a tick of a row -/
theorem zI.row {t r wt sz W g : Nat} {most : Int32} {u : Nat → Int32} (hr1 : 1 ≤ r) (hr : r ≤ 9) (ht : t < 2 ^ 29) (hW : W + 6 < 2 ^ 30) (hwt : wt ≤ 20) (hsz1 : 1 ≤ sz) (hsz : sz ≤ 99) (hI : xI u t t W) (z : zI u g t t) : zI (mRow (nI t) (nI (t + r)) (nI wt) (nI sz) most u) (g + 1) t (t + 1) := by
  obtain ⟨i1, z1⟩ := zI.r1 hr ht (by omega) hwt hI z
  have z2 := zI.r2 hr ht (by omega) i1 z1
  have i2 := pI_R2 (r := r) hr ht i1
  unfold mRow
  obtain ⟨u2, hu2⟩ : ∃ y, y = mR2 (nI t) (nI (t + r)) (mR1 (nI t) (nI (t + r)) (nI wt) u) := ⟨_, rfl⟩
  rw [← hu2] at i2 z2 ⊢
  obtain ⟨o, n, c, a, d, x, T, F, k1, k2, k3⟩ := i2
  have hcap := k1.cap
  have hca := k1.2.2.2.2.2.2.2.2.1
  have ho := k1.2.2.2.2.2.2.1
  have hmn : mN (u2 13) = n := by rw [k1.2.1, mN_nI (by omega)]
  obtain ⟨i3, z3⟩ := zI.al (z0 := 0) (by omega) ht n o a T F u2 k1 k2 k3 z2
  have hx : xI (mR3 (nI t) (nI (t + r)) (nI sz) most u2) t (t + 1) (W + 6) ∧ zI (mR3 (nI t) (nI (t + r)) (nI sz) most u2) g t (t + 1) := by
    unfold mR3
    rw [hmn]
    by_cases h : (mAL (nI t) n 0 u2).1 = 0
    · rw [if_pos h]; exact ⟨i3.mono (by omega), z3⟩
    · rw [if_neg h]
      unfold mAsIs
      exact ⟨pI_sends hr (by omega) ht hsz i3, zI.sends hr1 hr (by omega) ht hsz1 hsz (by omega) i3 z3⟩
  exact zI.r4 hx.1.m6 hx.2
