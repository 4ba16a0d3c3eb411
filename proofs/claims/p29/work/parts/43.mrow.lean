/-! A TICK OF ONE WRITER'S ROW -/
theorem xI.cg {u v : Nat → Int32} {t lo W : Nat} (h : xI u t lo W) (hv : ∀ j, j ≠ 1 → j ≠ 2 → j ≠ 3 → j ≠ 4 → j ≠ 8 → j ≠ 12 → v j = u j) : xI v t lo W := by
  obtain ⟨o, n, c, a, d, x, T, F, ⟨h1, h2, h3, h4, h5, h6, h7, h8, h9, h10, h11, h12, h13, h14, h15, h16⟩, k2, k3⟩ := h
  have e : ∀ j, 13 ≤ j → v j = u j := fun j hj => hv j (by omega) (by omega) (by omega) (by omega) (by omega) (by omega)
  refine ⟨o, n, c, a, d, x, T, F, ⟨?_, ?_, ?_, ?_, ?_, ?_, h7, h8, h9, h10, h11, fun j hj => by rw [e _ (by omega), h12 j hj], h13, h14, h15, ?_⟩, k2.cg (hv 7 (by decide) (by decide) (by decide) (by decide) (by decide) (by decide)) (fun j hj _ => e j (by omega)) h7, k3.cg (e 14 (by decide)) (fun j hj => e j (by omega))⟩
  · rw [hv 6 (by decide) (by decide) (by decide) (by decide) (by decide) (by decide), h1]
  · rw [e 13 (by decide), h2]
  · rw [hv 9 (by decide) (by decide) (by decide) (by decide) (by decide) (by decide), h3]
  · rw [hv 5 (by decide) (by decide) (by decide) (by decide) (by decide) (by decide), h4]
  · rw [hv 10 (by decide) (by decide) (by decide) (by decide) (by decide) (by decide), h5]
  · rw [hv 0 (by decide) (by decide) (by decide) (by decide) (by decide) (by decide), h6]
  · rw [hv 11 (by decide) (by decide) (by decide) (by decide) (by decide) (by decide)]; exact h16
theorem nI_nm1 {t : Nat} (h : t < 2 ^ 31) : ¬ nI t = -1 := fun q => nI_pos h (by rw [q]; decide)
def mR1 (t tt wait : Int32) (u : Nat → Int32) : Nat → Int32 := mComes t tt wait (mN (u 6) - mN (u 9 - u 5)) (mN (u 9 - u 5)) u
def mR2 (t tt : Int32) (u : Nat → Int32) : Nat → Int32 := if ¬ u 11 = t then u else mAns tt u
def mR3 (t tt size most : Int32) (u : Nat → Int32) : Nat → Int32 := if (mAL t (mN (u 13)) 0 u).1 = 0 then (mAL t (mN (u 13)) 0 u).2 else mAsIs tt size most (mAL t (mN (u 13)) 0 u).2
def mR4 (u : Nat → Int32) : Nat → Int32 := upd u 4 (u 4 + (if u 0 ≤ 0 then 0 else 1))
/-- a tick of a row -/
def mRow (t tt wait size most : Int32) (u : Nat → Int32) : Nat → Int32 := mR4 (mR3 t tt size most (mR2 t tt (mR1 t tt wait u)))
theorem pI_R2 {t r W : Nat} {u : Nat → Int32} (hr : r ≤ 9) (ht : t < 2 ^ 29) (h : xI u t (t + 1) W) : xI (mR2 (nI t) (nI (t + r)) u) t (t + 1) W := by
  obtain ⟨o, n, c, a, d, x, T, F, k1, k2, k3⟩ := h
  unfold mR2
  by_cases h : u 11 = nI t
  · rw [if_neg (fun q => q h)]
    have hd : 1 ≤ d := k1.2.2.2.2.2.2.2.2.2.2.2.2.2.2.2.resolve_left (fun q => nI_nm1 (t := t) (by omega) (h.symm.trans q))
    obtain ⟨hn, k⟩ := k1.ans (tt := nI (t + r)) hd
    exact ⟨_, _, _, _, _, _, _, F, k, k2.cg (mAns_lo (by decide)) (fun j p q => mAns_mid p q) k1.2.2.2.2.2.2.1, k3.ans k1.2.1 hn hr ht⟩
  · rw [if_pos h]; exact ⟨o, n, c, a, d, x, T, F, k1, k2, k3⟩
theorem pF_X6_writerTicks {σ : xS} {ar k t r sz m W : Nat} {u : Nat → Int32} (hk : k < 4) (h1 : σ ar 1 = nI t) (h3 : σ ar 3 = nI r) (h5 : σ ar 5 = nI sz) (h6 : σ ar 6 = nI m) (hr0 : 1 ≤ r) (hr : r ≤ 9) (hsz : sz ≤ 99) (hm : m ≤ 6) (ht : t < 2 ^ 29) (hW : W < 2 ^ 30) (hI : xI u t t W) : F_X6_writerTicks 187 ar (nI k) (xX σ ar k u) = some (xX σ ar k (mRow (nI t) (nI (t + r)) (σ ar 4) (σ ar 5) (σ ar 6) u)) ∧ xI (mRow (nI t) (nI (t + r)) (σ ar 4) (σ ar 5) (σ ar 6) u) t (t + 1) (W + 6) := by
  obtain ⟨o, n, c, a, d, x, T, F, k1, k2, k3⟩ := hI
  have ho := k1.2.2.2.2.2.2.1
  have hac := k1.2.2.2.2.2.2.2.1
  have hca := k1.2.2.2.2.2.2.2.2.1
  have haw := k1.2.2.2.2.2.2.2.2.2.1
  have e95 : u 9 - u 5 = nI (c - a) := by rw [k1.2.2.1, k1.2.2.2.1, pk_sub hac]
  have eR1 : mR1 (nI t) (nI (t + r)) (σ ar 4) u = mComes (nI t) (nI (t + r)) (σ ar 4) (o - (c - a)) (c - a) u := by
    unfold mR1
    rw [e95, k1.1, mN_nI (by omega), mN_nI (by omega)]
  have i1 : xI (mR1 (nI t) (nI (t + r)) (σ ar 4) u) t (t + 1) W := by
    rw [eR1]
    exact pI_comes hr ht (o - (c - a)) (c - a) n c d T u k1 k2 k3 (by omega) (by omega)
  have i2 := pI_R2 (r := r) hr ht i1
  obtain ⟨u1, hu1⟩ : ∃ y, y = mR1 (nI t) (nI (t + r)) (σ ar 4) u := ⟨_, rfl⟩
  obtain ⟨u2, hu2⟩ : ∃ y, y = mR2 (nI t) (nI (t + r)) u1 := ⟨_, rfl⟩
  rw [← hu1, ← hu2] at i2
  rw [← hu1] at i1 eR1
  have eRow : mRow (nI t) (nI (t + r)) (σ ar 4) (σ ar 5) (σ ar 6) u = mR4 (mR3 (nI t) (nI (t + r)) (σ ar 5) (σ ar 6) u2) := by rw [hu2, hu1]; rfl
  rw [eRow]
  -- what follows the letters
  have h2 : ∀ KK : xS → Option xS, (if ¬ u1 11 = nI t then (KK (xX σ ar k u1)) else (xbV (F_X6_answers 187 ar (nI k) (xX σ ar k u1)) (fun (σ41 : xS) => KK σ41))) = KK (xX σ ar k u2) := by
    intro KK
    rw [hu2]
    unfold mR2
    by_cases h : u1 11 = nI t
    · obtain ⟨o', n', c', a', d', x', T', F', g1, -, -⟩ := i1
      have hd : 1 ≤ d' := g1.2.2.2.2.2.2.2.2.2.2.2.2.2.2.2.resolve_left (fun q => nI_nm1 (t := t) (by omega) (h.symm.trans q))
      rw [if_neg (fun q => q h), if_neg (fun q => q h), pF_X6_answers hk (g1.ans (tt := nI (t + r)) hd).1 g1.2.1, h1, h3, nI_add]
      rfl
    · rw [if_pos h, if_pos h]
  obtain ⟨o2, n2, c2, a2, d2, x2, T2, F2, g1, g2, g3⟩ := i2
  have hn2 : n2 ≤ 6 := by
    have q1 := g1.cap
    have q2 := g1.2.2.2.2.2.2.1
    have q3 := g1.2.2.2.2.2.2.2.2.1
    omega
  have hmn : mN (u2 13) = n2 := by rw [g1.2.1, mN_nI (by omega)]
  have hal := fun KK => pL_X6_answers (σ := σ) (ar := ar) (KK := KK) hk h1 hW ht n2 1000 o2 a2 0 T2 F2 u2 g1 g2 g3 (by omega)
  have i3 : xI (mAL (nI t) n2 0 u2).2 t (t + 1) W := (hal (fun _ _ => none)).2
  have i4 : xI (mR3 (nI t) (nI (t + r)) (σ ar 5) (σ ar 6) u2) t (t + 1) (W + 6) := by
    unfold mR3
    rw [hmn]
    by_cases h : (mAL (nI t) n2 0 u2).1 = 0
    · rw [if_pos h]; exact i3.mono (by omega)
    · rw [if_neg h]
      unfold mAsIs
      rw [h5]
      exact pI_sends hr (by omega) ht hsz i3
  refine ⟨?_, i4.cg (fun j _ _ _ h4 _ _ => up_n h4)⟩
  have tail : ∀ v, (xbI (F_X6_of 187 ar (nI k) 4 (xX σ ar k v)) (fun (zz17 : Int32) (σ16 : xS) => xbI (F_X6_of 187 ar (nI k) 0 σ16) (fun (zz19 : Int32) (σ18 : xS) => if zz19 ≤ 0 then (xbV (F_X6_lay 187 ar (nI k) 4 (zz17 + 0) σ18) (fun (σ20 : xS) => some σ20)) else (xbV (F_X6_lay 187 ar (nI k) 4 (zz17 + 1) σ18) (fun (σ21 : xS) => some σ21))))) = some (xX σ ar k (mR4 v)) := by
    intro v
    unfold mR4
    simp only [xof_4 hk, xbI_s, xof_0 hk, xly_4 hk, xbV_s]
    by_cases h : v 0 ≤ 0
    · rw [if_pos h, if_pos h]
    · rw [if_neg h, if_neg h]
  unfold F_X6_writerTicks
  simp only [xof_9 hk, xof_5 hk, xof_6 hk, xbI_s, xlet_s, e95, k1.1]
  rw [pL_X6_comes hk h1 h3 hr ht (o - (c - a)) (c - a) 1000 n c d T u k1 k2 k3 (by omega) (by omega) (by omega), ← eR1]
  simp only [xof_11 hk, xbI_s, xin_1, if_true, cl_1, xX_hd (show 1 < 31 by decide), h1, xjn_s, xlet_s]
  rw [h2, (hal _).1]
  unfold mR3
  rw [hmn]
  by_cases h : (mAL (nI t) n2 0 u2).1 = 0
  · rw [if_pos h, if_pos h]
    exact tail _
  · rw [if_neg h, if_neg h]
    obtain ⟨o3, n3, c3, a3, d3, x3, T3, F3, f1, -, -⟩ := i3
    rw [pF_X6_asItDoes hk h6 hm f1.1 f1.2.2.2.2.2.2.1, h1, h3, nI_add]
    simp only [xbI_s]
    exact tail _
