theorem mTake_hi {told : Int32} {j : Nat} (hj : 27 ≤ j ∨ j = 13) : ∀ (f o : Nat) (u : Nat → Int32), u 6 = nI o → o ≤ 6 → mTake told f u j = u j := by
  intro f
  induction f with
  | zero => intro o u _ _; rfl
  | succ f ih =>
    intro o u h6 ho
    rw [mTake]
    by_cases h1 : told ≤ u 5
    · rw [if_pos h1]
    rw [if_neg h1]
    by_cases h2 : u 6 ≤ 0
    · rw [if_pos h2]
    rw [if_neg h2]
    have h0 : 0 < o := Nat.pos_of_ne_zero fun q => h2 (by rw [h6, q]; decide)
    rw [ih (o - 1) (mDrop u) (by rw [mDrop_6, h6, nI_s1 h0]) (by omega)]
    rcases hj with h | h
    · exact mDrop_hi h6 ho h
    · subst h; exact mDrop_lo (by decide) (by decide) (by decide)
def mSft (u : Nat → Int32) (n : Nat) : Nat → Int32 := upd (mShA u n) 13 (u 13 - 1)
theorem xC1.shift {u : Nat → Int32} {W o n c a d x : Nat} {T : Nat → Nat} (k1 : xC1 u W o (n + 1) c a d x T) : xCm (mSft u n) W o n c a (T 0) d x (fun j => T (j + 1)) ∧ mAnsC u = mTake (nI (T 0)) o (mSft u n) := by
  have hcap := k1.cap
  obtain ⟨h1, h2, h3, h4, h5, h6, h7, h8, h9, h10, h11, h12, h13, h14, h15, h16⟩ := k1
  rw [if_neg (by omega), show n + 1 - 1 = n by omega] at h15
  have hTc : T 0 ≤ c := by
    have e : ∀ q, q < n + 1 → T 0 ≤ T q := by
      intro q
      induction q with
      | zero => intro _; exact Nat.le_refl _
      | succ q ih => intro hq; have := h13 q hq; have := ih (by omega); omega
    have := e n (by omega)
    omega
  have b1 : ∀ j, j < 27 → j ≠ 13 → mSft u n j = u j := fun j p q => by unfold mSft; rw [up_n q, mShA_lo p]
  constructor
  · refine ⟨?_, ?_, ?_, ?_, ?_, ?_, h7, ?_, hTc, h9, h10, h11, ?_, fun j hj => h13 (j + 1) (by omega), fun q => h13 0 (by omega), ?_, ?_⟩
    · rw [b1 _ (by decide) (by decide), h1]
    · unfold mSft; rw [up_s, h2, nI_s1 (by omega)]; rfl
    · rw [b1 _ (by decide) (by decide), h3]
    · rw [b1 _ (by decide) (by decide), h4]
    · rw [b1 _ (by decide) (by decide), h5]
    · rw [b1 _ (by decide) (by decide), h6]
    · have := h14 (by omega); omega
    · intro j hj
      unfold mSft
      rw [up_n (by omega), show mShA u n (33 + j) = u (33 + (j + 1)) from if_pos (by omega), h12 (j + 1) (by omega)]
    · by_cases hq : n = 0
      · rw [if_pos hq]
        rw [hq] at h15
        exact h15
      · rw [if_neg hq]
        dsimp only
        rw [show n - 1 + 1 = n by omega]
        exact h15
    · rw [b1 _ (by decide) (by decide)]; exact h16
  · unfold mAnsC mSft
    rw [show u 33 = nI (T 0) from h12 0 (by omega), h1, mN_nI (by omega), h2, mN_nI (by omega)]
    rfl
theorem pL_recvAns {b t lo W c d x : Nat} {KK : Int32 → xS → Option (Int32 × xS)} (hW : W < 2 ^ 30) (ht : t < 2 ^ 29) : ∀ (n fuel o a : Nat) (z0 : Int32) (T F : Nat → Nat) (u : Nat → Int32) (σ : xS), xQ2 σ b u o n → xC1 u W o n c a d x T → xC2 u t lo o c a F → xC3 u t n → n < fuel → ∃ z o2 n2, L_X2_receiveAnswers_10 b (nI t) KK fuel z0 (nI n) σ = KK (mAL (nI t) n z0 u).1 z ∧ xfr σ z b (b + 9) ∧ xQ2 z b (mAL (nI t) n z0 u).2 o2 n2 := by
  intro n
  induction n with
  | zero =>
    intro fuel o a z0 T F u σ hQ k1 k2 k3 hf
    obtain ⟨g, rfl⟩ : ∃ g, fuel = g + 1 := ⟨fuel - 1, by omega⟩
    refine ⟨σ, o, 0, ?_, xfr.refl, hQ⟩
    rw [L_X2_receiveAnswers_10, if_pos (by decide)]
    rfl
  | succ n ih =>
    intro fuel o a z0 T F u σ hQ k1 k2 k3 hf
    obtain ⟨g, rfl⟩ : ∃ g, fuel = g + 1 := ⟨fuel - 1, by omega⟩
    have hcap := k1.cap
    have h6 := k1.1
    have ho := k1.2.2.2.2.2.2.1
    have hca := k1.2.2.2.2.2.2.2.2.1
    have h33 : u 33 = nI (T 0) := k1.2.2.2.2.2.2.2.2.2.2.2.1 0 (by omega)
    have h13 : ¬ u 13 ≤ 0 := by rw [k1.2.1]; exact nI_nle (by omega) (by omega)
    obtain ⟨w, hw⟩ := hQ.2.2.2.2.2.1
    obtain ⟨w2, hw2⟩ := hQ.2.2.2.2.2.2
    have et := pD_time (i := 0) hw2 (by omega) (by omega : n + 1 ≤ 6) (by decide)
    have en := pD_number (i := 0) hw2 (by omega) (by omega : n + 1 ≤ 6) (by decide)
    rw [nI_0] at et en
    rw [L_X2_receiveAnswers_10, mAL, if_neg h13, if_neg (nI_nle (by omega) (by omega)), et]
    simp only [xbI_s]
    by_cases h : u 27 = nI t
    · rw [if_neg (fun q => q h), if_neg (fun q => q h), en]
      simp only [xbI_s]
      obtain ⟨km, ke⟩ := k1.shift
      have b1 : ∀ j, j < 27 → j ≠ 13 → mSft u n j = u j := fun j p q => by unfold mSft; rw [up_n q, mShA_lo p]
      have hS : xS2 σ b (mSft u n) := by
        obtain ⟨s1, s2, s3, s4, s5, s6, s7, s8, s9, s10, s11⟩ := hQ.1
        exact ⟨by rw [b1 _ (by decide) (by decide), s1], by rw [b1 _ (by decide) (by decide), s2], by rw [b1 _ (by decide) (by decide), s3], by rw [b1 _ (by decide) (by decide), s4], by rw [b1 _ (by decide) (by decide), s5], by rw [b1 _ (by decide) (by decide), s6], by rw [b1 _ (by decide) (by decide), s7], by rw [b1 _ (by decide) (by decide), s8], by rw [b1 _ (by decide) (by decide), s9], by rw [b1 _ (by decide) (by decide), s10], by rw [b1 _ (by decide) (by decide), s11]⟩
      have hLt : xLt σ b (mSft u n) o := ⟨w, hw.cg (fun j hj => ⟨b1 _ (by omega) (by omega), rfl, b1 _ (by omega) (by omega)⟩)⟩
      obtain ⟨o9, F9, r1, r2, r3⟩ := pI_ansC k1 k2 k3 (by omega) h hW ht
      obtain ⟨z1, o2, q1, q2, q3, q4, q5, q6⟩ := pL_take (KK := fun (σ15 : xS) => xbV (F_X0_dropAt 6 (b + 5) 0 σ15) (fun (σ16 : xS) => xlet (nI (n + 1) + (-1)) (fun (zz17 : Int32) => L_X2_receiveAnswers_10 b (nI t) KK g 1 zz17 σ16))) hW o o a 1000 (mSft u n) σ hS hLt km (Nat.le_refl _) (by omega)
      rw [← ke] at q3 q4 q5
      have d0 := hw2.ex (σ2 := z1) (fun i p q => q2 i (by omega) (by omega))
      obtain ⟨z2, e2, f2, d2⟩ := pD_drop (i := 0) d0 (by omega) (by omega : n + 1 ≤ 6) (by decide)
      rw [nI_0] at e2
      have hhi : ∀ j, 27 ≤ j ∨ j = 13 → mAnsC u j = mSft u n j := fun j hj => by rw [ke]; exact mTake_hi hj o o _ km.1 ho
      have hQ2 : xQ2 z2 b (mAnsC u) o9 n := by
        obtain rfl : o9 = o2 := (nI_eq (by have := r1.2.2.2.2.2.2.1; omega) (by omega)).mp (r1.1.symm.trans q5)
        refine ⟨q3.ex (f2 b (by omega)), q5, r1.2.1, q6, by omega, ?_, ⟨mCut w2 0, ?_⟩⟩
        · obtain ⟨y, hy⟩ := q4
          exact ⟨y, hy.ex (fun i p q => f2 i (by omega))⟩
        · refine d2.cg (fun j hj => ⟨?_, rfl, ?_⟩)
          · rw [hhi _ (Or.inl (by omega))]
            unfold mSft mCut
            rw [up_n (by omega), if_neg (by omega)]
            exact if_pos (by omega)
          · rw [hhi _ (Or.inl (by omega))]
            unfold mSft mCut
            rw [up_n (by omega), if_neg (by omega)]
            exact if_pos (by omega)
      obtain ⟨z, o3, n3, p1, p2, p3⟩ := ih g o9 (T 0) 1 _ F9 (mAnsC u) z2 hQ2 r1 r2 r3 (by omega)
      refine ⟨z, o3, n3, ?_, ?_, p3⟩
      · rw [h33, q1, e2]
        simp only [xbV_s, xlet_s, pk_m1]
        exact p1
      · intro y hy
        rw [p2 y hy, f2 y (by omega), q2 y (by omega) (by omega)]
    · rw [if_pos h, if_pos h]
      exact ⟨σ, o, n + 1, rfl, xfr.refl, hQ⟩
