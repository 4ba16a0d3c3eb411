/-! THE PAIR'S TWO TAKINGS IN, WHOLE -/
theorem pP_recv {σ : xS} {b st t r W o n c a d x : Nat} {V u : Nat → Int32} {T F : Nat → Nat} (hQ : xQ2 σ b u o n) (hst : st < b ∨ b + 9 ≤ st) (hV : σ st = V) (hV0 : V 0 = nI r) (hr : r ≤ 9) (ht : t < 2 ^ 29) (hW : W < 2 ^ 30) (k1 : xC1 u W o n c a d x T) (k2 : xC2 u t t o c a F) (k3 : xC3 u t n) : ∃ z n2, F_X2_receiveLetters b (nI t) 4 st σ = some (mR1 (nI t) (nI (t + r)) (V 1) u 8 - u 8, z) ∧ xfr σ z b (b + 9) ∧ xQ2 z b (mR1 (nI t) (nI (t + r)) (V 1) u) o n2 := by
  have ho := k1.2.2.2.2.2.2.1
  have hac := k1.2.2.2.2.2.2.2.1
  have hca := k1.2.2.2.2.2.2.2.2.1
  have haw := k1.2.2.2.2.2.2.2.2.2.1
  have e95 : u 9 - u 5 = nI (c - a) := by rw [k1.2.2.1, k1.2.2.2.1, pk_sub hac]
  have eR1 : mR1 (nI t) (nI (t + r)) (V 1) u = mComes (nI t) (nI (t + r)) (V 1) (o - (c - a)) (c - a) u := by
    unfold mR1
    rw [e95, k1.1, mN_nI (by omega), mN_nI (by omega)]
  obtain ⟨z, n2, r1, r2, r3⟩ := pL_recv (KK := fun (σ3 : xS) => some (((σ3 b 9) - u 8), σ3)) hst hV0 hr ht (o - (c - a)) (c - a) 1000 n c d T u σ hQ hV k1 k2 k3 (by omega) (by omega) (by omega)
  rw [← eR1] at r3
  refine ⟨z, n2, ?_, r2, r3⟩
  unfold F_X2_receiveLetters
  rw [hQ.1.2.2.2.2.2.2.1, hQ.1.2.2.2.2.2.2.2.1, hQ.1.2.2.2.2.2.1, e95]
  simp only [xlet_s]
  rw [r1, r3.1.2.2.2.2.2.2.1]
theorem mAL_01 {t : Int32} : ∀ (f : Nat) (z : Int32) (u : Nat → Int32), z = 0 ∨ z = 1 → (mAL t f z u).1 = 0 ∨ (mAL t f z u).1 = 1 := by
  intro f
  induction f with
  | zero => intro z u h; exact h
  | succ f ih =>
    intro z u h
    rw [mAL]
    by_cases h1 : u 13 ≤ 0
    · rw [if_pos h1]; exact h
    rw [if_neg h1]
    by_cases h2 : u 27 = t
    · rw [if_neg (fun q => q h2)]; exact ih 1 _ (Or.inr rfl)
    · rw [if_pos h2]; exact h
theorem pP_recvAns {σ : xS} {b t lo W o n c a d x : Nat} {u : Nat → Int32} {T F : Nat → Nat} (hQ : xQ2 σ b u o n) (ht : t < 2 ^ 29) (hW : W < 2 ^ 30) (k1 : xC1 u W o n c a d x T) (k2 : xC2 u t lo o c a F) (k3 : xC3 u t n) : ∃ z o2 n2, F_X2_receiveAnswers b (nI t) σ = some ((mAL (nI t) n 0 u).1, z) ∧ xfr σ z b (b + 9) ∧ xQ2 z b (mAL (nI t) n 0 u).2 o2 n2 := by
  have hcap := k1.cap
  have ho := k1.2.2.2.2.2.2.1
  have hca := k1.2.2.2.2.2.2.2.2.1
  obtain ⟨w2, hw2⟩ := hQ.2.2.2.2.2.2
  obtain ⟨z, o2, n2, r1, r2, r3⟩ := pL_recvAns (KK := fun (zz2 : Int32) (σ3 : xS) => if vp_nar .boolean zz2 = zz2 then some (zz2, σ3) else none) hW ht n 1000 o a 0 T F u σ hQ k1 k2 k3 (by omega)
  refine ⟨z, o2, n2, ?_, r2, r3⟩
  unfold F_X2_receiveAnswers
  rw [hw2.1]
  simp only [xlet_s]
  rw [r1]
  rcases mAL_01 (t := nI t) n 0 u (Or.inl rfl) with h | h <;> rw [h] <;> exact if_pos (by decide)
