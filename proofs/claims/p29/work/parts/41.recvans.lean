/-! THE PAIR TAKES ANSWERS IN -/
theorem pL_take {b bb W n c d x : Nat} {T : Nat → Nat} {KK : xS → Option (Int32 × xS)} (hW : W < 2 ^ 30) : ∀ (f o a fuel : Nat) (v : Nat → Int32) (σ : xS), xS2 σ b v → xLt σ b v o → xCm v W o n c a bb d x T → o ≤ f → f < fuel → ∃ z o2, L_X2_receiveAnswers_36 b (nI bb) KK fuel σ = KK z ∧ (∀ i, i ≠ b → (i < b + 1 ∨ b + 5 ≤ i) → z i = σ i) ∧ xS2 z b (mTake (nI bb) f v) ∧ xLt z b (mTake (nI bb) f v) o2 ∧ mTake (nI bb) f v 6 = nI o2 ∧ o2 ≤ 6 := by
  intro f
  induction f with
  | zero =>
    intro o a fuel v σ hS hL hC ho hf
    obtain ⟨g, rfl⟩ : ∃ g, fuel = g + 1 := ⟨fuel - 1, by omega⟩
    obtain ⟨h1, h2, h3, h4, h5, h6, h7, h8, h9, h10, h11, -⟩ := hC
    refine ⟨σ, o, ?_, fun _ _ _ => rfl, hS, hL, h1, h7⟩
    rw [L_X2_receiveAnswers_36, hS.2.2.2.2.2.1, h4, if_pos (nI_le (by omega) (by omega))]
  | succ f ih =>
    intro o a fuel v σ hS hL hC ho hf
    obtain ⟨g, rfl⟩ : ∃ g, fuel = g + 1 := ⟨fuel - 1, by omega⟩
    obtain ⟨h1, h2, h3, h4, h5, h6, h7, h8, h9, h10, h11, -⟩ := id hC
    rw [L_X2_receiveAnswers_36, hS.2.2.2.2.2.1, h4, mTake]
    by_cases h : a = bb
    · subst h
      rw [if_pos (nI_le (Nat.le_refl _) (by omega)), if_pos (by rw [h4]; exact nI_le (Nat.le_refl _) (by omega))]
      exact ⟨σ, o, rfl, fun _ _ _ => rfl, hS, hL, h1, h7⟩
    · rw [if_neg (nI_ge (by omega) (by omega)), if_neg (by rw [h4]; exact nI_ge (by omega) (by omega)), if_neg (by rw [h1]; exact nI_nle (by omega) (by omega))]
      obtain ⟨w, hw⟩ := hL
      obtain ⟨z1, e1, f1, d1⟩ := pD_drop (i := 0) hw (by omega) (by omega : o ≤ 6) (by decide)
      rw [nI_0] at e1
      have hz : z1 b = σ b := f1 b (by omega)
      obtain ⟨z, o2, r1, r2, r3, r4, r5, r6⟩ := ih (o - 1) (a + 1) g (mDrop v) (xu z1 b 6 (z1 b 6 + 1)) (by
        obtain ⟨k1, k2, k3, k4, k5, k6, k7, k8, k9, k10, k11⟩ := hS
        unfold xS2
        rw [xu_same, hz]
        refine ⟨?_, ?_, ?_, ?_, ?_, ?_, ?_, ?_, ?_, ?_, ?_⟩
        · rw [up_n (by decide), mDrop_lo (by decide) (by decide) (by decide), k1]
        · rw [up_n (by decide), mDrop_lo (by decide) (by decide) (by decide), k2]
        · rw [up_n (by decide), mDrop_lo (by decide) (by decide) (by decide), k3]
        · rw [up_n (by decide), mDrop_lo (by decide) (by decide) (by decide), k4]
        · rw [up_n (by decide), mDrop_lo (by decide) (by decide) (by decide), k5]
        · rw [up_s, mDrop_5, k6]
        · rw [up_n (by decide), mDrop_lo (by decide) (by decide) (by decide), k7]
        · rw [up_n (by decide), mDrop_lo (by decide) (by decide) (by decide), k8]
        · rw [up_n (by decide), mDrop_lo (by decide) (by decide) (by decide), k9]
        · rw [up_n (by decide), mDrop_lo (by decide) (by decide) (by decide), k10]
        · rw [up_n (by decide), mDrop_lo (by decide) (by decide) (by decide), k11]) (by
        refine ⟨mCut w 0, (d1.ex (fun i p q => xu_other (by omega))).cg (fun j hj => ⟨?_, rfl, ?_⟩)⟩
        · rw [mDrop_sh h1 h7 (by omega) (by omega)]
          unfold mCut
          rw [if_neg (by omega)]
          rfl
        · rw [mDrop_sh h1 h7 (by omega) (by omega)]
          unfold mCut
          rw [if_neg (by omega)]
          rfl) (hC.drop (by omega)) (by omega) (by omega)
      refine ⟨z, o2, ?_, fun i p q => ?_, r3, r4, r5, r6⟩
      · rw [e1]
        simp only [xbV_s, xlet_s]
        exact r1
      · rw [r2 i p q, xu_other p, f1 i (by omega)]
