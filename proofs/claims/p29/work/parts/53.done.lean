/-! IS A WRITER DONE -/
def rHas : Nat → Nat → Nat → (Nat → Int32) → Bool
  | 0, _, _, _ => false
  | q + 1, i, k, r => decide (r (7 + 3 * i + 1) = nI k) || rHas q (i + 1) k r
def rDn (k : Nat) (r : Nat → Int32) : Bool := decide (rRow r k 0 = 0) && decide (rRow r k 6 = 0) && !rHas (mN (r 2)) 0 k r
theorem rHas_eq {k : Nat} {r r2 : Nat → Int32} (h : ∀ i, i < 31 → r2 i = r i) : ∀ (q i : Nat), i + q ≤ 8 → rHas q i k r2 = rHas q i k r := by
  intro q
  induction q with
  | zero => intro i hi; rfl
  | succ q ih => intro i hi; rw [rHas, rHas, h _ (by omega), ih (i + 1) (by omega)]
theorem rEq.dn {k : Nat} {r r2 : Nat → Int32} (h : rEq k r r2) : rDn k r2 = rDn k r := by
  unfold rDn
  rw [h.2.1, h.1 2 (by decide), rHas_eq h.1 _ _ (by have := h.2.2; omega)]
section RV
variable {m t tr wt sz ms L : Nat} {lo : Nat → Nat}
theorem pL_X6_isDone {σ : xS} {a k : Nat} {r : Nat → Int32} {KK : Int32 → xS → Option (Int32 × xS)} (h2 : r 2 = nI L) (hL : L ≤ 8) : ∀ (q i fuel : Nat) (b : Bool), i + q = L → q < fuel → L_X6_isDone_27 187 a (nI k) KK fuel (if b = true then 1 else 0) (nI i) (xset σ a r) = KK (if (b && !rHas q i k r) = true then 1 else 0) (xset σ a r) := by
  intro q
  induction q with
  | zero =>
    intro i fuel b hi hf
    obtain ⟨g, rfl⟩ : ∃ g, fuel = g + 1 := ⟨fuel - 1, by omega⟩
    rw [L_X6_isDone_27]
    simp only [xin_2, if_true, cl_2, xlet_s, xset_same, h2]
    rw [if_pos (nI_le (by omega) (by omega)), rHas]
    cases b <;> rfl
  | succ q ih =>
    intro i fuel b hi hf
    obtain ⟨g, rfl⟩ : ∃ g, fuel = g + 1 := ⟨fuel - 1, by omega⟩
    have hx1 : xin (nI (7 + 3 * i + 1)) 187 = true := xin_nI (by omega) (by decide)
    have hc1 : (nI (7 + 3 * i + 1)).toNatClampNeg = 7 + 3 * i + 1 := nI_clamp (by omega)
    have i0 := ih (i + 1) g false (by omega) (by omega)
    have i1 := ih (i + 1) g true (by omega) (by omega)
    rw [L_X6_isDone_27]
    simp only [xin_2, if_true, cl_2, xlet_s, xset_same, h2, nI_7x, nI_1, hx1, hc1]
    rw [if_neg (nI_ge (by omega) (by omega)), rHas]
    cases b with
    | false =>
      rw [if_pos (by rfl)]
      refine i0.trans ?_
      simp
    | true =>
      rw [if_neg (by decide)]
      by_cases e : r (7 + 3 * i + 1) = nI k
      · rw [if_pos e]
        refine i0.trans ?_
        simp [e]
      · rw [if_neg e]
        refine i1.trans ?_
        simp [e]
theorem pR_isDone {σ : xS} {a k W : Nat} {r : Nat → Int32} (h : rOK r m t tr wt sz ms L lo W) (hk : k < 4) : F_X6_isDone 187 a (nI k) (xset σ a r) = some (if rDn k r = true then 1 else 0, xset σ a r) := by
  have hL8 := h.L8
  have hl := fun b => pL_X6_isDone (σ := σ) (a := a) (k := k) (KK := fun (zz5 : Int32) (σ6 : xS) => if vp_nar .boolean zz5 = zz5 then some (zz5, σ6) else none) h.1.2.2.1 h.L8 L 0 1000 b (by omega) (by omega)
  have fin : ∀ b : Bool, (fun (zz5 : Int32) (σ6 : xS) => if vp_nar .boolean zz5 = zz5 then some (zz5, σ6) else none) (if b = true then (1 : Int32) else 0) (xset σ a r) = some (if b = true then 1 else 0, xset σ a r) := by
    intro b
    cases b
    · exact if_pos (by decide)
    · exact if_pos (by decide)
  have e0 : F_X6_of 187 a (nI k) 0 (xset σ a r) = some (rRow r k 0, xset σ a r) := pR_of (w := 0) hk (by decide)
  have e6 : F_X6_of 187 a (nI k) 6 (xset σ a r) = some (rRow r k 6, xset σ a r) := pR_of (w := 6) hk (by decide)
  unfold F_X6_isDone rDn
  rw [h.LL, e0]
  simp only [xbI_s, xjn_s, e6]
  by_cases h0 : rRow r k 0 = 0
  · rw [if_neg (fun q => q h0)]
    by_cases h6 : rRow r k 6 = 0
    · rw [if_neg (fun q => q h6)]
      refine ((hl true).trans (fin _)).trans ?_
      simp [h0, h6]
    · rw [if_pos h6]
      refine ((hl false).trans (fin _)).trans ?_
      simp [h6]
  · rw [if_pos h0]
    refine ((hl false).trans (fin _)).trans ?_
    simp [h0]
theorem pL_X3_has {σ : xS} {p k : Nat} {r : Nat → Int32} {K2 K5 : xS → Option (Int32 × xS)} (hQ : xQ3 σ p r L) (hL : L ≤ 8) : ∀ (q i fuel : Nat), i + q = L → q < fuel → L_X3_hasPlannedFor_2 p (nI k) K2 K5 fuel (nI i) σ = if rHas q i k r = true then K2 σ else K5 σ := by
  intro q
  induction q with
  | zero =>
    intro i fuel hi hf
    obtain ⟨g, rfl⟩ : ∃ g, fuel = g + 1 := ⟨fuel - 1, by omega⟩
    rw [L_X3_hasPlannedFor_2, hQ.2.1, if_pos (nI_le (by omega) (by omega)), rHas]
    rfl
  | succ q ih =>
    intro i fuel hi hf
    obtain ⟨g, rfl⟩ : ∃ g, fuel = g + 1 := ⟨fuel - 1, by omega⟩
    rw [L_X3_hasPlannedFor_2, hQ.2.1, if_neg (nI_ge (by omega) (by omega)), pD_writer hQ.2 (by omega) hL (by decide), xbI_s, xlet_s, nI_1, ih (i + 1) g (by omega) (by omega), rHas]
    by_cases e : r (7 + 3 * i + 1) = nI k
    · rw [if_neg (fun q => q e), if_pos (by simp [e])]
    · rw [if_pos e]
      simp [e]
theorem pT_isDone {σ : xS} {p k W : Nat} {r : Nat → Int32} (h : rOK r m t tr wt sz ms L lo W) (hQ : xQ3 σ p r L) (hk : k < 4) : F_X3_isDone p (nI k) σ = some (if rDn k r = true then 1 else 0, σ) := by
  have hL8 := h.L8
  obtain ⟨o, n, q⟩ := hQ.1.2.2.2 k hk
  obtain ⟨w, hw⟩ := q.2.2.2.2.2.1
  have e6 : σ (p + 7 + 9 * k + 1) 3 = rRow r k 6 := by rw [hw.1, q.2.1]
  unfold F_X3_isDone rDn F_X3_hasPlannedFor
  rw [if_pos (xin_nI (by omega) (by decide)), if_pos (xin_nI (by omega) (by decide)), nI_clamp (by omega), q.1.1, e6, h.LL, show L_X3_hasPlannedFor_2 p (nI k) (fun (σ1 : xS) => some ((1 : Int32), σ1)) (fun (σ4 : xS) => some ((0 : Int32), σ4)) 1000 0 σ = _ from pL_X3_has hQ hL8 L 0 1000 (by omega) (by omega)]
  by_cases h0 : rRow r k 0 = 0
  · rw [if_neg (fun q => q h0)]
    by_cases h6 : rRow r k 6 = 0
    · rw [if_neg (fun q => q h6)]
      cases hh : rHas L 0 k r
      · simp [h0, h6, xbI_s]
      · simp [h0, h6, xbI_s]
    · rw [if_pos h6]; simp [h6]
  · rw [if_pos h0]; simp [h0]
/-! ticks until a writer is done -/
theorem pL_X6_until {σ : xS} {a k : Nat} (hk : k < 4) : ∀ (d i fuel t L W : Nat) (r : Nat → Int32), i + d = 400 → d < fuel → t + d < 2 ^ 28 → W + 72 * d < 2 ^ 28 → rOK r m t tr wt sz ms L (rLo 0 m (t + 1)) W → ∃ r2, L_X6_untilDone_2 187 a (nI k) (fun (zz1 : Int32) (σ2 : xS) => xbI (F_X6_isDone 187 a (nI k) σ2) (fun (zz4 : Int32) (σ3 : xS) => if zz4 = 0 then (some ((-1 : Int32), σ3)) else (some (zz1, σ3)))) fuel (nI i) (xset σ a r) = some (rVal i (rFst (rTick 0 m) (rDn k) d r), xset σ a r2) := by
  intro d
  induction d with
  | zero =>
    intro i fuel t L W r hi hf ht hW h
    obtain ⟨g, rfl⟩ : ∃ g, fuel = g + 1 := ⟨fuel - 1, by omega⟩
    refine ⟨r, ?_⟩
    rw [L_X6_untilDone_2, if_pos (show (400 : Int32) ≤ nI i from nI_le (a := 400) (b := i) (by omega) (by omega)), pR_isDone h hk, xbI_s, rFst]
    cases hd : rDn k r
    · rw [if_pos (by rfl), if_neg (by decide)]; rfl
    · rw [if_neg (by decide), if_pos rfl]; rfl
  | succ d ih =>
    intro i fuel t L W r hi hf ht hW h
    obtain ⟨g, rfl⟩ : ∃ g, fuel = g + 1 := ⟨fuel - 1, by omega⟩
    obtain ⟨L2, hL, h2⟩ := pK_tick (by omega) (by omega) (Nat.le_refl m) h
    rw [L_X6_untilDone_2, if_neg (show ¬ (400 : Int32) ≤ nI i from nI_ge (a := i) (b := 400) (by omega) (by decide)), pR_isDone h hk, xbI_s, rFst, pR_tick (by omega) (by omega) h, xbV_s, xlet_s, nI_1]
    cases hd : rDn k r
    · rw [if_neg (by decide), if_neg (by decide), rVal_m]
      exact ih (i + 1) g (t + 1) L2 (W + 72) _ (by omega) (by omega) (by omega) (by omega) h2
    · refine ⟨r, ?_⟩
      rw [if_pos (by decide), pR_isDone h hk, xbI_s, hd, if_pos rfl, if_neg (by decide)]
      rfl
theorem pR_until {σ : xS} {a k W : Nat} {r : Nat → Int32} (hk : k < 4) (ht : t < 2 ^ 27) (hW : W < 2 ^ 27) (h : rOK r m t tr wt sz ms L (rLo 0 m (t + 1)) W) : ∃ r2, F_X6_untilDone 187 a (nI k) (xset σ a r) = some (rVal 0 (rFst (rTick 0 m) (rDn k) 400 r), xset σ a r2) :=
  pL_X6_until hk 400 0 1000 t L W r (by omega) (by omega) (by omega) (by omega) h
theorem pL_X3_until {p k M : Nat} (hk : k < m) (hM : M ≤ 400) : ∀ (d i fuel t L W : Nat) (r : Nat → Int32) (σ : xS), i + d = M → d + 1 < fuel → t + d < 2 ^ 26 → W + 72 * d < 2 ^ 26 → rOK r m t tr wt sz ms L (rLo k (k + 1) (t + 1)) W → xQ3 σ p r L → ∃ z, L_X3_ticksUntilDone_2 p (nI k) (nI M) (fun (zz1 : Int32) (σ2 : xS) => some (zz1, σ2)) (fun (σ5 : xS) => some ((-1 : Int32), σ5)) fuel (nI i) σ = some (rVal i (rFst (rTick k (k + 1)) (rDn k) d r), z) ∧ xfr σ z p (p + 43) := by
  intro d
  induction d with
  | zero =>
    intro i fuel t L W r σ hi hf ht hW h hQ
    obtain ⟨g, rfl⟩ : ∃ g, fuel = g + 1 := ⟨fuel - 1, by omega⟩
    have hm4 := h.m4
    rw [L_X3_ticksUntilDone_2, if_neg (nI_nlt (by omega) (by omega)), pT_isDone h hQ (by omega), xbI_s, rFst]
    cases hd : rDn k r
    · obtain ⟨z, L2, g1, g2, -⟩ := pT_ticks (n := 1) (by decide) (Nat.le_succ k) (by omega) (by omega) (by omega) h hQ
      rw [if_pos (by rfl), if_neg (by decide), nI_1, show F_X3_passTicks p 1 (nI k) (nI (k + 1)) σ = _ from g1, xbI_s, xlet_s, nI_1]
      obtain ⟨g', rfl⟩ : ∃ g', g = g' + 1 := ⟨g - 1, by omega⟩
      rw [L_X3_ticksUntilDone_2, if_pos (nI_lt (by omega) (by omega))]
      exact ⟨z, rfl, g2⟩
    · rw [if_neg (by decide), if_pos rfl]
      exact ⟨σ, rfl, xfr.refl⟩
  | succ d ih =>
    intro i fuel t L W r σ hi hf ht hW h hQ
    obtain ⟨g, rfl⟩ : ∃ g, fuel = g + 1 := ⟨fuel - 1, by omega⟩
    have hm4 := h.m4
    rw [L_X3_ticksUntilDone_2, if_neg (nI_nlt (by omega) (by omega)), pT_isDone h hQ (by omega), xbI_s, rFst]
    cases hd : rDn k r
    · obtain ⟨z, L2, g1, g2, g3, g4, g5⟩ := pT_ticks (n := 1) (by decide) (Nat.le_succ k) (by omega) (by omega) (by omega) h hQ
      rw [if_pos (by rfl), if_neg (by decide), rVal_m, nI_1, show F_X3_passTicks p 1 (nI k) (nI (k + 1)) σ = _ from g1, xbI_s, xlet_s, nI_1]
      obtain ⟨z2, e1, e2⟩ := ih (i + 1) g (t + 1) L2 (W + 72) (rTick k (k + 1) r) z (by omega) (by omega) (by omega) (by omega) g5 g4
      exact ⟨z2, e1, g2.trans e2⟩
    · rw [if_neg (by decide), if_pos rfl]
      exact ⟨σ, rfl, xfr.refl⟩
theorem rLo_sub {f e t k : Nat} (h1 : f ≤ k) (h2 : k < e) : ∀ j, rLo k (k + 1) t j ≤ rLo f e t j := by
  intro j
  unfold rLo
  by_cases e : j = k
  · subst e; rw [if_pos (by omega), if_pos (by omega)]; exact Nat.le_refl _
  · rw [if_neg (by omega)]; exact Nat.zero_le _
theorem rOK.one {r : Nat → Int32} {k W : Nat} (h : rOK r m t tr wt sz ms L (rLo 0 m (t + 1)) W) (hk : k < m) : rOK r m t tr wt sz ms L (rLo k (k + 1) (t + 1)) W :=
  ⟨h.1, h.2.1, fun j hj => (h.2.2.1 j hj).low (rLo_sub (Nat.zero_le _) hk j), h.2.2.2⟩
theorem rEq.refl {k : Nat} {r : Nat → Int32} (h : mN (r 2) ≤ 8) : rEq k r r := ⟨fun _ _ => rfl, rfl, h⟩
theorem rFst_one {k d W : Nat} {r : Nat → Int32} (h : rOK r m t tr wt sz ms L lo W) (hk : k < m) : rFst (rTick k (k + 1)) (rDn k) d r = rFst (rTick 0 m) (rDn k) d r :=
  rFst_eq (E := rEq k) (fun _ _ h => h.tick (Nat.zero_le _) hk (Nat.le_refl _) (Nat.lt_succ_self _)) (fun _ _ h => h.dn) d r r (rEq.refl (by rw [h.LL]; exact h.L8))
/-- ticks until done, in the class -/
theorem pT_until {σ : xS} {p k M W : Nat} {r : Nat → Int32} (hk : k < m) (hM : M ≤ 400) (ht : t < 2 ^ 25) (hW : W < 2 ^ 25) (h : rOK r m t tr wt sz ms L (rLo 0 m (t + 1)) W) (hQ : xQ3 σ p r L) : ∃ z, F_X3_ticksUntilDone p (nI k) (nI M) σ = some (rVal 0 (rFst (rTick 0 m) (rDn k) M r), z) ∧ xfr σ z p (p + 43) := by
  obtain ⟨z, e1, e2⟩ := pL_X3_until hk hM M 0 1000 t L W r σ (by omega) (by omega) (by omega) (by omega) (h.one hk) hQ
  rw [rFst_one h hk] at e1
  exact ⟨z, e1, e2⟩
end RV
