/-! TICKS UNTIL SO MUCH IS THERE; WHAT IS IN RANGE -/
def rTh (k : Nat) (all : Int32) (r : Nat → Int32) : Bool := decide (all ≤ rRow r k 8)
theorem rEq.th {k : Nat} {all : Int32} {r r2 : Nat → Int32} (h : rEq k r r2) : rTh k all r2 = rTh k all r := by
  unfold rTh
  rw [h.2.1]
section RH
variable {m t tr wt sz ms L : Nat} {lo : Nat → Nat}
theorem pL_X6_there {σ : xS} {o k : Nat} {all : Int32} (hk : k < 4) : ∀ (d i fuel t L W : Nat) (r : Nat → Int32), i + d = 400 → d < fuel → t + d < 2 ^ 28 → W + 72 * d < 2 ^ 28 → rOK r m t tr wt sz ms L (rLo 0 m (t + 1)) W → ∃ r2, L_X6_thereIn_86 o (nI k) all (fun (zz14 : Int32) (σ15 : xS) => xbI (F_X6_of 187 (o + 3) (nI k) 8 σ15) (fun (zz17 : Int32) (σ16 : xS) => if all ≤ zz17 then (some (zz14, σ16)) else (some ((-1 : Int32), σ16)))) fuel (nI i) (xset σ (o + 3) r) = some (rVal i (rFst (rTick 0 m) (rTh k all) d r), xset σ (o + 3) r2) := by
  intro d
  induction d with
  | zero =>
    intro i fuel t L W r hi hf ht hW h
    obtain ⟨g, rfl⟩ : ∃ g, fuel = g + 1 := ⟨fuel - 1, by omega⟩
    have e8 : F_X6_of 187 (o + 3) (nI k) 8 (xset σ (o + 3) r) = some (rRow r k 8, xset σ (o + 3) r) := pR_of (w := 8) hk (by decide)
    refine ⟨r, ?_⟩
    rw [L_X6_thereIn_86, if_pos (show (400 : Int32) ≤ nI i from nI_le (a := 400) (b := i) (by omega) (by omega)), e8, xbI_s, rFst]
    by_cases hd : all ≤ rRow r k 8
    · rw [if_pos hd, if_pos (show rTh k all r = true from decide_eq_true hd)]; rfl
    · rw [if_neg hd, if_neg (show ¬ rTh k all r = true from fun q => hd (of_decide_eq_true q))]; rfl
  | succ d ih =>
    intro i fuel t L W r hi hf ht hW h
    obtain ⟨g, rfl⟩ : ∃ g, fuel = g + 1 := ⟨fuel - 1, by omega⟩
    obtain ⟨L2, hL, h2⟩ := pK_tick (by omega) (by omega) (Nat.le_refl m) h
    have e8 : F_X6_of 187 (o + 3) (nI k) 8 (xset σ (o + 3) r) = some (rRow r k 8, xset σ (o + 3) r) := pR_of (w := 8) hk (by decide)
    rw [L_X6_thereIn_86, if_neg (show ¬ (400 : Int32) ≤ nI i from nI_ge (a := i) (b := 400) (by omega) (by decide)), e8, xbI_s, rFst, pR_tick (by omega) (by omega) h, xbV_s, xlet_s, nI_1]
    by_cases hd : all ≤ rRow r k 8
    · refine ⟨r, ?_⟩
      rw [if_pos hd, if_pos (show rTh k all r = true from decide_eq_true hd), e8, xbI_s, if_pos hd]
      rfl
    · rw [if_neg hd, if_neg (show ¬ rTh k all r = true from fun q => hd (of_decide_eq_true q)), rVal_m]
      exact ih (i + 1) g (t + 1) L2 (W + 72) _ (by omega) (by omega) (by omega) (by omega) h2
theorem pL_X3_there {p k : Nat} {all : Int32} (hk : k < m) : ∀ (d i fuel t L W : Nat) (r : Nat → Int32) (σ : xS), i + d = 400 → d + 1 < fuel → t + d < 2 ^ 26 → W + 72 * d < 2 ^ 26 → rOK r m t tr wt sz ms L (rLo k (k + 1) (t + 1)) W → xQ3 σ p r L → ∃ z, L_X3_ticksUntilThere_2 p (nI k) all (fun (zz1 : Int32) (σ2 : xS) => some (zz1, σ2)) (fun (σ5 : xS) => some ((-1 : Int32), σ5)) fuel (nI i) σ = some (rVal i (rFst (rTick k (k + 1)) (rTh k all) d r), z) ∧ xfr σ z p (p + 43) := by
  intro d
  induction d with
  | zero =>
    intro i fuel t L W r σ hi hf ht hW h hQ
    obtain ⟨g, rfl⟩ : ∃ g, fuel = g + 1 := ⟨fuel - 1, by omega⟩
    have hm4 := h.m4
    obtain ⟨o, n, q⟩ := hQ.1.2.2.2 k (by omega)
    rw [L_X3_ticksUntilThere_2, if_neg (show ¬ (400 : Int32) < nI i from nI_nlt (a := 400) (b := i) (by omega) (by omega)), if_pos (xin_nI (by omega) (by decide)), nI_clamp (by omega), q.1.2.2.2.2.2.2.1, rFst]
    by_cases hd : all ≤ rRow r k 8
    · rw [if_neg (Int32.not_lt.mpr hd), if_pos (show rTh k all r = true from decide_eq_true hd)]
      exact ⟨σ, rfl, xfr.refl⟩
    · obtain ⟨z, L2, g1, g2, -⟩ := pT_ticks (n := 1) (by decide) (Nat.le_succ k) (by omega) (by omega) (by omega) h hQ
      rw [if_pos (Int32.not_le.mp hd), if_neg (show ¬ rTh k all r = true from fun q => hd (of_decide_eq_true q)), nI_1, show F_X3_passTicks p 1 (nI k) (nI (k + 1)) σ = _ from g1, xbI_s, xlet_s, nI_1]
      obtain ⟨g', rfl⟩ : ∃ g', g = g' + 1 := ⟨g - 1, by omega⟩
      rw [L_X3_ticksUntilThere_2, if_pos (show (400 : Int32) < nI (i + 1) from nI_lt (a := 400) (b := i + 1) (by omega) (by omega))]
      exact ⟨z, rfl, g2⟩
  | succ d ih =>
    intro i fuel t L W r σ hi hf ht hW h hQ
    obtain ⟨g, rfl⟩ : ∃ g, fuel = g + 1 := ⟨fuel - 1, by omega⟩
    have hm4 := h.m4
    obtain ⟨o, n, q⟩ := hQ.1.2.2.2 k (by omega)
    rw [L_X3_ticksUntilThere_2, if_neg (show ¬ (400 : Int32) < nI i from nI_nlt (a := 400) (b := i) (by omega) (by omega)), if_pos (xin_nI (by omega) (by decide)), nI_clamp (by omega), q.1.2.2.2.2.2.2.1, rFst]
    by_cases hd : all ≤ rRow r k 8
    · rw [if_neg (Int32.not_lt.mpr hd), if_pos (show rTh k all r = true from decide_eq_true hd)]
      exact ⟨σ, rfl, xfr.refl⟩
    · obtain ⟨z, L2, g1, g2, g3, g4, g5⟩ := pT_ticks (n := 1) (by decide) (Nat.le_succ k) (by omega) (by omega) (by omega) h hQ
      rw [if_pos (Int32.not_le.mp hd), if_neg (show ¬ rTh k all r = true from fun q => hd (of_decide_eq_true q)), rVal_m, nI_1, show F_X3_passTicks p 1 (nI k) (nI (k + 1)) σ = _ from g1, xbI_s, xlet_s, nI_1]
      obtain ⟨z2, e1, e2⟩ := ih (i + 1) g (t + 1) L2 (W + 72) (rTick k (k + 1) r) z (by omega) (by omega) (by omega) (by omega) g5 g4
      exact ⟨z2, e1, g2.trans e2⟩
theorem pT_there {σ : xS} {p k W : Nat} {all : Int32} {r : Nat → Int32} (hk : k < m) (ht : t < 2 ^ 25) (hW : W < 2 ^ 25) (h : rOK r m t tr wt sz ms L (rLo 0 m (t + 1)) W) (hQ : xQ3 σ p r L) : ∃ z, F_X3_ticksUntilThere p (nI k) all σ = some (rVal 0 (rFst (rTick 0 m) (rTh k all) 400 r), z) ∧ xfr σ z p (p + 43) := by
  obtain ⟨z, e1, e2⟩ := pL_X3_there (all := all) hk 400 0 1000 t L W r σ (by omega) (by omega) (by omega) (by omega) (h.one hk) hQ
  rw [rFst_eq (T := rTick 0 m) (E := rEq k) (fun _ _ h => h.tick (Nat.zero_le _) hk (Nat.le_refl _) (Nat.lt_succ_self _)) (fun _ _ h => h.th) 400 r r (rEq.refl (by rw [h.LL]; exact h.L8))] at e1
  exact ⟨z, e1, e2⟩
/-! in range -/
theorem rng (x : Int32) (a b : Nat) (ha : a ≤ b) (hb : b < 2 ^ 31) : (∃ y, a ≤ y ∧ y ≤ b ∧ x = nI y) ∨ (x < nI a ∨ nI b < x) := by
  by_cases h1 : x < nI a
  · exact Or.inr (Or.inl h1)
  by_cases h2 : nI b < x
  · exact Or.inr (Or.inr h2)
  left
  rcases pk_ix x hb with h | h | ⟨j, h, rfl⟩
  · exact absurd (Int32.lt_of_lt_of_le h (nI_pos' (show a < 2 ^ 31 by omega))) h1
  · exact ⟨b, ha, Nat.le_refl _, Int32.le_antisymm (Int32.not_lt.mp h2) h⟩
  · exact ⟨j, Nat.not_lt.mp (fun q => h1 (nI_lt q (by omega))), by omega, rfl⟩
theorem pR_in {σ : xS} {x a b : Int32} : F_X6_in x.toInt64 a.toInt64 b.toInt64 σ = some (if x < a ∨ b < x then 0 else 1, σ) := by
  have w : ∀ a b : Int32, a.toInt64 < b.toInt64 ↔ a < b := fun a b => by rw [Int64.lt_iff_toInt_lt, Int32.lt_iff_toInt_lt, Int32.toInt_toInt64, Int32.toInt_toInt64]
  unfold F_X6_in
  by_cases h1 : x < a
  · rw [if_pos ((lg_cmp_lt _ _).mpr ((w _ _).mpr h1)), if_pos (Or.inl h1)]
  · rw [if_neg (fun q => h1 ((w _ _).mp ((lg_cmp_lt _ _).mp q)))]
    by_cases h2 : b < x
    · rw [if_pos ((lg_cmp_gt _ _).mpr ((w _ _).mpr h2)), if_pos (Or.inr h2)]
    · rw [if_neg (fun q => h2 ((w _ _).mp ((lg_cmp_gt _ _).mp q))), if_neg (fun q => q.elim h1 h2)]
theorem pF_within2 {σ : xS} {x a b : Int32} : F_X5_isWithin x a b σ = some (if x < a ∨ b < x then 0 else 1, σ) := by
  unfold F_X5_isWithin
  by_cases h1 : x < a
  · rw [if_pos h1, if_pos (Or.inl h1)]
  · rw [if_neg h1]
    by_cases h2 : b < x
    · rw [if_pos h2, if_pos (Or.inr h2)]
    · rw [if_neg h2, if_neg (fun q => q.elim h1 h2)]
/-- whether k is a writer -/
def rBad (m : Nat) (k : Int32) : Prop := k < 0 ∨ nI m ≤ k
theorem rIs (m : Nat) (hm : m ≤ 4) (k : Int32) : rBad m k ∨ ∃ j, j < m ∧ k = nI j := by
  rcases pk_ix k (show m < 2 ^ 31 by omega) with h | h | h
  · exact Or.inl (Or.inl h)
  · exact Or.inl (Or.inr h)
  · exact Or.inr h
theorem pR_isW {σ : xS} {a m : Nat} {k : Int32} {r : Nat → Int32} (h0 : r 0 = nI m) : F_X6_isWriter 187 a k (xset σ a r) = some (if k < 0 ∨ nI m - 1 < k then 0 else 1, xset σ a r) := by
  unfold F_X6_isWriter
  simp only [xin_0, if_true, cl_0, xlet_s, xset_same, h0]
  rw [show F_X6_in k.toInt64 0 ((nI m - 1).toInt64) (xset σ a r) = _ from pR_in (x := k) (a := 0) (b := nI m - 1), xbI_s]
  by_cases h : k < 0 ∨ nI m - 1 < k
  · rw [if_pos h, if_pos (by decide)]
  · rw [if_neg h, if_pos (by decide)]
theorem rBad_iff {m : Nat} {k : Int32} (hm1 : 1 ≤ m) (hm : m ≤ 4) : (k < 0 ∨ nI m - 1 < k) ↔ rBad m k := by
  rw [nI_s1 (by omega)]
  constructor
  · intro h
    rcases rIs m hm k with q | ⟨j, hj, rfl⟩
    · exact q
    · rcases h with h | h
      · exact Or.inl h
      · exact absurd h (nI_nlt (by omega) (by omega))
  · intro h
    rcases h with h | h
    · exact Or.inl h
    · exact Or.inr (Int32.lt_of_lt_of_le (nI_lt (by omega) (by omega)) h)
theorem pR_isW0 {σ : xS} {a m : Nat} {k : Int32} {r : Nat → Int32} (h0 : r 0 = nI m) (hm1 : 1 ≤ m) (hm : m ≤ 4) (h : rBad m k) : F_X6_isWriter 187 a k (xset σ a r) = some (0, xset σ a r) := by
  rw [pR_isW h0, if_pos ((rBad_iff hm1 hm).mpr h)]
theorem rBad_n {m j : Nat} (hj : j < m) (hm : m ≤ 4) : ¬ rBad m (nI j) := by
  intro h
  rcases h with h | h
  · exact nI_pos (by omega) h
  · exact nI_ge hj (by omega) h
theorem pR_isW1 {σ : xS} {a m j : Nat} {r : Nat → Int32} (h0 : r 0 = nI m) (hj : j < m) (hm : m ≤ 4) : F_X6_isWriter 187 a (nI j) (xset σ a r) = some (1, xset σ a r) := by
  rw [pR_isW h0, if_neg (fun q => rBad_n hj hm ((rBad_iff (by omega) hm).mp q))]
theorem pF_isW0 {σ : xS} {p m : Nat} {k : Int32} (h0 : σ p 0 = nI m) (h : rBad m k) : F_X3_faultOfWriter p k σ = some (1, σ) := by
  unfold F_X3_faultOfWriter
  rw [h0]
  rcases h with h | h
  · rw [if_pos h]
  · by_cases h2 : k < 0
    · rw [if_pos h2]
    · rw [if_neg h2, if_pos h]
theorem pR_isNote {σ : xS} {s : Int32} : F_X6_isNote s σ = some (if s < 1 ∨ 500 < s then 0 else 1, σ) := by
  unfold F_X6_isNote
  rw [show F_X6_in s.toInt64 1 500 σ = _ from pR_in (x := s) (a := 1) (b := 500), xbI_s]
  by_cases h : s < 1 ∨ 500 < s
  · rw [if_pos h, if_pos (by decide)]
  · rw [if_neg h, if_pos (by decide)]
end RH
