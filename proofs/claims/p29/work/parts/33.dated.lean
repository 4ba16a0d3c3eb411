/-! THE CLASS'S ROWS OF THINGS WITH A TIME -/
def xD3 (σ : xS) (d n : Nat) (f w g : Nat → Int32) : Prop := σ d 3 = nI n ∧ ∀ j, j < n → σ (d + 1) j = f j ∧ σ (d + 2) j = w j ∧ σ (d + 3) j = g j
theorem xD3.ex {σ σ2 : xS} {d n : Nat} {f w g : Nat → Int32} (h : xD3 σ d n f w g) (hx : ∀ i, d ≤ i → i < d + 4 → σ2 i = σ i) : xD3 σ2 d n f w g := by
  unfold xD3
  rw [hx d (by omega) (by omega), hx (d + 1) (by omega) (by omega), hx (d + 2) (by omega) (by omega), hx (d + 3) (by omega) (by omega)]
  exact h
theorem xD3.cg {σ : xS} {d n : Nat} {f w g f2 w2 g2 : Nat → Int32} (h : xD3 σ d n f w g) (hx : ∀ j, j < n → f2 j = f j ∧ w2 j = w j ∧ g2 j = g j) : xD3 σ d n f2 w2 g2 :=
  ⟨h.1, fun j hj => ⟨by rw [(hx j hj).1]; exact (h.2 j hj).1, by rw [(hx j hj).2.1]; exact (h.2 j hj).2.1, by rw [(hx j hj).2.2]; exact (h.2 j hj).2.2⟩⟩
theorem nI_n0 {n : Nat} (h : n < 2 ^ 31) : ¬ nI n < 0 := nI_pos h
section XDT
variable {σ : xS} {c d n i : Nat} {f w g : Nat → Int32}
theorem pD_time (h : xD3 σ d n f w g) (hi : i < n) (hn : n ≤ c) (hc : c ≤ 8) : F_X0_timeAt c d (nI i) σ = some (f i, σ) := by
  unfold F_X0_timeAt
  rw [if_neg (nI_n0 (by omega)), h.1, if_neg (nI_ge hi (by omega)), if_neg (nI_ge (by omega) (by omega)), if_pos (xin_nI (by omega) (by omega)), nI_clamp (by omega), (h.2 i hi).1]
  rfl
theorem pD_writer (h : xD3 σ d n f w g) (hi : i < n) (hn : n ≤ c) (hc : c ≤ 8) : F_X0_writerAt c d (nI i) σ = some (w i, σ) := by
  unfold F_X0_writerAt
  rw [if_neg (nI_n0 (by omega)), h.1, if_neg (nI_ge hi (by omega)), if_neg (nI_ge (by omega) (by omega)), if_pos (xin_nI (by omega) (by omega)), nI_clamp (by omega), (h.2 i hi).2.1]
  rfl
theorem pD_number (h : xD3 σ d n f w g) (hi : i < n) (hn : n ≤ c) (hc : c ≤ 8) : F_X0_numberAt c d (nI i) σ = some (g i, σ) := by
  unfold F_X0_numberAt
  rw [if_neg (nI_n0 (by omega)), h.1, if_neg (nI_ge hi (by omega)), if_neg (nI_ge (by omega) (by omega)), if_pos (xin_nI (by omega) (by omega)), nI_clamp (by omega), (h.2 i hi).2.2]
  rfl
/-- the time of the last one; none of none -/
theorem pD_last (h : xD3 σ d n f w g) (hn : n ≤ c) (hc : c ≤ 8) : F_X0_timeAt c d (σ d 3 - 1) σ = some (if n = 0 then -1 else f (n - 1), σ) := by
  rw [h.1]
  by_cases h0 : n = 0
  · subst h0
    rw [if_pos rfl]
    unfold F_X0_timeAt
    rw [if_pos (by decide)]
  · rw [if_neg h0, nI_s1 (by omega), pD_time h (by omega) hn hc]
theorem pD_add {t x v : Int32} (h : xD3 σ d n f w g) (hn : n < c) (hc : c ≤ 8) : ∃ z, F_X0_addLast c d t x v σ = some z ∧ xfr σ z d (d + 4) ∧ xD3 z d (n + 1) (upd f n t) (upd w n x) (upd g n v) := by
  have hin : xin (nI n) c = true := xin_nI hn (by omega)
  have hcl : (nI n).toNatClampNeg = n := nI_clamp (by omega)
  refine ⟨xu (xu (xu (xu σ (d + 1) n t) (d + 2) n x) (d + 3) n v) d 3 (nI (n + 1)), ?_, ?_, ?_, ?_⟩
  · have e1 : ∀ v, xu σ (d + 1) n v d 3 = nI n := fun v => by rw [xu_other (by omega), h.1]
    have e2 : ∀ v y, xu (xu σ (d + 1) n v) (d + 2) n y d 3 = nI n := fun v y => by rw [xu_other (by omega), e1]
    have e3 : ∀ v y z, xu (xu (xu σ (d + 1) n v) (d + 2) n y) (d + 3) n z d 3 = nI n := fun v y z => by rw [xu_other (by omega), e2]
    unfold F_X0_addLast
    rw [h.1, if_neg (nI_n0 (by omega)), if_neg (nI_ge hn (by omega)), if_pos hin]
    simp only [xlet_s, hcl, e1, e2, e3, hin, if_true, nI_1]
  · intro i hi
    rw [xu_other (by omega), xu_other (by omega), xu_other (by omega), xu_other (by omega)]
  · rw [xu_same, up_s]
  · intro j hj
    have a1 : xu (xu (xu (xu σ (d + 1) n t) (d + 2) n x) (d + 3) n v) d 3 (nI (n + 1)) (d + 1) = upd (σ (d + 1)) n t := by rw [xu_other (by omega), xu_other (by omega), xu_other (by omega), xu_same]
    have a2 : xu (xu (xu (xu σ (d + 1) n t) (d + 2) n x) (d + 3) n v) d 3 (nI (n + 1)) (d + 2) = upd (σ (d + 2)) n x := by rw [xu_other (by omega), xu_other (by omega), xu_same, xu_other (by omega)]
    have a3 : xu (xu (xu (xu σ (d + 1) n t) (d + 2) n x) (d + 3) n v) d 3 (nI (n + 1)) (d + 3) = upd (σ (d + 3)) n v := by rw [xu_other (by omega), xu_same, xu_other (by omega), xu_other (by omega)]
    rw [a1, a2, a3]
    by_cases hjn : j = n
    · subst hjn
      exact ⟨by rw [up_s, up_s], by rw [up_s, up_s], by rw [up_s, up_s]⟩
    · rw [up_n hjn, up_n hjn, up_n hjn, up_n hjn, up_n hjn, up_n hjn]
      exact h.2 j (by omega)
end XDT
/-- what is left when the one at i goes -/
def mCut (f : Nat → Int32) (i : Nat) : Nat → Int32 := fun j => if j < i then f j else f (j + 1)
theorem pL_drop {c d n i0 : Nat} {f w g : Nat → Int32} {KK : xS → Option xS} (hn : n ≤ c) (hc : c ≤ 8) : ∀ (q i fuel : Nat) (σ : xS), i0 ≤ i → i + 1 + q = n → q < fuel → σ d 3 = nI n → (∀ j, j < n → (j < i → σ (d + 1) j = mCut f i0 j ∧ σ (d + 2) j = mCut w i0 j ∧ σ (d + 3) j = mCut g i0 j) ∧ (i < j → σ (d + 1) j = f j ∧ σ (d + 2) j = w j ∧ σ (d + 3) j = g j)) → ∃ z, L_X0_dropAt_15 c d KK fuel (nI i) σ = KK z ∧ xfr σ z d (d + 4) ∧ z d 3 = nI n ∧ ∀ j, j + 1 < n → z (d + 1) j = mCut f i0 j ∧ z (d + 2) j = mCut w i0 j ∧ z (d + 3) j = mCut g i0 j := by
  intro q
  induction q with
  | zero =>
    intro i fuel σ h0 hi hf h3 hj
    obtain ⟨u, rfl⟩ : ∃ u, fuel = u + 1 := ⟨fuel - 1, by omega⟩
    refine ⟨σ, ?_, xfr.refl, h3, fun j h => (hj j (by omega)).1 (by omega)⟩
    rw [L_X0_dropAt_15, h3, nI_1, if_pos (nI_le (by omega) (by omega))]
  | succ q ih =>
    intro i fuel σ h0 hi hf h3 hj
    obtain ⟨u, rfl⟩ : ∃ u, fuel = u + 1 := ⟨fuel - 1, by omega⟩
    have hin : xin (nI i) c = true := xin_nI (by omega) (by omega)
    have hin1 : xin (nI (i + 1)) c = true := xin_nI (by omega) (by omega)
    have hcl : (nI i).toNatClampNeg = i := nI_clamp (by omega)
    have hcl1 : (nI (i + 1)).toNatClampNeg = i + 1 := nI_clamp (by omega)
    have e2 : ∀ v, xu σ (d + 1) i v (d + 2) (i + 1) = w (i + 1) := fun v => by rw [xu_other (by omega)]; exact ((hj (i + 1) (by omega)).2 (by omega)).2.1
    have e3 : ∀ v y, xu (xu σ (d + 1) i v) (d + 2) i y (d + 3) (i + 1) = g (i + 1) := fun v y => by rw [xu_other (by omega), xu_other (by omega)]; exact ((hj (i + 1) (by omega)).2 (by omega)).2.2
    have e1 : σ (d + 1) (i + 1) = f (i + 1) := ((hj (i + 1) (by omega)).2 (by omega)).1
    obtain ⟨z, r1, r2, r3, r4⟩ := ih (i + 1) u (xu (xu (xu σ (d + 1) i (f (i + 1))) (d + 2) i (w (i + 1))) (d + 3) i (g (i + 1))) (by omega) (by omega) (by omega) (by rw [xu_other (by omega), xu_other (by omega), xu_other (by omega), h3]) (fun j hjn => by
      have a1 : xu (xu (xu σ (d + 1) i (f (i + 1))) (d + 2) i (w (i + 1))) (d + 3) i (g (i + 1)) (d + 1) = upd (σ (d + 1)) i (f (i + 1)) := by rw [xu_other (by omega), xu_other (by omega), xu_same]
      have a2 : xu (xu (xu σ (d + 1) i (f (i + 1))) (d + 2) i (w (i + 1))) (d + 3) i (g (i + 1)) (d + 2) = upd (σ (d + 2)) i (w (i + 1)) := by rw [xu_other (by omega), xu_same, xu_other (by omega)]
      have a3 : xu (xu (xu σ (d + 1) i (f (i + 1))) (d + 2) i (w (i + 1))) (d + 3) i (g (i + 1)) (d + 3) = upd (σ (d + 3)) i (g (i + 1)) := by rw [xu_same, xu_other (by omega), xu_other (by omega)]
      rw [a1, a2, a3]
      constructor
      · intro hji
        by_cases hjei : j = i
        · subst hjei
          rw [up_s, up_s, up_s]
          unfold mCut
          rw [if_neg (by omega), if_neg (by omega), if_neg (by omega)]
          exact ⟨rfl, rfl, rfl⟩
        · rw [up_n hjei, up_n hjei, up_n hjei]
          exact (hj j hjn).1 (by omega)
      · intro hji
        rw [up_n (by omega), up_n (by omega), up_n (by omega)]
        exact (hj j hjn).2 (by omega))
    refine ⟨z, ?_, ?_, r3, r4⟩
    · rw [L_X0_dropAt_15, h3, nI_1, if_neg (nI_ge (by omega) (by omega)), if_neg (nI_ge (by omega) (by omega))]
      simp only [hin, hin1, if_true, xlet_s, hcl, hcl1, e1, e2, e3]
      exact r1
    · intro y hy
      rw [r2 y hy, xu_other (by omega), xu_other (by omega), xu_other (by omega)]
theorem pD_drop {σ : xS} {c d n i : Nat} {f w g : Nat → Int32} (h : xD3 σ d n f w g) (hi : i < n) (hn : n ≤ c) (hc : c ≤ 8) : ∃ z, F_X0_dropAt c d (nI i) σ = some z ∧ xfr σ z d (d + 4) ∧ xD3 z d (n - 1) (mCut f i) (mCut w i) (mCut g i) := by
  obtain ⟨z, r1, r2, r3, r4⟩ := pL_drop (c := c) (d := d) (n := n) (i0 := i) (f := f) (w := w) (g := g) (KK := fun (σ1 : xS) => xlet (xu σ1 d 3 ((σ1 d 3) - 1)) (fun (σ2 : xS) => some σ2)) hn hc (n - 1 - i) i 1000 σ (Nat.le_refl _) (by omega) (by omega) h.1 (fun j hj => ⟨fun hji => by unfold mCut; rw [if_pos hji, if_pos hji, if_pos hji]; exact h.2 j hj, fun hji => h.2 j hj⟩)
  refine ⟨xu z d 3 (nI (n - 1)), ?_, ?_, ?_, ?_⟩
  · unfold F_X0_dropAt
    rw [if_neg (nI_n0 (by omega)), h.1, if_pos (nI_lt hi (by omega))]
    refine (show _ = _ from r1).trans ?_
    simp only [xlet_s, r3, nI_s1 (show 0 < n by omega)]
  · intro y hy
    rw [xu_other (by omega), r2 y hy]
  · rw [xu_same, up_s]
  · intro j hj
    rw [xu_other (by omega), xu_other (by omega), xu_other (by omega)]
    exact r4 j (by omega)
theorem pL_copy {c d d2 n : Nat} {f w g : Nat → Int32} {KK : xS → Option xS} (hn : n ≤ c) (hc : c ≤ 8) (hd : d + 4 ≤ d2 ∨ d2 + 4 ≤ d) : ∀ (q i fuel : Nat) (σ : xS), i + q = n → q < fuel → σ d 3 = nI n → (∀ j, j < n → σ (d2 + 1) j = f j ∧ σ (d2 + 2) j = w j ∧ σ (d2 + 3) j = g j) → (∀ j, j < i → σ (d + 1) j = f j ∧ σ (d + 2) j = w j ∧ σ (d + 3) j = g j) → ∃ z, L_X0_copyFrom_18 c d c d2 KK fuel (nI i) σ = KK z ∧ xfr σ z d (d + 4) ∧ xD3 z d n f w g := by
  intro q
  induction q with
  | zero =>
    intro i fuel σ hi hf h3 hs hj
    obtain ⟨u, rfl⟩ : ∃ u, fuel = u + 1 := ⟨fuel - 1, by omega⟩
    refine ⟨σ, ?_, xfr.refl, h3, fun j h => hj j (by omega)⟩
    rw [L_X0_copyFrom_18, h3, if_pos (nI_le (by omega) (by omega))]
  | succ q ih =>
    intro i fuel σ hi hf h3 hs hj
    obtain ⟨u, rfl⟩ : ∃ u, fuel = u + 1 := ⟨fuel - 1, by omega⟩
    have hin : xin (nI i) c = true := xin_nI (by omega) (by omega)
    have hcl : (nI i).toNatClampNeg = i := nI_clamp (by omega)
    have e1 : σ (d2 + 1) i = f i := (hs i (by omega)).1
    have e2 : ∀ v, xu σ (d + 1) i v (d2 + 2) i = w i := fun v => by rw [xu_other (by omega)]; exact (hs i (by omega)).2.1
    have e3 : ∀ v y, xu (xu σ (d + 1) i v) (d + 2) i y (d2 + 3) i = g i := fun v y => by rw [xu_other (by omega), xu_other (by omega)]; exact (hs i (by omega)).2.2
    have a1 : xu (xu (xu σ (d + 1) i (f i)) (d + 2) i (w i)) (d + 3) i (g i) (d + 1) = upd (σ (d + 1)) i (f i) := by rw [xu_other (by omega), xu_other (by omega), xu_same]
    have a2 : xu (xu (xu σ (d + 1) i (f i)) (d + 2) i (w i)) (d + 3) i (g i) (d + 2) = upd (σ (d + 2)) i (w i) := by rw [xu_other (by omega), xu_same, xu_other (by omega)]
    have a3 : xu (xu (xu σ (d + 1) i (f i)) (d + 2) i (w i)) (d + 3) i (g i) (d + 3) = upd (σ (d + 3)) i (g i) := by rw [xu_same, xu_other (by omega), xu_other (by omega)]
    obtain ⟨z, r1, r2, r3⟩ := ih (i + 1) u (xu (xu (xu σ (d + 1) i (f i)) (d + 2) i (w i)) (d + 3) i (g i)) (by omega) (by omega) (by rw [xu_other (by omega), xu_other (by omega), xu_other (by omega), h3]) (fun j hjn => by
      rw [xu_other (by omega), xu_other (by omega), xu_other (by omega), xu_other (by omega), xu_other (by omega), xu_other (by omega), xu_other (by omega), xu_other (by omega), xu_other (by omega)]
      exact hs j hjn) (fun j hjn => by
      rw [a1, a2, a3]
      by_cases hji : j = i
      · subst hji
        rw [up_s, up_s, up_s]
        exact ⟨rfl, rfl, rfl⟩
      · rw [up_n hji, up_n hji, up_n hji]
        exact hj j (by omega))
    refine ⟨z, ?_, ?_, r3⟩
    · rw [L_X0_copyFrom_18, h3, if_neg (nI_ge (by omega) (by omega)), if_neg (nI_ge (by omega) (by omega))]
      simp only [hin, if_true, xlet_s, hcl, e1, e2, e3, nI_1]
      exact r1
    · intro y hy
      rw [r2 y hy, xu_other (by omega), xu_other (by omega), xu_other (by omega)]
theorem pD_copy {σ : xS} {c d d2 n : Nat} {f w g : Nat → Int32} (h : xD3 σ d2 n f w g) (hn : n ≤ c) (hc : c ≤ 8) (hd : d + 4 ≤ d2 ∨ d2 + 4 ≤ d) : ∃ z, F_X0_copyFrom c d c d2 σ = some z ∧ xfr σ z d (d + 4) ∧ xD3 z d n f w g := by
  obtain ⟨z, r1, r2, r3⟩ := pL_copy (c := c) (d := d) (d2 := d2) (n := n) (f := f) (w := w) (g := g) (KK := fun (σ3 : xS) => some σ3) hn hc hd n 0 1000 (xu σ d 3 (nI n)) (by omega) (by omega) (by rw [xu_same, up_s]) (fun j hj => by rw [xu_other (by omega), xu_other (by omega), xu_other (by omega)]; exact h.2 j hj) (fun j hj => absurd hj (by omega))
  refine ⟨z, ?_, fun y hy => by rw [r2 y hy, xu_other (by omega)], r3⟩
  unfold F_X0_copyFrom
  rw [h.1, if_neg (nI_nlt hn (by omega))]
  exact r1
