/-! THE FIRST STEP AT WHICH SOMETHING HOLDS -/
def rIt (T : (Nat → Int32) → (Nat → Int32)) : Nat → (Nat → Int32) → (Nat → Int32)
  | 0, r => r
  | n + 1, r => rIt T n (T r)
theorem rTicks_it {f e : Nat} : ∀ (n : Nat) (r : Nat → Int32), rTicks f e n r = rIt (rTick f e) n r := by
  intro n
  induction n with
  | zero => intro r; rfl
  | succ n ih => intro r; rw [rTicks_s, rIt, ih]
theorem rIt_add {T : (Nat → Int32) → (Nat → Int32)} : ∀ (i j : Nat) (r : Nat → Int32), rIt T j (rIt T i r) = rIt T (i + j) r := by
  intro i
  induction i with
  | zero => intro j r; rw [rIt, Nat.zero_add]
  | succ i ih => intro j r; rw [rIt, ih, show i + 1 + j = (i + j) + 1 by omega, rIt]
theorem rFst_some {T : (Nat → Int32) → (Nat → Int32)} {P : (Nat → Int32) → Bool} : ∀ (d n : Nat) (r : Nat → Int32), rFst T P d r = some n → n ≤ d ∧ P (rIt T n r) = true ∧ ∀ i, i < n → P (rIt T i r) = false := by
  intro d
  induction d with
  | zero =>
    intro n r h
    rw [rFst] at h
    by_cases e : P r = true
    · rw [if_pos e] at h
      obtain rfl := Option.some.inj h
      exact ⟨Nat.le_refl _, e, fun i hi => absurd hi (by omega)⟩
    · rw [if_neg e] at h; cases h
  | succ d ih =>
    intro n r h
    rw [rFst] at h
    by_cases e : P r = true
    · rw [if_pos e] at h
      obtain rfl := Option.some.inj h
      exact ⟨by omega, e, fun i hi => absurd hi (by omega)⟩
    · rw [if_neg e] at h
      obtain ⟨j, e2, rfl⟩ := Option.map_eq_some_iff.mp h
      obtain ⟨g1, g2, g3⟩ := ih j (T r) e2
      refine ⟨by omega, by rw [rIt]; exact g2, fun i hi => ?_⟩
      cases i with
      | zero => rw [rIt]; exact Bool.eq_false_iff.mpr e
      | succ i => rw [rIt]; exact g3 i (by omega)
theorem rFst_none {T : (Nat → Int32) → (Nat → Int32)} {P : (Nat → Int32) → Bool} : ∀ (d : Nat) (r : Nat → Int32), rFst T P d r = none → ∀ i, i ≤ d → P (rIt T i r) = false := by
  intro d
  induction d with
  | zero =>
    intro r h i hi
    obtain rfl : i = 0 := by omega
    rw [rFst] at h
    by_cases e : P r = true
    · rw [if_pos e] at h; cases h
    · rw [rIt]; exact Bool.eq_false_iff.mpr e
  | succ d ih =>
    intro r h i hi
    rw [rFst] at h
    by_cases e : P r = true
    · rw [if_pos e] at h; cases h
    · rw [if_neg e] at h
      have h2 : rFst T P d (T r) = none := by
        cases hq : rFst T P d (T r) with
        | none => rfl
        | some j => rw [hq] at h; cases h
      cases i with
      | zero => rw [rIt]; exact Bool.eq_false_iff.mpr e
      | succ i => rw [rIt]; exact ih (T r) h2 i (by omega)
theorem rFst_of {T : (Nat → Int32) → (Nat → Int32)} {P : (Nat → Int32) → Bool} {d n : Nat} {r : Nat → Int32} (hn : n ≤ d) (h : P (rIt T n r) = true) (h2 : ∀ i, i < n → P (rIt T i r) = false) : rFst T P d r = some n := by
  cases hq : rFst T P d r with
  | none => have := rFst_none d r hq n hn; rw [h] at this; cases this
  | some j =>
    obtain ⟨g1, g2, g3⟩ := rFst_some d j r hq
    congr 1
    rcases Nat.lt_trichotomy j n with e | e | e
    · have := h2 j e; rw [g2] at this; cases this
    · exact e
    · have := g3 n e; rw [h] at this; cases this
theorem rFst_sh {T : (Nat → Int32) → (Nat → Int32)} {P : (Nat → Int32) → Bool} {d n i : Nat} {r : Nat → Int32} (h : rFst T P d r = some n) (hi : i ≤ n) : rFst T P d (rIt T i r) = some (n - i) := by
  obtain ⟨g1, g2, g3⟩ := rFst_some d n r h
  refine rFst_of (by omega) ?_ (fun j hj => ?_)
  · rw [rIt_add, show i + (n - i) = n by omega]; exact g2
  · rw [rIt_add]; exact g3 (i + j) (by omega)
theorem rIt_keep {T : (Nat → Int32) → (Nat → Int32)} {P : (Nat → Int32) → Bool} {I : Nat → (Nat → Int32) → Prop} {N : Nat} (hI : ∀ n r, n < N → I n r → I (n + 1) (T r)) (hP : ∀ n r, n < N → I n r → P r = true → P (T r) = true) : ∀ (q n : Nat) (r : Nat → Int32), n + q ≤ N → I n r → P r = true → P (rIt T q r) = true := by
  intro q
  induction q with
  | zero => intro n r _ _ h; exact h
  | succ q ih => intro n r hn hi h; rw [rIt]; exact ih (n + 1) (T r) (by omega) (hI n r (by omega) hi) (hP n r (by omega) hi h)
theorem rVal_0 {j : Nat} (hj : j < 2 ^ 31) : (rVal 0 (some j) : Int32) = nI j := by
  show nI (0 + j) = nI j
  rw [Nat.zero_add]
theorem rVal_z {T : (Nat → Int32) → (Nat → Int32)} {P : (Nat → Int32) → Bool} {d : Nat} {r : Nat → Int32} (hd : d < 2 ^ 31) (h : rVal 0 (rFst T P d r) = 0) : P r = true := by
  cases hq : rFst T P d r with
  | none => rw [hq] at h; exact absurd h (by decide)
  | some j =>
    obtain ⟨g1, g2, g3⟩ := rFst_some d j r hq
    rw [hq, rVal_0 (by omega)] at h
    obtain rfl : j = 0 := (nI_eq (b := 0) (by omega) (by decide)).mp h
    exact g2
theorem rDn_s {k : Nat} {r : Nat → Int32} (h : rDn k r = true) : rRow r k 0 = 0 ∧ rRow r k 6 = 0 ∧ rHas (mN (r 2)) 0 k r = false := by
  unfold rDn at h
  simp only [Bool.and_eq_true, decide_eq_true_eq, Bool.not_eq_true'] at h
  exact ⟨h.1.1, h.1.2, h.2⟩
theorem rDn_m {k : Nat} {r : Nat → Int32} (h0 : rRow r k 0 = 0) (h6 : rRow r k 6 = 0) (hh : rHas (mN (r 2)) 0 k r = false) : rDn k r = true := by
  unfold rDn
  rw [h0, h6, hh]
  rfl
/-! once all is done, it stays so -/
theorem rHas_f {k : Nat} {r : Nat → Int32} : ∀ (q i : Nat), rHas q i k r = false ↔ ∀ j, i ≤ j → j < i + q → r (7 + 3 * j + 1) ≠ nI k := by
  intro q
  induction q with
  | zero => intro i; rw [rHas]; exact ⟨fun _ j a b => absurd b (by omega), fun _ => rfl⟩
  | succ q ih =>
    intro i
    rw [rHas, Bool.or_eq_false_iff, decide_eq_false_iff_not, ih (i + 1)]
    constructor
    · rintro ⟨h1, h2⟩ j a b
      by_cases e : j = i
      · rw [e]; exact h1
      · exact h2 j (by omega) (by omega)
    · intro h
      exact ⟨h i (Nat.le_refl _) (by omega), fun j a b => h j (by omega) (by omega)⟩
/-- a row of which nothing is left doesn't change -/
theorem mRow_z {t tt wait size most : Int32} {tn W : Nat} {u : Nat → Int32} (ht : t = nI tn) (htn : tn < 2 ^ 29) (hW : W < 2 ^ 30) (hI : xI u tn tn W) (h0 : u 0 = 0) (h6 : u 6 = 0) : mRow t tt wait size most u 0 = 0 ∧ mRow t tt wait size most u 6 = 0 := by
  obtain ⟨o, n, c, a, d, x, T, F, k1, k2, k3⟩ := hI
  have hcap := k1.cap
  have g6 := k1.1
  have g7 := k1.2.2.2.2.2.2.1
  have g8 := k1.2.2.2.2.2.2.2.1
  have g9 := k1.2.2.2.2.2.2.2.2.1
  have g10 := k1.2.2.2.2.2.2.2.2.2.1
  obtain rfl : o = 0 := (nI_eq (b := 0) (by omega) (by decide)).mp (g6.symm.trans h6)
  have e11 : u 11 = -1 := by
    rcases k1.2.2.2.2.2.2.2.2.2.2.2.2.2.2.2 with e | e
    · exact e
    · omega
  have e13 : mN (u 13) = 0 := by
    rw [k1.2.1, mN_nI (by omega)]; omega
  have r1 : mR1 t tt wait u = u := by
    unfold mR1
    rw [h6, show mN (0 : Int32) = 0 from rfl, Nat.zero_sub, mComes]
  have r2 : mR2 t tt u = u := by
    unfold mR2
    rw [if_pos]
    rw [e11, ht]
    exact fun q => nI_nm1 (t := tn) (by omega) q.symm
  have r3 : mR3 t tt size most u = u := by
    unfold mR3
    rw [e13, mAL, if_pos rfl]
  unfold mRow
  rw [r1, r2, r3]
  unfold mR4
  rw [up_n (by decide), up_n (by decide)]
  exact ⟨h0, h6⟩
theorem rNts_z {m t tr wt sz ms L k : Nat} : ∀ (q l i : Nat) (r : Nat → Int32), i + q = L → l ≤ i → rH r m t tr wt sz ms L → (∀ j, (j < l ∨ i ≤ j ∧ j < L) → rN r m j ∧ r (7 + 3 * j + 1) ≠ nI k) → rRow (rNts q l i r).2 k = rRow r k ∧ ∀ j, j < (rNts q l i r).1 → (rNts q l i r).2 (7 + 3 * j + 1) ≠ nI k := by
  intro q
  induction q with
  | zero => intro l i r hi hl hH hN; exact ⟨rfl, fun j hj => (hN j (Or.inl hj)).2⟩
  | succ q ih =>
    intro l i r hi hl hH hN
    obtain ⟨b1, b2, b3, b4, b5, b6, b7, b8, b9, b10⟩ := hH.b
    obtain ⟨⟨k2, s, e1, hk, e2, hs1, hs2⟩, hne⟩ := hN i (by omega)
    have hkk : k2 ≠ k := fun e => hne (by rw [e1, e])
    rw [rNts, e1, e2, mN_nI (by omega)]
    by_cases hd : r (7 + 3 * i) = r 1
    · rw [if_pos hd]
      by_cases hy : (9999 : Int32) < rRow r k2 0 + nI s
      · rw [if_pos hy]
        exact ih l (i + 1) r (by omega) (by omega) hH (fun j hj => hN j (by omega))
      · rw [if_neg hy]
        obtain ⟨g1, g2⟩ := ih l (i + 1) (rW r k2 (nI s)) (by omega) (by omega) (rW_H hH) (fun j hj => ⟨rW_N (hN j (by omega)).1 (by omega), by rw [rW_hd (by omega)]; exact (hN j (by omega)).2⟩)
        refine ⟨?_, g2⟩
        rw [g1]
        unfold rW
        exact rRow_o (Ne.symm hkk)
    · rw [if_neg hd]
      have key : ∀ j, (j < l + 1 ∨ i + 1 ≤ j ∧ j < L) → rMv r l i (7 + 3 * j + 1) ≠ nI k := fun j hj => by
        by_cases e : j = l
        · subst e; rw [rMv_1]; exact hne
        · rw [rMv_n (by omega)]; exact (hN j (by omega)).2
      obtain ⟨g1, g2⟩ := ih (l + 1) (i + 1) (rMv r l i) (by omega) (by omega) (rMv_H hH) (fun j hj => ⟨rMv_N hl (fun j2 h2 => (hN j2 h2).1) (by omega) j hj, key j hj⟩)
      refine ⟨?_, g2⟩
      rw [g1]
      exact rRow_cg (fun x hx => rMv_n (by omega))
theorem rDn_tick {m t tr wt sz ms L W k : Nat} {r : Nat → Int32} (ht : t + 1 < 2 ^ 29) (hW : W < 2 ^ 29) (h : rOK r m t tr wt sz ms L (rLo 0 m (t + 1)) W) (hk : k < m) (hd : rDn k r = true) : rDn k (rTick 0 m r) = true := by
  obtain ⟨d0, d6, dh⟩ := rDn_s hd
  rw [h.LL] at dh
  obtain ⟨h1, h2, h3⟩ := rT1_ok h
  obtain ⟨b1, b2, b3, b4, b5, b6, b7, b8, b9, b10⟩ := h1.b
  have hlo : ∀ k, rLo 0 m (t + 1) k ≤ t + 1 + 1 := fun k => by have := rLo_le (f := 0) (e := m) (t := t) k; omega
  have eL : mN ((rT1 r) 2) = L := by rw [h1.2.2.1, mN_nI (by omega)]
  obtain ⟨L2, hL, a1, a2, a3⟩ := pN_notes ht hlo h1 h2 h3
  have nk : ∀ j, j < L → rT1 r (7 + 3 * j + 1) ≠ nI k := fun j hj => by
    unfold rT1
    rw [up_n (by omega)]
    exact (rHas_f L 0).mp dh j (Nat.zero_le _) (by omega)
  obtain ⟨g1, g2⟩ := rNts_z (k := k) L 0 0 (rT1 r) (by omega) (by omega) h1 (fun j hj => ⟨h2 j (by omega), nk j (by omega)⟩)
  have er : rRow (rNotes (rT1 r)) k = rRow r k := by
    rw [show rRow (rNotes (rT1 r)) k = rRow (rNts L 0 0 (rT1 r)).2 k from by unfold rNotes; rw [eL]; exact rRow_cg (fun i hi => up_n (by omega)), g1]
    exact rRow_cg (fun i hi => up_n (by omega))
  have hJ2 := a3.1 k hk
  rw [show rLo 0 m (t + 1) k = t + 1 from if_pos (by omega)] at hJ2
  have hb := rNts_le L 0 0 (rT1 r)
  have e1 : ∀ i, i < 31 → rTick 0 m r i = rNotes (rT1 r) i := fun i hi => by unfold rTick; exact rRows_hd _ _ _ _ hi
  have e2 : mN (rTick 0 m r 2) = (rNts L 0 0 (rT1 r)).1 := by
    rw [e1 2 (by decide)]
    unfold rNotes
    rw [eL, up_s, mN_nI (by omega)]
  obtain ⟨z0, z6⟩ := mRow_z (tt := rNotes (rT1 r) 1 + rNotes (rT1 r) 3) (wait := rNotes (rT1 r) 4) (size := rNotes (rT1 r) 5) (most := rNotes (rT1 r) 6) (W := W + 48) a1.2.1 ht (by omega) hJ2.1 (by rw [er]; exact d0) (by rw [er]; exact d6)
  have ew : rRow (rTick 0 m r) k = rCut (mRow (rNotes (rT1 r) 1) (rNotes (rT1 r) 1 + rNotes (rT1 r) 3) (rNotes (rT1 r) 4) (rNotes (rT1 r) 5) (rNotes (rT1 r) 6) (rRow (rNotes (rT1 r)) k)) := by
    unfold rTick
    rw [rRows_k, if_pos (by omega)]
  refine rDn_m (by rw [ew, rCut_at (by decide)]; exact z0) (by rw [ew, rCut_at (by decide)]; exact z6) ?_
  rw [e2]
  refine (rHas_f _ 0).mpr (fun j _ hj => ?_)
  rw [e1 _ (by omega), show rNotes (rT1 r) (7 + 3 * j + 1) = (rNts L 0 0 (rT1 r)).2 (7 + 3 * j + 1) from by unfold rNotes; rw [eL, up_n (by omega)]]
  exact g2 j (by omega)
