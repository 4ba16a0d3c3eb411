/-! THE PLANNED NOTES THAT ARE DUE -/
def rMv (r : Nat → Int32) (l i : Nat) : Nat → Int32 := upd (upd (upd r (7 + 3 * l) (r (7 + 3 * i))) (7 + 3 * l + 1) (r (7 + 3 * i + 1))) (7 + 3 * l + 2) (r (7 + 3 * i + 2))
theorem rMv_n {r : Nat → Int32} {l i x : Nat} (h : x < 7 + 3 * l ∨ 7 + 3 * l + 2 < x) : rMv r l i x = r x := by
  unfold rMv
  rw [up_n (by omega), up_n (by omega), up_n (by omega)]
theorem rMv_0 {r : Nat → Int32} {l i : Nat} : rMv r l i (7 + 3 * l) = r (7 + 3 * i) := by
  unfold rMv
  rw [up_n (by omega), up_n (by omega), up_s]
theorem rMv_1 {r : Nat → Int32} {l i : Nat} : rMv r l i (7 + 3 * l + 1) = r (7 + 3 * i + 1) := by
  unfold rMv
  rw [up_n (by omega), up_s]
theorem rMv_2 {r : Nat → Int32} {l i : Nat} : rMv r l i (7 + 3 * l + 2) = r (7 + 3 * i + 2) := up_s
/-- the notes from i on; l are kept so far -/
def rNts : Nat → Nat → Nat → (Nat → Int32) → Nat × (Nat → Int32)
  | 0, l, _, r => (l, r)
  | q + 1, l, i, r => if r (7 + 3 * i) = r 1 then (if 9999 < rRow r (mN (r (7 + 3 * i + 1))) 0 + r (7 + 3 * i + 2) then rNts q l (i + 1) r else rNts q l (i + 1) (rW r (mN (r (7 + 3 * i + 1))) (r (7 + 3 * i + 2)))) else rNts q (l + 1) (i + 1) (rMv r l i)
theorem rW_hd {r : Nat → Int32} {k i : Nat} {s : Int32} (h : i < 31) : rW r k s i = r i := rX_hd h
section RN
variable {m t tr wt sz ms L : Nat} {lo : Nat → Nat}
theorem rW_J {r : Nat → Int32} {k y W : Nat} (ht : t < 2 ^ 29) (hlo : ∀ k, lo k ≤ t + 1) (hH : rH r m t tr wt sz ms L) (hJ : rJ r m t lo W) (hk : k < m) (hy2 : y ≤ 500) (hy : ¬ (9999 : Int32) < rRow r k 0 + nI y) : rJ (rW r k (nI y)) m t lo (W + 6) := by
  refine (hJ.mono (Nat.le_add_right W 6)).X hk (fun _ _ => rfl) ?_
  have h1 := hH.2.1
  have h3 := hH.2.2.2.1
  have h5 := hH.2.2.2.2.2.1
  have l := hlo k
  obtain ⟨-, -, -, -, -, -, -, -, -, b1, b2, -, -, b3, -⟩ := hH
  rw [h1, h3, h5, nI_add]
  exact pJ_write b2 (by omega) ht b3 (hJ.1 k hk) hy2 hy
theorem rW_H {r : Nat → Int32} {k : Nat} {s : Int32} (hH : rH r m t tr wt sz ms L) : rH (rW r k s) m t tr wt sz ms L := hH.cg (fun i hi => rW_hd (by omega))
theorem rW_N {r : Nat → Int32} {k i : Nat} {s : Int32} (h : rN r m i) (hi : i < 8) : rN (rW r k s) m i := h.cg (rW_hd (by omega)) (rW_hd (by omega))
theorem rMv_H {r : Nat → Int32} {l i : Nat} (hH : rH r m t tr wt sz ms L) : rH (rMv r l i) m t tr wt sz ms L := hH.cg (fun i hi => rMv_n (by omega))
theorem rMv_J {r : Nat → Int32} {l i W : Nat} (hl : l < 8) (hJ : rJ r m t lo W) : rJ (rMv r l i) m t lo W := hJ.cg (fun x hx => rMv_n (by omega))
theorem rMv_N {r : Nat → Int32} {l i : Nat} (hl : l ≤ i) (h : ∀ j, (j < l ∨ i ≤ j ∧ j < L) → rN r m j) (hi : i < L) : ∀ j, (j < l + 1 ∨ i + 1 ≤ j ∧ j < L) → rN (rMv r l i) m j := by
  intro j hj
  by_cases e : j = l
  · subst e
    obtain ⟨k, s, h1, h2, h3, h4⟩ := h i (by omega)
    exact ⟨k, s, by rw [rMv_1, h1], h2, by rw [rMv_2, h3], h4⟩
  · exact (h j (by omega)).cg (rMv_n (by omega)) (rMv_n (by omega))
theorem pN_inv (ht : t < 2 ^ 29) (hlo : ∀ k, lo k ≤ t + 1) : ∀ (q l i W : Nat) (r : Nat → Int32), i + q = L → l ≤ i → rH r m t tr wt sz ms L → (∀ j, (j < l ∨ i ≤ j ∧ j < L) → rN r m j) → rJ r m t lo W → rH (rNts q l i r).2 m t tr wt sz ms L ∧ (∀ j, j < (rNts q l i r).1 → rN (rNts q l i r).2 m j) ∧ rJ (rNts q l i r).2 m t lo (W + 6 * q) ∧ (rNts q l i r).1 ≤ l + q := by
  intro q
  induction q with
  | zero => intro l i W r hi hl hH hN hJ; exact ⟨hH, fun j hj => hN j (Or.inl hj), hJ, Nat.le_refl _⟩
  | succ q ih =>
    intro l i W r hi hl hH hN hJ
    have hL8 : L ≤ 8 := hH.2.2.2.2.2.2.2.2.2.2.2.2.2.2.2.2
    have hm4 : m ≤ 4 := hH.2.2.2.2.2.2.2.2.1
    obtain ⟨k, s, e1, hk, e2, hs1, hs2⟩ := hN i (by omega)
    rw [rNts, e1, e2, mN_nI (by omega)]
    by_cases hd : r (7 + 3 * i) = r 1
    · rw [if_pos hd]
      by_cases hy : (9999 : Int32) < rRow r k 0 + nI s
      · rw [if_pos hy]
        obtain ⟨a1, a2, a3, a4⟩ := ih l (i + 1) W r (by omega) (by omega) hH (fun j hj => hN j (by omega)) hJ
        exact ⟨a1, a2, a3.mono (by omega), by omega⟩
      · rw [if_neg hy]
        obtain ⟨a1, a2, a3, a4⟩ := ih l (i + 1) (W + 6) _ (by omega) (by omega) (rW_H (k := k) (s := nI s) hH) (fun j hj => rW_N (hN j (by omega)) (by omega)) (rW_J ht hlo hH hJ hk hs2 hy)
        exact ⟨a1, a2, a3.mono (by omega), by omega⟩
    · rw [if_neg hd]
      obtain ⟨a1, a2, a3, a4⟩ := ih (l + 1) (i + 1) W _ (by omega) (by omega) (rMv_H (l := l) (i := i) hH) (rMv_N hl hN (by omega)) (rMv_J (by omega) hJ)
      exact ⟨a1, a2, a3.mono (by omega), by omega⟩
theorem nI_7x (n : Nat) : (7 : Int32) + (3 * nI n) = nI (7 + 3 * n) := by rw [show (7 : Int32) = nI 7 from rfl, show (3 : Int32) = nI 3 from rfl, pk_mul, nI_add]
theorem pL_X6_notes {σ : xS} {a : Nat} {KK : Int32 → xS → Option xS} (ht : t < 2 ^ 29) (hlo : ∀ k, lo k ≤ t + 1) : ∀ (q l i fuel W : Nat) (r : Nat → Int32), i + q = L → l ≤ i → q < fuel → rH r m t tr wt sz ms L → (∀ j, (j < l ∨ i ≤ j ∧ j < L) → rN r m j) → rJ r m t lo W → L_X6_notesAreWritten_8 187 a (nI L) KK fuel (nI l) (nI i) (xset σ a r) = KK (nI (rNts q l i r).1) (xset σ a (rNts q l i r).2) := by
  intro q
  induction q with
  | zero =>
    intro l i fuel W r hi hl hf hH hN hJ
    obtain ⟨g, rfl⟩ : ∃ g, fuel = g + 1 := ⟨fuel - 1, by omega⟩
    have hL8 : L ≤ 8 := hH.2.2.2.2.2.2.2.2.2.2.2.2.2.2.2.2
    rw [L_X6_notesAreWritten_8, if_pos (nI_le (by omega) (by omega))]
    rfl
  | succ q ih =>
    intro l i fuel W r hi hl hf hH hN hJ
    obtain ⟨g, rfl⟩ : ∃ g, fuel = g + 1 := ⟨fuel - 1, by omega⟩
    have hL8 : L ≤ 8 := hH.2.2.2.2.2.2.2.2.2.2.2.2.2.2.2.2
    have hm4 : m ≤ 4 := hH.2.2.2.2.2.2.2.2.1
    obtain ⟨k, s, e1, hk, e2, hs1, hs2⟩ := hN i (by omega)
    have hx0 : xin (nI (7 + 3 * i)) 187 = true := xin_nI (by omega) (by decide)
    have hx1 : xin (nI (7 + 3 * i + 1)) 187 = true := xin_nI (by omega) (by decide)
    have hx2 : xin (nI (7 + 3 * i + 2)) 187 = true := xin_nI (by omega) (by decide)
    have hy0 : xin (nI (7 + 3 * l)) 187 = true := xin_nI (by omega) (by decide)
    have hy1 : xin (nI (7 + 3 * l + 1)) 187 = true := xin_nI (by omega) (by decide)
    have hy2 : xin (nI (7 + 3 * l + 2)) 187 = true := xin_nI (by omega) (by decide)
    have hc0 : (nI (7 + 3 * i)).toNatClampNeg = 7 + 3 * i := nI_clamp (by omega)
    have hc1 : (nI (7 + 3 * i + 1)).toNatClampNeg = 7 + 3 * i + 1 := nI_clamp (by omega)
    have hc2 : (nI (7 + 3 * i + 2)).toNatClampNeg = 7 + 3 * i + 2 := nI_clamp (by omega)
    have hd0 : (nI (7 + 3 * l)).toNatClampNeg = 7 + 3 * l := nI_clamp (by omega)
    have hd1 : (nI (7 + 3 * l + 1)).toNatClampNeg = 7 + 3 * l + 1 := nI_clamp (by omega)
    have hd2 : (nI (7 + 3 * l + 2)).toNatClampNeg = 7 + 3 * l + 2 := nI_clamp (by omega)
    have hr2 : ∀ x y, upd (upd r (7 + 3 * l) x) (7 + 3 * l + 1) y (7 + 3 * i + 2) = nI s := fun x y => by rw [up_n (by omega), up_n (by omega), e2]
    have hJk := hJ.1 k hk
    rw [L_X6_notesAreWritten_8, if_neg (nI_ge (by omega) (by omega)), rNts]
    simp only [xlet_s, nI_7x, nI_1, nI_p2, hx0, hx1, hx2, hy0, hy1, hy2, hc0, hc1, hc2, hd0, hd1, hd2, if_true, xin_1, cl_1, xset_same, e1, e2, pR_canWrite (show k < 4 by omega), pR_writeOn (show k < 4 by omega) hH hJk, xbI_s, xu_xset, hr2, mN_nI (show k < 2 ^ 31 by omega)]
    by_cases hd : r (7 + 3 * i) = r 1
    · rw [if_pos hd, if_pos hd]
      by_cases hy : (9999 : Int32) < rRow r k 0 + nI s
      · rw [if_pos hy, if_pos hy, if_pos rfl]
        exact ih l (i + 1) g W r (by omega) (by omega) (by omega) hH (fun j hj => hN j (by omega)) hJ
      · rw [if_neg hy, if_neg hy, if_neg (by decide)]
        exact ih l (i + 1) g (W + 6) _ (by omega) (by omega) (by omega) (rW_H hH) (fun j hj => rW_N (hN j (by omega)) (by omega)) (rW_J ht hlo hH hJ hk hs2 hy)
    · rw [if_neg hd, if_neg hd]
      have h := ih (l + 1) (i + 1) g W _ (by omega) (by omega) (by omega) (rMv_H (l := l) (i := i) hH) (rMv_N hl hN (by omega)) (rMv_J (by omega) hJ)
      unfold rMv at h ⊢
      rw [e1, e2] at h ⊢
      exact h
/-- the notes that are due are written -/
def rNotes (r : Nat → Int32) : Nat → Int32 := upd (rNts (mN (r 2)) 0 0 r).2 2 (nI (rNts (mN (r 2)) 0 0 r).1)
theorem pR_notes {σ : xS} {a W : Nat} {r : Nat → Int32} (ht : t < 2 ^ 29) (hlo : ∀ k, lo k ≤ t + 1) (hH : rH r m t tr wt sz ms L) (hN : ∀ j, j < L → rN r m j) (hJ : rJ r m t lo W) : F_X6_notesAreWritten 187 a (xset σ a r) = some (xset σ a (rNotes r)) := by
  have hL8 : L ≤ 8 := hH.2.2.2.2.2.2.2.2.2.2.2.2.2.2.2.2
  unfold F_X6_notesAreWritten rNotes
  simp only [xin_2, if_true, cl_2, xlet_s, xset_same, hH.2.2.1, mN_nI (show L < 2 ^ 31 by omega)]
  refine (pL_X6_notes (KK := fun (zz2 : Int32) (σ3 : xS) => some (xu σ3 a 2 zz2)) ht hlo L 0 0 1000 W r (by omega) (by omega) (by omega) hH (fun j hj => hN j (by omega)) hJ).trans ?_
  rw [xu_xset]
theorem pN_notes {W : Nat} {r : Nat → Int32} (ht : t < 2 ^ 29) (hlo : ∀ k, lo k ≤ t + 1) (hH : rH r m t tr wt sz ms L) (hN : ∀ j, j < L → rN r m j) (hJ : rJ r m t lo W) : ∃ L2, L2 ≤ L ∧ rH (rNotes r) m t tr wt sz ms L2 ∧ (∀ j, j < L2 → rN (rNotes r) m j) ∧ rJ (rNotes r) m t lo (W + 48) := by
  have hL8 : L ≤ 8 := hH.2.2.2.2.2.2.2.2.2.2.2.2.2.2.2.2
  obtain ⟨a1, a2, a3, a4⟩ := pN_inv ht hlo L 0 0 W r (by omega) (by omega) hH (fun j hj => hN j (by omega)) hJ
  unfold rNotes
  rw [hH.2.2.1, mN_nI (by omega)]
  refine ⟨(rNts L 0 0 r).1, by omega, ?_, fun j hj => (a2 j hj).cg (up_n (by omega)) (up_n (by omega)), (a3.mono (by omega)).cg (fun i hi => up_n (by omega))⟩
  obtain ⟨b0, b1, b2, b3, b4, b5, b6, b7, b8, b9, b10, b11, b12, b13, b14, b15, b16⟩ := a1
  exact ⟨by rw [up_n (by decide), b0], by rw [up_n (by decide), b1], up_s, by rw [up_n (by decide), b3], by rw [up_n (by decide), b4], by rw [up_n (by decide), b5], by rw [up_n (by decide), b6], b7, b8, b9, b10, b11, b12, b13, b14, b15, by omega⟩
end RN
