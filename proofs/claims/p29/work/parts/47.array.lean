/-! THE REFERENCE'S WHOLE ARRAY r IS THE STATE THAT WE SPEAK OF -/
def rCut (u : Nat → Int32) : Nat → Int32 := fun j => if j < 39 then u j else 0
def rRow (r : Nat → Int32) (k : Nat) : Nat → Int32 := fun j => if j < 39 then r (31 + 39 * k + j) else 0
def rX (r : Nat → Int32) (k : Nat) (u : Nat → Int32) : Nat → Int32 := fun i => if 31 + 39 * k ≤ i ∧ i < 31 + 39 * k + 39 then u (i - (31 + 39 * k)) else r i
theorem xX_rX {σ : xS} {a k : Nat} {u : Nat → Int32} : xX σ a k u = xset σ a (rX (σ a) k u) := rfl
theorem xX_set {σ : xS} {a k : Nat} {r u : Nat → Int32} : xX (xset σ a r) a k u = xset σ a (rX r k u) := by
  rw [xX_rX, xset_xset, xset_same]
theorem rX_hd {r u : Nat → Int32} {k i : Nat} (h : i < 31) : rX r k u i = r i := if_neg (by omega)
theorem rX_at {r u : Nat → Int32} {k w : Nat} (h : w < 39) : rX r k u (31 + 39 * k + w) = u w := by
  unfold rX
  rw [if_pos (by omega)]
  congr 1
  omega
theorem rX_ot {r u : Nat → Int32} {k j w : Nat} (h : j ≠ k) (hw : w < 39) : rX r k u (31 + 39 * j + w) = r (31 + 39 * j + w) := if_neg (by omega)
theorem rRow_X {r u : Nat → Int32} {k : Nat} : rRow (rX r k u) k = rCut u := by
  funext j
  unfold rRow rCut
  by_cases h : j < 39
  · rw [if_pos h, if_pos h, rX_at h]
  · rw [if_neg h, if_neg h]
theorem rRow_o {r u : Nat → Int32} {k j : Nat} (h : j ≠ k) : rRow (rX r k u) j = rRow r j := by
  funext w
  unfold rRow
  by_cases hw : w < 39
  · rw [if_pos hw, if_pos hw, rX_ot h hw]
  · rw [if_neg hw, if_neg hw]
theorem rRow_cg {r r2 : Nat → Int32} {k : Nat} (h : ∀ i, 31 ≤ i → r2 i = r i) : rRow r2 k = rRow r k := by
  funext w
  unfold rRow
  by_cases hw : w < 39
  · rw [if_pos hw, if_pos hw, h _ (by omega)]
  · rw [if_neg hw, if_neg hw]
theorem rRow_at {r : Nat → Int32} {k w : Nat} (h : w < 39) : rRow r k w = r (31 + 39 * k + w) := if_pos h
theorem rCut_at {u : Nat → Int32} {w : Nat} (h : w < 39) : rCut u w = u w := if_pos h
theorem rX_row {r : Nat → Int32} {k : Nat} : rX r k (rRow r k) = r := by
  funext i
  unfold rX
  by_cases h : 31 + 39 * k ≤ i ∧ i < 31 + 39 * k + 39
  · rw [if_pos h, rRow_at (by omega)]
    congr 1
    omega
  · rw [if_neg h]
/-- the array as one with row k in it -/
theorem xset_X {σ : xS} {a k : Nat} {r : Nat → Int32} : xset σ a r = xX (xset σ a r) a k (rRow r k) := by
  rw [xX_set, rX_row]
theorem xI.c39 {u v : Nat → Int32} {t lo W : Nat} (h : xI u t lo W) (e : ∀ j, j < 39 → v j = u j) : xI v t lo W := by
  obtain ⟨o, n, c, a, d, x, T, F, k1, ⟨g1, g2, g3, g4, g5, l, g6, g7, g8⟩, l3, f1, f2, f3, f4⟩ := h
  have hcap := k1.cap
  obtain ⟨h1, h2, h3, h4, h5, h6, h7, h8, h9, h10, h11, h12, h13, h14, h15, h16⟩ := k1
  refine ⟨o, n, c, a, d, x, T, F, ⟨?_, ?_, ?_, ?_, ?_, ?_, h7, h8, h9, h10, h11, fun j hj => ?_, h13, h14, h15, ?_⟩, ⟨fun j hj => ?_, g2, g3, g4, g5, l, ?_, g7, g8⟩, l3, ?_, f2, f3, fun hn => ?_⟩
  · rw [e 6 (by omega), h1]
  · rw [e 13 (by omega), h2]
  · rw [e 9 (by omega), h3]
  · rw [e 5 (by omega), h4]
  · rw [e 10 (by omega), h5]
  · rw [e 0 (by omega), h6]
  · rw [e _ (by omega), h12 j hj]
  · rw [e 11 (by omega)]; exact h16
  · rw [e _ (by omega), g1 j hj]
  · rw [e 7 (by omega), g6]
  · rw [e 14 (by omega), f1]
  · rw [e _ (by omega), f4 hn]
theorem xQ2.c39 {σ : xS} {b o n : Nat} {u v : Nat → Int32} (h : xQ2 σ b u o n) (e : ∀ j, j < 39 → v j = u j) : xQ2 σ b v o n := by
  obtain ⟨h1, h2, h3, h4, h5, ⟨w, h6⟩, ⟨w2, h7⟩⟩ := h
  refine ⟨?_, by rw [e 6 (by omega), h2], by rw [e 13 (by omega), h3], h4, h5, ⟨w, h6.cg (fun j hj => ⟨e _ (by omega), rfl, e _ (by omega)⟩)⟩, ⟨w2, h7.cg (fun j hj => ⟨e _ (by omega), rfl, e _ (by omega)⟩)⟩⟩
  unfold xS2
  rw [e 0 (by omega), e 1 (by omega), e 2 (by omega), e 3 (by omega), e 4 (by omega), e 5 (by omega), e 8 (by omega), e 9 (by omega), e 10 (by omega), e 11 (by omega), e 12 (by omega)]
  exact h1
/-- what holds of a row -/
def xJ (u : Nat → Int32) (t lo W : Nat) : Prop := xI u t lo W ∧ (u 1 = 0 ∨ u 1 = 1) ∧ yG u
theorem xJ.cut {u : Nat → Int32} {t lo W : Nat} (h : xJ u t lo W) : xJ (rCut u) t lo W := ⟨h.1.c39 (fun j hj => rCut_at hj), by rw [rCut_at (by decide)]; exact h.2.1, h.2.2.cg (rCut_at (by decide)) (fun j a b => rCut_at (by omega))⟩
theorem xJ.mono {u : Nat → Int32} {t lo W W2 : Nat} (h : xJ u t lo W) (hw : W ≤ W2) : xJ u t lo W2 := ⟨h.1.mono hw, h.2⟩
theorem xI.time {u : Nat → Int32} {t lo W t2 : Nat} (h : xI u t lo W) (ht : t ≤ t2) : xI u t2 lo W := by
  obtain ⟨o, n, c, a, d, x, T, F, k1, ⟨g1, g2, g3, g4, g5, l, g6, g7, g8⟩, l3, f1, f2, f3, f4⟩ := h
  refine ⟨o, n, c, a, d, x, T, F, k1, ⟨g1, g2, fun j hj => ?_, g4, fun j hj => ?_, l, g6, fun h => ?_, g8⟩, l3, f1, ?_, fun h => ?_, f4⟩
  · have := g3 j hj; omega
  · have := g5 j hj; omega
  · have := g7 h; omega
  · omega
  · have := f3 h; omega
theorem xI.low {u : Nat → Int32} {t lo W lo2 : Nat} (h : xI u t lo W) (hl : lo2 ≤ lo) : xI u t lo2 W := by
  obtain ⟨o, n, c, a, d, x, T, F, k1, ⟨g1, g2, g3, g4, g5, g6⟩, k3⟩ := h
  exact ⟨o, n, c, a, d, x, T, F, k1, ⟨g1, g2, g3, fun j p q => by have := g4 j p q; omega, g5, g6⟩, k3⟩
theorem xJ.time {u : Nat → Int32} {t lo W t2 : Nat} (h : xJ u t lo W) (ht : t ≤ t2) : xJ u t2 lo W := ⟨h.1.time ht, h.2⟩
theorem xJ.low {u : Nat → Int32} {t lo W lo2 : Nat} (h : xJ u t lo W) (hl : lo2 ≤ lo) : xJ u t lo2 W := ⟨h.1.low hl, h.2⟩
theorem xJ.o6 {u : Nat → Int32} {t lo W : Nat} (h : xJ u t lo W) : ∃ o, u 6 = nI o ∧ o ≤ 6 := by
  obtain ⟨⟨o, n, c, a, d, x, T, F, k1, -, -⟩, -, -⟩ := h
  exact ⟨o, k1.1, k1.2.2.2.2.2.2.1⟩
theorem xJ.box {u : Nat → Int32} {t lo W : Nat} (h : xJ u t lo W) : ∃ x, u 0 = nI x ∧ x ≤ 9999 := by
  obtain ⟨⟨o, n, c, a, d, x, T, F, k1, -, -⟩, -, -⟩ := h
  exact ⟨x, k1.2.2.2.2.2.1, k1.2.2.2.2.2.2.2.2.2.2.1⟩
theorem pJ_sends {t lo r sz W : Nat} {most h : Int32} {u : Nat → Int32} (hr : r ≤ 9) (hlo : lo ≤ t + r) (ht : t < 2 ^ 29) (hsz : sz ≤ 99) (hI : xJ u t lo W) : xJ (mSends (nI (t + r)) (nI sz) most h u) t lo (W + 6) := by
  obtain ⟨x, h0, hx⟩ := hI.box
  exact ⟨pI_sends hr hlo ht hsz hI.1, by unfold mSends; rw [mSend_k (Or.inl rfl)]; exact hI.2.1, (hI.2.2.sends hsz h0 hx).1⟩
theorem pJ_note {t lo W y : Nat} {u : Nat → Int32} (hI : xJ u t lo W) (hy2 : y ≤ 500) (hy : ¬ (9999 : Int32) < u 0 + nI y) : xJ (upd (upd u 0 (u 0 + nI y)) 2 (u 2 + nI y)) t lo W := by
  refine ⟨pI_note hI.1 (fun x hx hx2 => ?_), by rw [up_n (by decide), up_n (by decide)]; exact hI.2.1, hI.2.2.cg (by rw [up_n (by decide), up_n (by decide)]) (fun j a b => by rw [up_n (by omega), up_n (by omega)])⟩
  rw [hx, nI_add] at hy
  exact Nat.not_lt.mp (fun q => hy (show (9999 : Int32) < nI (x + y) from nI_lt (a := 9999) (b := x + y) q (by omega)))
theorem pJ_write {t lo r sz W y : Nat} {most : Int32} {u : Nat → Int32} (hr : r ≤ 9) (hlo : lo ≤ t + r) (ht : t < 2 ^ 29) (hsz : sz ≤ 99) (hI : xJ u t lo W) (hy2 : y ≤ 500) (hy : ¬ (9999 : Int32) < u 0 + nI y) : xJ (mWrite (nI (t + r)) (nI sz) most (nI y) u) t lo (W + 6) := by
  unfold mWrite mAsIs
  exact pJ_sends hr hlo ht hsz (pJ_note hI hy2 hy)
/-- the header -/
def rH (r : Nat → Int32) (m t tr wt sz ms L : Nat) : Prop := r 0 = nI m ∧ r 1 = nI t ∧ r 2 = nI L ∧ r 3 = nI tr ∧ r 4 = nI wt ∧ r 5 = nI sz ∧ r 6 = nI ms ∧ 1 ≤ m ∧ m ≤ 4 ∧ 1 ≤ tr ∧ tr ≤ 9 ∧ wt ≤ 20 ∧ 4 ≤ sz ∧ sz ≤ 99 ∧ 1 ≤ ms ∧ ms ≤ 6 ∧ L ≤ 8
theorem rH.cg {r r2 : Nat → Int32} {m t tr wt sz ms L : Nat} (h : rH r m t tr wt sz ms L) (e : ∀ i, i < 7 → r2 i = r i) : rH r2 m t tr wt sz ms L := by
  unfold rH
  rw [e 0 (by omega), e 1 (by omega), e 2 (by omega), e 3 (by omega), e 4 (by omega), e 5 (by omega), e 6 (by omega)]
  exact h
/-- a planned note -/
def rN (r : Nat → Int32) (m i : Nat) : Prop := ∃ k s, r (7 + 3 * i + 1) = nI k ∧ k < m ∧ r (7 + 3 * i + 2) = nI s ∧ 1 ≤ s ∧ s ≤ 500
theorem rN.cg {r r2 : Nat → Int32} {m i : Nat} (h : rN r m i) (e1 : r2 (7 + 3 * i + 1) = r (7 + 3 * i + 1)) (e2 : r2 (7 + 3 * i + 2) = r (7 + 3 * i + 2)) : rN r2 m i := by
  unfold rN
  rw [e1, e2]
  exact h
/-- a writer's row at the start -/
def rS : Nat → Int32 := fun j => if j = 1 then 1 else if j = 11 then -1 else 0
/-- all writers' rows -/
def rJ (r : Nat → Int32) (m t : Nat) (lo : Nat → Nat) (W : Nat) : Prop := (∀ k, k < m → xJ (rRow r k) t (lo k) W) ∧ ∀ k, m ≤ k → k < 4 → rRow r k = rS
theorem rJ.mono {r : Nat → Int32} {m t W W2 : Nat} {lo : Nat → Nat} (h : rJ r m t lo W) (hw : W ≤ W2) : rJ r m t lo W2 := ⟨fun k hk => (h.1 k hk).mono hw, h.2⟩
theorem rJ.cg {r r2 : Nat → Int32} {m t W : Nat} {lo : Nat → Nat} (h : rJ r m t lo W) (e : ∀ i, 31 ≤ i → r2 i = r i) : rJ r2 m t lo W := ⟨fun k hk => by rw [rRow_cg e]; exact h.1 k hk, fun k p q => by rw [rRow_cg e]; exact h.2 k p q⟩
theorem rJ.X {r u : Nat → Int32} {m t W k : Nat} {lo lo2 : Nat → Nat} (h : rJ r m t lo W) (hk : k < m) (hl : ∀ j, j ≠ k → lo2 j = lo j) (hu : xJ u t (lo2 k) W) : rJ (rX r k u) m t lo2 W := by
  refine ⟨fun j hj => ?_, fun j p q => ?_⟩
  · by_cases e : j = k
    · subst e; rw [rRow_X]; exact hu.cut
    · rw [rRow_o e, hl j e]; exact h.1 j hj
  · rw [rRow_o (by omega)]; exact h.2 j p q
/-- a note is written -/
def rW (r : Nat → Int32) (k : Nat) (s : Int32) : Nat → Int32 := rX r k (mWrite (r 1 + r 3) (r 5) (r 6) s (rRow r k))
theorem pR_canWrite {σ : xS} {a k : Nat} {r : Nat → Int32} {s : Int32} (hk : k < 4) : F_X6_canWrite 187 a (nI k) s (xset σ a r) = some (if 9999 < rRow r k 0 + s then 0 else 1, xset σ a r) := by
  have e : F_X6_of 187 a (nI k) 0 (xset σ a r) = some (rRow r k 0, xset σ a r) := by
    rw [xset_X (k := k)]
    exact xof_0 hk
  unfold F_X6_canWrite
  rw [e, xbI_s]
  by_cases h : 9999 < rRow r k 0 + s
  · rw [if_pos h, if_pos h]
  · rw [if_neg h, if_neg h]
theorem pR_writeOn {σ : xS} {a k m t tr wt sz ms L lo W : Nat} {r : Nat → Int32} {s : Int32} (hk : k < 4) (hH : rH r m t tr wt sz ms L) (hJ : xJ (rRow r k) t lo W) : F_X6_writeOn 187 a (nI k) s (xset σ a r) = some (rRow (rW r k s) k 3 - rRow r k 3, xset σ a (rW r k s)) := by
  obtain ⟨o, h6, ho⟩ := hJ.o6
  have hms : (xset σ a r) a 6 = nI ms := by rw [xset_same]; exact hH.2.2.2.2.2.2.1
  have e := pF_X6_writeOn (σ := xset σ a r) (a := a) (s := s) hk hms hH.2.2.2.2.2.2.2.2.2.2.2.2.2.2.2.1 h6 ho
  rw [xX_set, xX_set, rX_row, xset_same] at e
  rw [e]
  unfold rW
  rw [rRow_X, rCut_at (by decide)]
