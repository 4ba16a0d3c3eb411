/-! TICKS -/
def rT1 (r : Nat → Int32) : Nat → Int32 := upd r 1 (r 1 + 1)
def rRw (r : Nat → Int32) (k : Nat) : Nat → Int32 := rX r k (mRow (r 1) (r 1 + r 3) (r 4) (r 5) (r 6) (rRow r k))
def rRows : Nat → Nat → (Nat → Int32) → (Nat → Int32)
  | 0, _, r => r
  | d + 1, k, r => rRows d (k + 1) (rRw r k)
def rTick (f e : Nat) (r : Nat → Int32) : Nat → Int32 := rRows (e - f) f (rNotes (rT1 r))
def rTicks (f e : Nat) : Nat → (Nat → Int32) → (Nat → Int32)
  | 0, r => r
  | n + 1, r => rTicks f e n (rTick f e r)
def rLo (f e t : Nat) : Nat → Nat := fun j => if f ≤ j ∧ j < e then t else 0
theorem rLo_le {f e t : Nat} : ∀ k, rLo f e (t + 1) k ≤ t + 1 := by
  intro k
  unfold rLo
  split <;> omega
/-- all that holds of a state -/
def rOK (r : Nat → Int32) (m t tr wt sz ms L : Nat) (lo : Nat → Nat) (W : Nat) : Prop := rH r m t tr wt sz ms L ∧ (∀ j, j < L → rN r m j) ∧ rJ r m t lo W
section RT
variable {m t tr wt sz ms L : Nat} {lo : Nat → Nat}
theorem rRows_hd : ∀ (d k i : Nat) (r : Nat → Int32), i < 31 → rRows d k r i = r i := by
  intro d
  induction d with
  | zero => intro k i r hi; rfl
  | succ d ih =>
    intro k i r hi
    rw [rRows, ih (k + 1) i _ hi]
    exact rX_hd hi
theorem rRw_J {r : Nat → Int32} {k W : Nat} {lo2 : Nat → Nat} (ht : t < 2 ^ 29) (hW : W < 2 ^ 30) (hk : k < m) (hH : rH r m t tr wt sz ms L) (hJ : rJ r m t lo W) (hl : lo k = t) (hl2 : ∀ j, j ≠ k → lo2 j = lo j) (hl3 : lo2 k = t + 1) : rJ (rRw r k) m t lo2 (W + 6) := by
  obtain ⟨b0, b1, b2, b3, b4, b5, b6, b7, b8, b9, b10, b11, b12, b13, b14, b15, b16⟩ := hH
  refine (hJ.mono (Nat.le_add_right W 6)).X hk hl2 ?_
  have hI : xJ (rRow r k) t t W := by have h := hJ.1 k hk; rw [hl] at h; exact h
  have h := (pF_X6_writerTicks (σ := fun _ => r) (ar := 0) (k := k) (by omega) b1 b3 b5 b6 b9 b10 b13 b15 ht hW hI.1).2
  obtain ⟨x, h0, hx⟩ := hI.box
  rw [hl3, b1, b3, nI_add]
  refine ⟨h, by rw [mRow_1]; exact hI.2.1, ?_⟩
  rw [b5]
  exact (hI.2.2.row b13 h0 hx).1
theorem pK_rows (ht : t < 2 ^ 29) : ∀ (d k W : Nat) (lo : Nat → Nat) (r : Nat → Int32), k + d ≤ m → W + 6 * d < 2 ^ 30 → rH r m t tr wt sz ms L → rJ r m t lo W → (∀ j, k ≤ j → j < k + d → lo j = t) → rH (rRows d k r) m t tr wt sz ms L ∧ rJ (rRows d k r) m t (fun j => if k ≤ j ∧ j < k + d then t + 1 else lo j) (W + 6 * d) := by
  intro d
  induction d with
  | zero =>
    intro k W lo r hk hW hH hJ hl
    refine ⟨hH, ?_⟩
    have e : (fun j => if k ≤ j ∧ j < k + 0 then t + 1 else lo j) = lo := by
      funext j
      rw [if_neg (by omega)]
    rw [e]; exact hJ
  | succ d ih =>
    intro k W lo r hk hW hH hJ hl
    have h1 := rRw_J (lo2 := fun j => if j = k then t + 1 else lo j) ht (by omega) (by omega) hH hJ (hl k (by omega) (by omega)) (fun j hj => if_neg hj) (if_pos rfl)
    obtain ⟨g1, g2⟩ := ih (k + 1) (W + 6) _ (rRw r k) (by omega) (by omega) (hH.cg (fun i hi => rX_hd (by omega))) h1 (fun j p q => by rw [if_neg (by omega)]; exact hl j (by omega) (by omega))
    refine ⟨g1, ?_⟩
    have e : (fun j => if k ≤ j ∧ j < k + (d + 1) then t + 1 else lo j) = (fun j => if k + 1 ≤ j ∧ j < k + 1 + d then t + 1 else if j = k then t + 1 else lo j) := by
      funext j
      by_cases h : j = k
      · subst h; rw [if_pos (by omega), if_neg (by omega), if_pos rfl]
      · by_cases h2 : k ≤ j ∧ j < k + (d + 1)
        · rw [if_pos h2, if_pos (by omega)]
        · rw [if_neg h2, if_neg (by omega), if_neg h]
    rw [e]
    exact g2.mono (by omega)
theorem rT1_ok {r : Nat → Int32} {W : Nat} (h : rOK r m t tr wt sz ms L lo W) : rOK (rT1 r) m (t + 1) tr wt sz ms L lo W := by
  obtain ⟨hH, hN, hJ⟩ := h
  obtain ⟨b0, b1, b2, b3, b4, b5, b6, b7⟩ := hH
  unfold rT1
  refine ⟨⟨by rw [up_n (by decide), b0], by rw [up_s, b1, nI_1], by rw [up_n (by decide), b2], by rw [up_n (by decide), b3], by rw [up_n (by decide), b4], by rw [up_n (by decide), b5], by rw [up_n (by decide), b6], b7⟩, fun j hj => (hN j hj).cg (up_n (by omega)) (up_n (by omega)), ?_⟩
  exact (show rJ r m (t + 1) lo W from ⟨fun k hk => (hJ.1 k hk).time (by omega), hJ.2⟩).cg (fun i hi => up_n (by omega))
theorem rN_hd {r r2 : Nat → Int32} {i : Nat} (h : rN r m i) (hi : i < 8) (e : ∀ x, x < 31 → r2 x = r x) : rN r2 m i := h.cg (e _ (by omega)) (e _ (by omega))
/-- what holds behind a tick -/
theorem pK_tick {f e W : Nat} {r : Nat → Int32} (ht : t + 1 < 2 ^ 29) (hW : W < 2 ^ 29) (he : e ≤ m) (h : rOK r m t tr wt sz ms L (rLo f e (t + 1)) W) : ∃ L2, L2 ≤ L ∧ rOK (rTick f e r) m (t + 1) tr wt sz ms L2 (rLo f e (t + 2)) (W + 72) := by
  obtain ⟨h1, h2, h3⟩ := rT1_ok h
  have hm4 : m ≤ 4 := h1.2.2.2.2.2.2.2.2.1
  obtain ⟨L2, hL, a1, a2, a3⟩ := pN_notes ht (fun k => by have := rLo_le (f := f) (e := e) (t := t) k; omega) h1 h2 h3
  have hL8 : L2 ≤ 8 := a1.2.2.2.2.2.2.2.2.2.2.2.2.2.2.2.2
  by_cases hfe : f ≤ e
  · obtain ⟨g1, g2⟩ := pK_rows ht (e - f) f (W + 48) _ (rNotes (rT1 r)) (by omega) (by omega) a1 a3 (fun j p q => if_pos (by omega))
    refine ⟨L2, hL, g1, fun j hj => rN_hd (a2 j hj) (by omega) (fun x hx => rRows_hd _ _ _ _ hx), ?_⟩
    have e1 : (fun j => if f ≤ j ∧ j < f + (e - f) then t + 1 + 1 else rLo f e (t + 1) j) = rLo f e (t + 2) := by
      funext j
      unfold rLo
      by_cases h : f ≤ j ∧ j < e
      · rw [if_pos (by omega), if_pos h]
      · rw [if_neg (by omega), if_neg h, if_neg h]
    rw [e1] at g2
    exact g2.mono (by omega)
  · have e0 : e - f = 0 := by omega
    unfold rTick
    rw [e0]
    refine ⟨L2, hL, a1, a2, ?_⟩
    have e1 : rLo f e (t + 2) = rLo f e (t + 1) := by
      funext j
      unfold rLo
      rw [if_neg (by omega), if_neg (by omega)]
    rw [e1]
    exact a3.mono (by omega)
/-- the reference's loop over the writers -/
theorem pL_X6_tick {σ : xS} {a : Nat} {KK : xS → Option xS} (ht : t < 2 ^ 29) : ∀ (d k fuel W : Nat) (lo : Nat → Nat) (r : Nat → Int32), k + d = m → d < fuel → W + 6 * d < 2 ^ 30 → rH r m t tr wt sz ms L → rJ r m t lo W → (∀ j, k ≤ j → j < k + d → lo j = t) → L_X6_tick_13 187 a KK fuel (nI k) (xset σ a r) = KK (xset σ a (rRows d k r)) := by
  intro d
  induction d with
  | zero =>
    intro k fuel W lo r hk hf hW hH hJ hl
    obtain ⟨g, rfl⟩ : ∃ g, fuel = g + 1 := ⟨fuel - 1, by omega⟩
    have hm4 : m ≤ 4 := hH.2.2.2.2.2.2.2.2.1
    rw [L_X6_tick_13]
    simp only [xin_0, if_true, cl_0, xlet_s, xset_same, hH.1]
    rw [if_pos (nI_le (by omega) (by omega))]
    rfl
  | succ d ih =>
    intro k fuel W lo r hk hf hW hH hJ hl
    obtain ⟨g, rfl⟩ : ∃ g, fuel = g + 1 := ⟨fuel - 1, by omega⟩
    have hm4 : m ≤ 4 := hH.2.2.2.2.2.2.2.2.1
    have hI : xJ (rRow r k) t t W := by have h := hJ.1 k (by omega); rw [hl k (by omega) (by omega)] at h; exact h
    have h1 := rRw_J (lo2 := fun j => if j = k then t + 1 else lo j) ht (by omega) (by omega) hH hJ (hl k (by omega) (by omega)) (fun j hj => if_neg hj) (if_pos rfl)
    have h2 := ih (k + 1) g (W + 6) _ (rRw r k) (by omega) (by omega) (by omega) (hH.cg (fun i hi => rX_hd (by omega))) h1 (fun j p q => by rw [if_neg (by omega)]; exact hl j (by omega) (by omega))
    obtain ⟨b0, b1, b2, b3, b4, b5, b6, b7, b8, b9, b10, b11, b12, b13, b14, b15, b16⟩ := id hH
    have hw := (pF_X6_writerTicks (σ := xset σ a r) (ar := a) (k := k) (by omega) (by rw [xset_same]; exact b1) (by rw [xset_same]; exact b3) (by rw [xset_same]; exact b5) (by rw [xset_same]; exact b6) b9 b10 b13 b15 ht (by omega) hI.1).1
    rw [xX_set, xX_set, rX_row, xset_same] at hw
    rw [L_X6_tick_13, rRows]
    simp only [xin_0, if_true, cl_0, xlet_s, xset_same, hH.1]
    rw [if_neg (nI_ge (by omega) (by omega)), hw, xbV_s, nI_1, ← h2]
    unfold rRw
    rw [b1, b3, nI_add]
theorem pR_tick {σ : xS} {a W : Nat} {r : Nat → Int32} (ht : t + 1 < 2 ^ 29) (hW : W < 2 ^ 29) (h : rOK r m t tr wt sz ms L (rLo 0 m (t + 1)) W) : F_X6_tick 187 a (xset σ a r) = some (xset σ a (rTick 0 m r)) := by
  obtain ⟨h1, h2, h3⟩ := rT1_ok h
  have hlo : ∀ k, rLo 0 m (t + 1) k ≤ t + 1 + 1 := fun k => by have := rLo_le (f := 0) (e := m) (t := t) k; omega
  obtain ⟨L2, hL, a1, a2, a3⟩ := pN_notes ht hlo h1 h2 h3
  have hm4 : m ≤ 4 := h1.2.2.2.2.2.2.2.2.1
  unfold F_X6_tick rTick
  simp only [xin_1, if_true, cl_1, xlet_s, xset_same, xu_xset]
  rw [show upd r 1 (r 1 + 1) = rT1 r from rfl, pR_notes ht hlo h1 h2 h3, xbV_s, Nat.sub_zero]
  exact pL_X6_tick (KK := fun (σ4 : xS) => some σ4) ht m 0 1000 (W + 48) _ _ (by omega) (by omega) (by omega) a1 a3 (fun j p q => if_pos (by omega))
end RT
/-- what is in rows w of all writers -/
def rS4 (r : Nat → Int32) (w : Nat) : Int32 := (((0 + rRow r 0 w) + rRow r 1 w) + rRow r 2 w) + rRow r 3 w
theorem rS4_X {r u : Nat → Int32} {k w : Nat} (hk : k < 4) (hw : w < 39) : rS4 (rX r k u) w - rS4 r w = u w - rRow r k w := by
  have e : ∀ j, rRow (rX r k u) j w = if j = k then u w else rRow r j w := by
    intro j
    by_cases h : j = k
    · subst h; rw [rRow_X, rCut_at hw, if_pos rfl]
    · rw [rRow_o h, if_neg h]
  unfold rS4
  rw [e, e, e, e]
  obtain h | h | h | h : k = 0 ∨ k = 1 ∨ k = 2 ∨ k = 3 := by omega
  all_goals subst h
  all_goals simp only [if_true, if_false, show (0 : Nat) ≠ 1 by decide, show (0 : Nat) ≠ 2 by decide, show (0 : Nat) ≠ 3 by decide, show (1 : Nat) ≠ 0 by decide, show (1 : Nat) ≠ 2 by decide, show (1 : Nat) ≠ 3 by decide, show (2 : Nat) ≠ 0 by decide, show (2 : Nat) ≠ 1 by decide, show (2 : Nat) ≠ 3 by decide, show (3 : Nat) ≠ 0 by decide, show (3 : Nat) ≠ 1 by decide, show (3 : Nat) ≠ 2 by decide]
  all_goals grind
theorem rS4_cg {r r2 : Nat → Int32} {w : Nat} (h : ∀ k, k < 4 → rRow r2 k w = rRow r k w) : rS4 r2 w = rS4 r w := by
  unfold rS4
  rw [h 0 (by omega), h 1 (by omega), h 2 (by omega), h 3 (by omega)]
theorem zz_sub (z a b c : Int32) : z + (b - a) + (c - b) = z + (c - a) := by grind
theorem zz_self (z a : Int32) : z + (a - a) = z := by grind
