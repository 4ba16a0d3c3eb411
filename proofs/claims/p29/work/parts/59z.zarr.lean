/-! MORE THAT ALWAYS HOLDS OF A POST -/
def zRw (r : Nat → Int32) (m g t lo : Nat) : Prop := ∀ k, k < m → zI (rRow r k) g t lo
def zNt (r : Nat → Int32) (t : Nat) : Prop := ∀ j, j < mN (r 2) → ∃ f, r (7 + 3 * j) = nI f ∧ t < f ∧ f ≤ t + 99
def zV (r : Nat → Int32) (m t : Nat) : Prop := zRw r m t t (t + 1) ∧ zNt r t
theorem zI.c39 {u v : Nat → Int32} {g t lo : Nat} (h : zI u g t lo) (h6 : mN (u 6) ≤ 6) (e : ∀ j, j < 39 → v j = u j) : zI v g t lo := h.cg h6 (fun j a _ _ => e j (by omega)) (fun j a b => e j (by omega))
theorem zRw.cg {r r2 : Nat → Int32} {m g t lo : Nat} (h : zRw r m g t lo) (e : ∀ i, 31 ≤ i → r2 i = r i) : zRw r2 m g t lo := fun k hk => by rw [rRow_cg e]; exact h k hk
theorem zRw.X {r u : Nat → Int32} {m g t lo k : Nat} (h : zRw r m g t lo) (hu : zI u g t lo) (h6 : mN (u 6) ≤ 6) : zRw (rX r k u) m g t lo := by
  intro j hj
  by_cases e : j = k
  · subst e
    rw [rRow_X]
    exact hu.c39 h6 (fun i hi => rCut_at hi)
  · rw [rRow_o e]; exact h j hj
section ZA
variable {m t tr wt sz ms L : Nat} {lo : Nat → Nat}
theorem rH.b {r : Nat → Int32} (h : rH r m t tr wt sz ms L) : 1 ≤ m ∧ m ≤ 4 ∧ 1 ≤ tr ∧ tr ≤ 9 ∧ wt ≤ 20 ∧ 4 ≤ sz ∧ sz ≤ 99 ∧ 1 ≤ ms ∧ ms ≤ 6 ∧ L ≤ 8 := h.2.2.2.2.2.2.2
theorem zRw.write {r : Nat → Int32} {k y W g lo2 : Nat} (ht : t < 2 ^ 29) (hlo : ∀ k, lo k ≤ t + 1) (hW : W + 6 < 2 ^ 30) (hH : rH r m t tr wt sz ms L) (hJ : rJ r m t lo W) (hk : k < m) (hy2 : y ≤ 500) (hy : ¬ (9999 : Int32) < rRow r k 0 + nI y) (z : zRw r m g t lo2) : zRw (rW r k (nI y)) m g t lo2 := by
  obtain ⟨b1, b2, b3, b4, b5, b6, b7, b8, b9, b10⟩ := hH.b
  have l := hlo k
  unfold rW
  rw [hH.2.1, hH.2.2.2.1, hH.2.2.2.2.2.1, nI_add]
  exact z.X (zI.write b3 b4 (by omega) ht (by omega) b7 hW hy2 hy (hJ.1 k hk).1 (z k hk)) (pJ_write b4 (by omega) ht b7 (hJ.1 k hk) hy2 hy).1.m6
theorem zRw.sendsX {r u : Nat → Int32} {k W g lo2 : Nat} {h : Int32} (ht : t < 2 ^ 29) (hlo : ∀ k, lo k ≤ t + 1) (hW : W + 6 < 2 ^ 30) (hH : rH r m t tr wt sz ms L) (hu : xJ u t (lo k) W) (zu : zI u g t lo2) (z : zRw r m g t lo2) : zRw (rX r k (mSends (r 1 + r 3) (r 5) (r 6) h u)) m g t lo2 := by
  obtain ⟨b1, b2, b3, b4, b5, b6, b7, b8, b9, b10⟩ := hH.b
  have l := hlo k
  rw [hH.2.1, hH.2.2.2.1, hH.2.2.2.2.2.1, nI_add]
  exact z.X (zI.sends b3 b4 (by omega) ht (by omega) b7 hW hu.1 zu) (pJ_sends b4 (by omega) ht b7 hu).1.m6
theorem zRw.flush {r : Nat → Int32} {k W g lo2 : Nat} (ht : t < 2 ^ 29) (hlo : ∀ k, lo k ≤ t + 1) (hW : W + 6 < 2 ^ 30) (hH : rH r m t tr wt sz ms L) (hJ : rJ r m t lo W) (hk : k < m) (z : zRw r m g t lo2) : zRw (rFlush r k) m g t lo2 :=
  zRw.sendsX (lo := lo) ht hlo hW hH (hJ.1 k hk) (z k hk) z
theorem zRw.hold {r : Nat → Int32} {k W g lo2 : Nat} {b : Int32} (ht : t < 2 ^ 29) (hlo : ∀ k, lo k ≤ t + 1) (hW : W + 6 < 2 ^ 30) (hH : rH r m t tr wt sz ms L) (hJ : rJ r m t lo W) (hk : k < m) (hb : b = 0 ∨ b = 1) (z : zRw r m g t lo2) : zRw (rHold r k b) m g t lo2 :=
  zRw.sendsX (lo := lo) ht hlo hW hH ((hJ.1 k hk).hold hb) (zI.hold (hJ.1 k hk).1.m6 (z k hk)) z
theorem zN_inv {g lo2 : Nat} (ht : t < 2 ^ 29) (hlo : ∀ k, lo k ≤ t + 1) : ∀ (q l i W : Nat) (r : Nat → Int32), i + q = L → l ≤ i → W + 6 * q < 2 ^ 30 → rH r m t tr wt sz ms L → (∀ j, (j < l ∨ i ≤ j ∧ j < L) → rN r m j) → rJ r m t lo W → zRw r m g t lo2 → (∀ j, j < l → ∃ f, r (7 + 3 * j) = nI f ∧ t < f ∧ f ≤ t + 99) → (∀ j, i ≤ j → j < L → ∃ f, r (7 + 3 * j) = nI f ∧ t ≤ f ∧ f ≤ t + 99) → zRw (rNts q l i r).2 m g t lo2 ∧ ∀ j, j < (rNts q l i r).1 → ∃ f, (rNts q l i r).2 (7 + 3 * j) = nI f ∧ t < f ∧ f ≤ t + 99 := by
  intro q
  induction q with
  | zero => intro l i W r hi hl hW hH hN hJ z n1 n2; exact ⟨z, n1⟩
  | succ q ih =>
    intro l i W r hi hl hW hH hN hJ z n1 n2
    obtain ⟨b1, b2, b3, b4, b5, b6, b7, b8, b9, b10⟩ := hH.b
    obtain ⟨k, s, e1, hk, e2, hs1, hs2⟩ := hN i (by omega)
    rw [rNts, e1, e2, mN_nI (by omega)]
    by_cases hd : r (7 + 3 * i) = r 1
    · rw [if_pos hd]
      by_cases hy : (9999 : Int32) < rRow r k 0 + nI s
      · rw [if_pos hy]
        exact ih l (i + 1) W r (by omega) (by omega) (by omega) hH (fun j hj => hN j (by omega)) hJ z n1 (fun j a b => n2 j (by omega) b)
      · rw [if_neg hy]
        exact ih l (i + 1) (W + 6) _ (by omega) (by omega) (by omega) (rW_H (k := k) (s := nI s) hH) (fun j hj => rW_N (hN j (by omega)) (by omega)) (rW_J ht hlo hH hJ hk hs2 hy) (z.write ht hlo (by omega) hH hJ hk hs2 hy) (fun j hj => by rw [rW_hd (by omega)]; exact n1 j hj) (fun j a b => by rw [rW_hd (by omega)]; exact n2 j (by omega) b)
    · rw [if_neg hd]
      refine ih (l + 1) (i + 1) W _ (by omega) (by omega) (by omega) (rMv_H (l := l) (i := i) hH) (rMv_N hl hN (by omega)) (rMv_J (by omega) hJ) (z.cg (fun x hx => rMv_n (by omega))) (fun j hj => ?_) (fun j a b => by rw [rMv_n (by omega)]; exact n2 j (by omega) b)
      by_cases e : j = l
      · subst e
        obtain ⟨f, g1, g2, g3⟩ := n2 i (Nat.le_refl _) (by omega)
        refine ⟨f, by rw [rMv_0, g1], ?_, g3⟩
        have : f ≠ t := fun e => hd (by rw [g1, hH.2.1, e])
        omega
      · rw [rMv_n (by omega)]; exact n1 j (by omega)
theorem zV.tick {r : Nat → Int32} {W : Nat} (ht : t + 1 < 2 ^ 29) (hW : W < 2 ^ 29) (h : rOK r m t tr wt sz ms L (rLo 0 m (t + 1)) W) (z : zV r m t) : zV (rTick 0 m r) m (t + 1) := by
  obtain ⟨Lk, -, hk1, -, hk3⟩ := pK_tick ht hW (Nat.le_refl m) h
  obtain ⟨h1, h2, h3⟩ := rT1_ok h
  obtain ⟨b1, b2, b3, b4, b5, b6, b7, b8, b9, b10⟩ := h1.b
  have eL : mN ((rT1 r) 2) = L := by rw [h1.2.2.1, mN_nI (by omega)]
  have eL0 : mN (r 2) = L := h.LL
  have z1 : zRw (rT1 r) m t (t + 1) (t + 1) := fun k hk => by
    have q := (z.1.cg (r2 := rT1 r) (fun i hi => up_n (by omega))) k hk
    exact q.weak (Nat.le_refl _) (by omega) (Nat.le_refl _)
  have hlo : ∀ k, rLo 0 m (t + 1) k ≤ t + 1 + 1 := fun k => by have := rLo_le (f := 0) (e := m) (t := t) k; omega
  obtain ⟨n1, n2⟩ := zN_inv (g := t) (lo2 := t + 1) (t := t + 1) ht hlo L 0 0 W (rT1 r) (by omega) (by omega) (by omega) h1 (fun j hj => h2 j (by omega)) h3 z1 (fun j hj => absurd hj (by omega)) (fun j _ hj => by
    obtain ⟨f, g1, g2, g3⟩ := z.2 j (by omega)
    exact ⟨f, by unfold rT1; rw [up_n (by omega)]; exact g1, by omega, by omega⟩)
  obtain ⟨L2, hL, a1, a2, a3⟩ := pN_notes ht hlo h1 h2 h3
  have en : ∀ i, i ≠ 2 → rNotes (rT1 r) i = (rNts L 0 0 (rT1 r)).2 i := fun i hi => by unfold rNotes; rw [eL, up_n hi]
  have z2 : zRw (rNotes (rT1 r)) m t (t + 1) (t + 1) := n1.cg (fun i hi => en i (by omega))
  have e2 : mN (rNotes (rT1 r) 2) = (rNts L 0 0 (rT1 r)).1 := by
    have := rNts_le L 0 0 (rT1 r)
    unfold rNotes
    rw [eL, up_s, mN_nI (by omega)]
  refine ⟨fun k hk => ?_, fun j hj => ?_⟩
  · have hJ := hk3.1 k hk
    have m6 := hJ.1.m6
    have er : rRow (rTick 0 m r) k = rCut (mRow (rNotes (rT1 r) 1) (rNotes (rT1 r) 1 + rNotes (rT1 r) 3) (rNotes (rT1 r) 4) (rNotes (rT1 r) 5) (rNotes (rT1 r) 6) (rRow (rNotes (rT1 r)) k)) := by
      unfold rTick
      rw [rRows_k, if_pos (by omega)]
    rw [er] at m6 ⊢
    rw [rCut_at (by decide)] at m6
    refine zI.c39 ?_ m6 (fun i hi => rCut_at hi)
    rw [a1.2.1, a1.2.2.2.1, a1.2.2.2.2.1, a1.2.2.2.2.2.1, nI_add]
    have hJ2 := a3.1 k hk
    rw [show rLo 0 m (t + 1) k = t + 1 from if_pos (by omega)] at hJ2
    exact zI.row b3 b4 ht (by omega) b5 (by omega) b7 hJ2.1 (z2 k hk)
  · have e1 : ∀ i, i < 31 → rTick 0 m r i = rNotes (rT1 r) i := fun i hi => by unfold rTick; exact rRows_hd _ _ _ _ hi
    rw [e1 2 (by decide), e2] at hj
    have hb := rNts_le L 0 0 (rT1 r)
    rw [e1 _ (by omega), en _ (by omega)]
    exact n2 j hj
theorem zV.ticks : ∀ (q t L W : Nat) (r : Nat → Int32), t + q < 2 ^ 28 → W + 72 * q < 2 ^ 28 → rOK r m t tr wt sz ms L (rLo 0 m (t + 1)) W → zV r m t → zV (rTicks 0 m q r) m (t + q) := by
  intro q
  induction q with
  | zero => intro t L W r _ _ _ z; exact z
  | succ q ih =>
    intro t L W r ht hW h z
    obtain ⟨L2, hL, h2⟩ := pK_tick (t := t) (by omega) (by omega) (Nat.le_refl m) h
    rw [rTicks_s, show t + (q + 1) = t + 1 + q by omega]
    exact ih (t + 1) L2 (W + 72) _ (by omega) (by omega) h2 (z.tick (by omega) (by omega) h)
theorem zV.X {r u : Nat → Int32} {k : Nat} (hL : mN (r 2) ≤ 8) (z : zV r m t) (h : zRw (rX r k u) m t t (t + 1)) : zV (rX r k u) m t := by
  refine ⟨h, fun j hj => ?_⟩
  rw [rX_hd (by decide)] at hj
  rw [rX_hd (by omega)]
  exact z.2 j hj
theorem rS_z {g t lo : Nat} : zI rS g t lo := by
  have e0 : mN (rS 6) = 0 ∧ mN (rS 9) = 0 ∧ mN (rS 5) = 0 ∧ mN (rS 10) = 0 := by decide
  unfold zI
  rw [e0.1, e0.2.1, e0.2.2.1, e0.2.2.2]
  exact ⟨by omega, ⟨0, rfl, by omega⟩, ⟨0, rfl, by omega⟩, ⟨0, rfl, by omega⟩, rfl, fun j hj => absurd hj (by omega), rfl, Or.inl ⟨rfl, rfl⟩⟩
end ZA
