/-! TICKS IN THE CLASS -/
def xQ3 (σ : xS) (p : Nat) (r : Nat → Int32) (L : Nat) : Prop := xQ4 σ p r ∧ xD3 σ (p + 2) L (fun j => r (7 + 3 * j)) (fun j => r (7 + 3 * j + 1)) (fun j => r (7 + 3 * j + 2))
theorem nIx_l {l j : Nat} (h : j < l) : nIx l 0 j = j := if_pos h
theorem nIx_0 {j : Nat} : nIx 0 0 j = j := by unfold nIx; rw [if_neg (by omega)]; omega
theorem xQ3.ex {σ σ2 : xS} {p L : Nat} {r : Nat → Int32} (h : xQ3 σ p r L) (hx : ∀ i, p ≤ i → i < p + 43 → σ2 i = σ i) : xQ3 σ2 p r L :=
  ⟨h.1.ex (hx p (by omega) (by omega)) (hx (p + 1) (by omega) (by omega)) (fun i a b => hx i (by omega) (by omega)), h.2.ex (fun i a b => hx i (by omega) (by omega))⟩
section RP
variable {m t tr wt sz ms L : Nat} {lo : Nat → Nat}
theorem rNotes_hi {r : Nat → Int32} {i : Nat} (hi : i ≠ 2) : rNotes r i = (rNts (mN (r 2)) 0 0 r).2 i := up_n hi
theorem pT_due {σ : xS} {p W : Nat} {r : Nat → Int32} (ht : t < 2 ^ 29) (hlo : ∀ k, lo k ≤ t + 1) (h : rOK r m t tr wt sz ms L lo W) (hQ : xQ3 σ p r L) : ∃ z, F_X3_writeDueNotes p σ = some z ∧ xfr σ z p (p + 43) ∧ xQ3 z p (rNotes r) (mN (rNotes r 2)) := by
  obtain ⟨hH, hN, hJ⟩ := h
  have hL8 : L ≤ 8 := hH.2.2.2.2.2.2.2.2.2.2.2.2.2.2.2.2
  obtain ⟨z, g1, g2, g3, g4⟩ := pL_X3_due (KK := fun (σ2 : xS) => some σ2) ht hlo L 0 0 1000 W r σ (by omega) (by omega) (by omega) hH (fun j hj => hN j (by omega)) hJ hQ.1 (by
    rw [Nat.zero_add]
    refine xD3.cg hQ.2 (fun j hj => ?_)
    rw [nIx_0]
    exact ⟨rfl, rfl, rfl⟩)
  obtain ⟨-, -, -, a4⟩ := pN_inv ht hlo L 0 0 W r (by omega) (by omega) hH (fun j hj => hN j (by omega)) hJ
  have e2 : rNotes r 2 = nI (rNts L 0 0 r).1 := by
    unfold rNotes
    rw [up_s, hH.2.2.1, mN_nI (by omega)]
  have ei : ∀ i, i ≠ 2 → rNotes r i = (rNts L 0 0 r).2 i := fun i hi => by rw [rNotes_hi hi, hH.2.2.1, mN_nI (by omega)]
  refine ⟨z, ?_, g2, ?_, ?_⟩
  · unfold F_X3_writeDueNotes
    rw [hQ.2.1, xlet_s]
    exact g1
  · obtain ⟨q0, q1, q2, q3⟩ := g3
    refine ⟨by rw [ei 0 (by decide)]; exact q0, by rw [ei 1 (by decide)]; exact q1, fun i hi => by rw [ei _ (by omega)]; exact q2 i hi, fun k hk => ?_⟩
    rw [rRow_cg (r := (rNts L 0 0 r).2) (fun i hi => ei i (by omega))]
    exact q3 k hk
  · rw [e2, mN_nI (by omega)]
    refine xD3.cg g4 (fun j hj => ?_)
    rw [nIx_l hj, ei _ (by omega), ei _ (by omega), ei _ (by omega)]
    exact ⟨rfl, rfl, rfl⟩
theorem pL_X3_rows {p e : Nat} {KK : Int32 → xS → Option (Int32 × xS)} (ht : t < 2 ^ 29) : ∀ (d k fuel W : Nat) (lo : Nat → Nat) (r : Nat → Int32) (zz : Int32) (σ : xS), k + d = e → e ≤ m → d < fuel → W + 6 * d < 2 ^ 29 → rH r m t tr wt sz ms L → rJ r m t lo W → (∀ j, k ≤ j → j < k + d → lo j = t) → xQ4 σ p r → ∃ z, L_X3_passTicks_33 p (nI e) KK fuel zz (nI k) σ = KK (zz + (rS4 (rRows d k r) 8 - rS4 r 8)) z ∧ xfr σ z (p + 7) (p + 43) ∧ xQ4 z p (rRows d k r) := by
  intro d
  induction d with
  | zero =>
    intro k fuel W lo r zz σ hk he hf hW hH hJ hl hQ
    obtain ⟨g, rfl⟩ : ∃ g, fuel = g + 1 := ⟨fuel - 1, by omega⟩
    have hm4 : m ≤ 4 := hH.2.2.2.2.2.2.2.2.1
    refine ⟨σ, ?_, xfr.refl, hQ⟩
    rw [L_X3_passTicks_33, if_pos (nI_le (by omega) (by omega))]
    rw [show rRows 0 k r = r from rfl, zz_self]
  | succ d ih =>
    intro k fuel W lo r zz σ hk he hf hW hH hJ hl hQ
    obtain ⟨g, rfl⟩ : ∃ g, fuel = g + 1 := ⟨fuel - 1, by omega⟩
    have hm4 : m ≤ 4 := hH.2.2.2.2.2.2.2.2.1
    have hI : xJ (rRow r k) t t W := by have h := hJ.1 k (by omega); rw [hl k (by omega) (by omega)] at h; exact h
    have h1 := rRw_J (lo2 := fun j => if j = k then t + 1 else lo j) ht (by omega) (by omega) hH hJ (hl k (by omega) (by omega)) (fun j hj => if_neg hj) (if_pos rfl)
    obtain ⟨b0, b1, b2, b3, b4, b5, b6, b7, b8, b9, b10, b11, b12, b13, b14, b15, b16⟩ := id hH
    obtain ⟨q0, q1, q2, q3⟩ := id hQ
    obtain ⟨o, n, q⟩ := q3 k (by omega)
    obtain ⟨z1, o2, n2, e1, f1, g1⟩ := pS_tick (e := nI e) (zz := zz) (V := σ (p + 1)) (KK := KK) (g := g) (show k < 4 by omega) (nI_ge (by omega) (by omega)) q hI.1 hI.2.1 (q1.trans b1) rfl ((q2 0 (by decide)).trans b3) ((q2 2 (by decide)).trans b5) ((q2 3 (by decide)).trans b6) b9 b10 b15 (by omega) b13 ht (by omega)
    have eV1 : σ (p + 1) 1 = r 4 := q2 1 (by decide)
    have eV2 : σ (p + 1) 2 = r 5 := q2 2 (by decide)
    have eV3 : σ (p + 1) 3 = r 6 := q2 3 (by decide)
    rw [eV1] at e1
    rw [eV1, eV2, eV3, ← nI_add, ← b1, ← b3] at g1
    have hQ1 : xQ4 z1 p (rRw r k) := hQ.X (by omega) f1 g1
    obtain ⟨z, e2, f2, g2⟩ := ih (k + 1) g (W + 6) _ (rRw r k) (zz + (mR1 (nI t) (nI (t + tr)) (r 4) (rRow r k) 8 - rRow r k 8)) z1 (by omega) he (by omega) (by omega) (hH.cg (fun i hi => rX_hd (by omega))) h1 (fun j p q => by rw [if_neg (by omega)]; exact hl j (by omega) (by omega)) hQ1
    refine ⟨z, ?_, (f1.sub (by omega) (by omega)).trans f2, g2⟩
    rw [e1, e2, rRows]
    congr 1
    have e8 : mR1 (nI t) (nI (t + tr)) (r 4) (rRow r k) 8 - rRow r k 8 = rS4 (rRw r k) 8 - rS4 r 8 := by
      unfold rRw
      rw [rS4_X (by omega) (by decide), mRow_8, b1, b3, nI_add]
    rw [e8, zz_sub]
theorem rTicks_s {f e n : Nat} {r : Nat → Int32} : rTicks f e (n + 1) r = rTicks f e n (rTick f e r) := rfl
theorem rOK.L8 {r : Nat → Int32} {W : Nat} (h : rOK r m t tr wt sz ms L lo W) : L ≤ 8 := h.1.2.2.2.2.2.2.2.2.2.2.2.2.2.2.2.2
theorem rOK.m4 {r : Nat → Int32} {W : Nat} (h : rOK r m t tr wt sz ms L lo W) : m ≤ 4 := h.1.2.2.2.2.2.2.2.2.1
theorem rOK.LL {r : Nat → Int32} {W : Nat} (h : rOK r m t tr wt sz ms L lo W) : mN (r 2) = L := by rw [h.1.2.2.1, mN_nI (by have := h.L8; omega)]
theorem rNts_8 : ∀ (q l i : Nat) (r : Nat → Int32) (k : Nat), k < 4 → l ≤ i → i + q ≤ 8 → rRow (rNts q l i r).2 k 8 = rRow r k 8 := by
  intro q
  induction q with
  | zero => intro l i r k hk hl hi; rfl
  | succ q ih =>
    intro l i r k hk hl hi
    have e : ∀ j s, rRow (rW r j s) k 8 = rRow r k 8 := by
      intro j s
      unfold rW
      by_cases h : k = j
      · subst h
        rw [rRow_X, rCut_at (by decide)]
        unfold mWrite mAsIs mSends
        rw [mSend_k (Or.inr rfl), up_n (by decide), up_n (by decide)]
      · rw [rRow_o h]
    rw [rNts]
    by_cases hd : r (7 + 3 * i) = r 1
    · rw [if_pos hd]
      by_cases hy : 9999 < rRow r (mN (r (7 + 3 * i + 1))) 0 + r (7 + 3 * i + 2)
      · rw [if_pos hy, ih _ _ _ _ hk (by omega) (by omega)]
      · rw [if_neg hy, ih _ _ _ _ hk (by omega) (by omega), e]
    · rw [if_neg hd, ih _ _ _ _ hk (by omega) (by omega), rRow_cg (r := r) (fun x hx => rMv_n (by omega))]
theorem rNotes_8 {r : Nat → Int32} (hL : mN (r 2) ≤ 8) : rS4 (rNotes (rT1 r)) 8 = rS4 r 8 := by
  refine rS4_cg (fun k hk => ?_)
  have e : rT1 r 2 = r 2 := up_n (by decide)
  rw [rRow_cg (r := (rNts (mN (r 2)) 0 0 (rT1 r)).2) (fun i hi => by rw [rNotes_hi (by omega), e]), rNts_8 _ _ _ _ k hk (by omega) (by omega), rRow_cg (r2 := rT1 r) (r := r) (fun i hi => up_n (by omega))]
/-- one tick in the class -/
theorem pT_tick1 {σ : xS} {p f e W g : Nat} {r : Nat → Int32} {n zz : Int32} {i : Nat} {KK : Int32 → xS → Option (Int32 × xS)} (ht : t + 1 < 2 ^ 29) (hW : W < 2 ^ 28) (hfe : f ≤ e) (he : e ≤ m) (hn : ¬ n ≤ nI i) (h : rOK r m t tr wt sz ms L (rLo f e (t + 1)) W) (hQ : xQ3 σ p r L) : ∃ z, L_X3_passTicks_6 p n (nI f) (nI e) KK (g + 1) zz (nI i) σ = L_X3_passTicks_6 p n (nI f) (nI e) KK g (zz + (rS4 (rTick f e r) 8 - rS4 r 8)) (nI (i + 1)) z ∧ xfr σ z p (p + 43) ∧ xQ3 z p (rTick f e r) (mN (rTick f e r 2)) := by
  have hm4 := h.m4
  have h1 := rT1_ok h
  have hlo : ∀ k, rLo f e (t + 1) k ≤ t + 1 + 1 := fun k => by have := rLo_le (f := f) (e := e) (t := t) k; omega
  have hQ1 : xQ3 (xu σ p 1 (σ p 1 + 1)) p (rT1 r) L := by
    obtain ⟨⟨q0, q1, q2, q3⟩, q4⟩ := hQ
    refine ⟨⟨by rw [xu_same, up_n (by decide), q0]; exact (up_n (by decide)).symm, by rw [xu_same, up_s, q1]; exact up_s.symm, fun i hi => by rw [xu_other (by omega), q2 i hi]; exact (up_n (by omega)).symm, fun k hk => ?_⟩, ?_⟩
    · obtain ⟨o, n, q⟩ := q3 k hk
      refine ⟨o, n, ?_⟩
      rw [rRow_cg (r2 := rT1 r) (r := r) (fun i hi => up_n (by omega))]
      exact q.ex (fun i a b => xu_other (by omega))
    · refine (q4.ex (fun i a b => xu_other (by omega))).cg (fun j hj => ?_)
      exact ⟨up_n (by omega), up_n (by omega), up_n (by omega)⟩
  obtain ⟨z1, d1, d2, d3⟩ := pT_due (by omega) hlo h1 hQ1
  obtain ⟨L2, hL, a1, a2, a3⟩ := pN_notes (by omega) hlo h1.1 h1.2.1 h1.2.2
  obtain ⟨z, e2, f2, g2⟩ := pL_X3_rows (p := p) (e := e) (KK := fun (zz13 : Int32) (σ14 : xS) => L_X3_passTicks_6 p n (nI f) (nI e) KK g zz13 (nI (i + 1)) σ14) (by omega) (e - f) f 1000 (W + 48) _ (rNotes (rT1 r)) zz z1 (by omega) he (by omega) (by omega) a1 a3 (fun j p q => if_pos (by omega)) d3.1
  refine ⟨z, ?_, ((xfr_xu (Nat.le_refl _) (by omega)).trans d2).trans (f2.sub (by omega) (by omega)), g2, ?_⟩
  · rw [L_X3_passTicks_6, if_neg hn]
    simp only [xlet_s, d1, xbV_s, nI_1]
    rw [if_neg (nI_pos (by omega)), e2, rNotes_8 (by rw [h.LL]; exact h.L8)]
    rfl
  · unfold rTick
    rw [rRows_hd _ _ _ _ (by decide)]
    refine (d3.2.ex (fun i a b => f2 i (by omega))).cg (fun j hj => ?_)
    have hj8 : j < 8 := by
      have := a1.2.2.2.2.2.2.2.2.2.2.2.2.2.2.2.2
      rw [a1.2.2.1, mN_nI (by omega)] at hj
      omega
    exact ⟨rRows_hd _ _ _ _ (by omega), rRows_hd _ _ _ _ (by omega), rRows_hd _ _ _ _ (by omega)⟩
theorem pL_X3_ticks {p f e n : Nat} {KK : Int32 → xS → Option (Int32 × xS)} (hn : n < 2 ^ 20) (hfe : f ≤ e) (he : e ≤ m) : ∀ (q i fuel t L W : Nat) (r : Nat → Int32) (zz : Int32) (σ : xS), i + q = n → q < fuel → t + q < 2 ^ 28 → W + 72 * q < 2 ^ 28 → rOK r m t tr wt sz ms L (rLo f e (t + 1)) W → xQ3 σ p r L → ∃ z L2, L_X3_passTicks_6 p (nI n) (nI f) (nI e) KK fuel zz (nI i) σ = KK (zz + (rS4 (rTicks f e q r) 8 - rS4 r 8)) z ∧ xfr σ z p (p + 43) ∧ L2 ≤ L ∧ xQ3 z p (rTicks f e q r) L2 ∧ rOK (rTicks f e q r) m (t + q) tr wt sz ms L2 (rLo f e (t + q + 1)) (W + 72 * q) := by
  intro q
  induction q with
  | zero =>
    intro i fuel t L W r zz σ hi hf ht hW h hQ
    obtain ⟨g, rfl⟩ : ∃ g, fuel = g + 1 := ⟨fuel - 1, by omega⟩
    refine ⟨σ, L, ?_, xfr.refl, Nat.le_refl _, hQ, h⟩
    rw [L_X3_passTicks_6, if_pos (nI_le (by omega) (by omega)), show rTicks f e 0 r = r from rfl, zz_self]
  | succ q ih =>
    intro i fuel t L W r zz σ hi hf ht hW h hQ
    obtain ⟨g, rfl⟩ : ∃ g, fuel = g + 1 := ⟨fuel - 1, by omega⟩
    obtain ⟨z1, e1, f1, g1⟩ := pT_tick1 (zz := zz) (KK := KK) (g := g) (by omega) (by omega) hfe he (nI_ge (show i < n by omega) (by omega)) h hQ
    obtain ⟨L2, hL, h2⟩ := pK_tick (by omega) (by omega) he h
    rw [h2.LL] at g1
    obtain ⟨z, L3, e2, f2, hL3, g2, g3⟩ := ih (i + 1) g (t + 1) L2 (W + 72) _ (zz + (rS4 (rTick f e r) 8 - rS4 r 8)) z1 (by omega) (by omega) (by omega) (by omega) h2 g1
    refine ⟨z, L3, ?_, f1.trans f2, by omega, g2, ?_⟩
    · rw [e1, e2, zz_sub]; rfl
    · rw [show t + (q + 1) = t + 1 + q by omega, show W + 72 * (q + 1) = W + 72 + 72 * q by omega]
      exact g3
/-- ticks pass in the class -/
theorem pT_ticks {p f e n W : Nat} {r : Nat → Int32} {σ : xS} (hn : n < 900) (hfe : f ≤ e) (he : e ≤ m) (ht : t < 2 ^ 27) (hW : W < 2 ^ 27) (h : rOK r m t tr wt sz ms L (rLo f e (t + 1)) W) (hQ : xQ3 σ p r L) : ∃ z L2, F_X3_passTicks p (nI n) (nI f) (nI e) σ = some (rS4 (rTicks f e n r) 8 - rS4 r 8, z) ∧ xfr σ z p (p + 43) ∧ L2 ≤ L ∧ xQ3 z p (rTicks f e n r) L2 ∧ rOK (rTicks f e n r) m (t + n) tr wt sz ms L2 (rLo f e (t + n + 1)) (W + 72 * n) := by
  obtain ⟨z, L2, g1, g2⟩ := pL_X3_ticks (p := p) (KK := fun (zz1 : Int32) (σ2 : xS) => some (zz1, σ2)) (show n < 2 ^ 20 by omega) hfe he n 0 1000 t L W r 0 σ (by omega) (by omega) (by omega) (by omega) h hQ
  refine ⟨z, L2, ?_, g2⟩
  rw [Int32.zero_add] at g1
  exact g1
end RP
