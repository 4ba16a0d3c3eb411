/-! SUMS, AND LOOKING AHEAD -/
section RU
variable {m t tr wt sz ms L : Nat} {lo : Nat → Nat}
theorem pR_of {σ : xS} {a k w : Nat} {r : Nat → Int32} (hk : k < 4) (hw : w < 39) : F_X6_of 187 a (nI k) (nI w) (xset σ a r) = some (rRow r k w, xset σ a r) := by
  rw [xset_X (k := k)]
  exact xX_of hk hw
theorem pR_lay {σ : xS} {a k w : Nat} {r : Nat → Int32} {v : Int32} (hk : k < 4) (hw : w < 39) : F_X6_lay 187 a (nI k) (nI w) v (xset σ a r) = some (xset σ a (rX r k (upd (rRow r k) w v))) := by
  have h := xX_lay (σ := xset σ a r) (a := a) (u := rRow r k) (v := v) hk hw
  rw [xX_set, xX_set, rX_row] at h
  exact h
def rSm (r : Nat → Int32) (w : Nat) : Nat → Nat → Int32 → Int32
  | 0, _, z => z
  | d + 1, k, z => rSm r w d (k + 1) (z + rRow r k w)
theorem pL_X6_sum {σ : xS} {a w : Nat} {r : Nat → Int32} {KK : Int32 → xS → Option (Int32 × xS)} (h0 : r 0 = nI m) (hm : m ≤ 4) (hw : w < 39) : ∀ (d k fuel : Nat) (z : Int32), k + d = m → d < fuel → L_X6_sum_4 187 a (nI w) KK fuel z (nI k) (xset σ a r) = KK (rSm r w d k z) (xset σ a r) := by
  intro d
  induction d with
  | zero =>
    intro k fuel z hk hf
    obtain ⟨g, rfl⟩ : ∃ g, fuel = g + 1 := ⟨fuel - 1, by omega⟩
    rw [L_X6_sum_4]
    simp only [xin_0, if_true, cl_0, xlet_s, xset_same, h0]
    rw [if_pos (nI_le (by omega) (by omega))]
    rfl
  | succ d ih =>
    intro k fuel z hk hf
    obtain ⟨g, rfl⟩ : ∃ g, fuel = g + 1 := ⟨fuel - 1, by omega⟩
    rw [L_X6_sum_4]
    simp only [xin_0, if_true, cl_0, xlet_s, xset_same, h0]
    rw [if_neg (nI_ge (by omega) (by omega)), pR_of (by omega) hw, xbI_s, nI_1, ih (k + 1) g _ (by omega) (by omega)]
    rfl
theorem pR_sum {σ : xS} {a w W : Nat} {r : Nat → Int32} (h : rOK r m t tr wt sz ms L lo W) (hw : w < 39) (hS : rS w = 0) : F_X6_sum 187 a (nI w) (xset σ a r) = some (rS4 r w, xset σ a r) := by
  have hm4 := h.m4
  have hm1 : 1 ≤ m := h.1.2.2.2.2.2.2.2.1
  have e : rSm r w m 0 0 = rS4 r w := by
    have z : ∀ k, m ≤ k → k < 4 → rRow r k w = 0 := fun k p q => by rw [h.2.2.2 k p q, hS]
    unfold rS4
    obtain q | q | q | q : m = 1 ∨ m = 2 ∨ m = 3 ∨ m = 4 := by omega
    · rw [z 1 (by omega) (by omega), z 2 (by omega) (by omega), z 3 (by omega) (by omega), Int32.add_zero, Int32.add_zero, Int32.add_zero, q]; rfl
    · rw [z 2 (by omega) (by omega), z 3 (by omega) (by omega), Int32.add_zero, Int32.add_zero, q]; rfl
    · rw [z 3 (by omega) (by omega), Int32.add_zero, q]; rfl
    · rw [q]; rfl
  unfold F_X6_sum
  refine (show _ = _ from pL_X6_sum (KK := fun (zz1 : Int32) (σ2 : xS) => some (zz1, σ2)) h.1.1 hm4 hw m 0 1000 0 (by omega) (by omega)).trans ?_
  rw [e]
theorem pL_X6_ticksOn {σ : xS} {a n : Nat} {KK : xS → Option (Int32 × xS)} (hn : n < 2 ^ 20) : ∀ (q i fuel t L W : Nat) (r : Nat → Int32), i + q = n → q < fuel → t + q < 2 ^ 28 → W + 72 * q < 2 ^ 28 → rOK r m t tr wt sz ms L (rLo 0 m (t + 1)) W → L_X6_ticksOn_9 187 a (nI n) KK fuel (nI i) (xset σ a r) = KK (xset σ a (rTicks 0 m q r)) := by
  intro q
  induction q with
  | zero =>
    intro i fuel t L W r hi hf ht hW h
    obtain ⟨g, rfl⟩ : ∃ g, fuel = g + 1 := ⟨fuel - 1, by omega⟩
    rw [L_X6_ticksOn_9, if_pos (nI_le (by omega) (by omega))]
    rfl
  | succ q ih =>
    intro i fuel t L W r hi hf ht hW h
    obtain ⟨g, rfl⟩ : ∃ g, fuel = g + 1 := ⟨fuel - 1, by omega⟩
    obtain ⟨L2, hL, h2⟩ := pK_tick (by omega) (by omega) (Nat.le_refl m) h
    rw [L_X6_ticksOn_9, if_neg (nI_ge (by omega) (by omega)), pR_tick (by omega) (by omega) h, xbV_s, xlet_s, nI_1]
    exact ih (i + 1) g (t + 1) L2 (W + 72) _ (by omega) (by omega) (by omega) (by omega) h2
theorem pK_ticks {f e : Nat} (he : e ≤ m) : ∀ (q t L W : Nat) (r : Nat → Int32), t + q < 2 ^ 28 → W + 72 * q < 2 ^ 28 → rOK r m t tr wt sz ms L (rLo f e (t + 1)) W → ∃ L2, L2 ≤ L ∧ rOK (rTicks f e q r) m (t + q) tr wt sz ms L2 (rLo f e (t + q + 1)) (W + 72 * q) := by
  intro q
  induction q with
  | zero => intro t L W r ht hW h; exact ⟨L, Nat.le_refl _, h⟩
  | succ q ih =>
    intro t L W r ht hW h
    obtain ⟨L2, hL, h2⟩ := pK_tick (by omega) (by omega) he h
    obtain ⟨L3, hL3, h3⟩ := ih (t + 1) L2 (W + 72) _ (by omega) (by omega) h2
    refine ⟨L3, by omega, ?_⟩
    rw [show t + (q + 1) = t + 1 + q by omega, show W + 72 * (q + 1) = W + 72 + 72 * q by omega]
    exact h3
theorem pR_ticksOn {σ : xS} {a n W : Nat} {r : Nat → Int32} (hn : n < 900) (ht : t < 2 ^ 27) (hW : W < 2 ^ 27) (h : rOK r m t tr wt sz ms L (rLo 0 m (t + 1)) W) : F_X6_ticksOn 187 a (nI n) (xset σ a r) = some (rS4 (rTicks 0 m n r) 8 - rS4 r 8, xset σ a (rTicks 0 m n r)) := by
  obtain ⟨L2, -, h2⟩ := pK_ticks (Nat.le_refl m) n t L W r (by omega) (by omega) h
  unfold F_X6_ticksOn
  rw [show F_X6_sum 187 a 8 (xset σ a r) = _ from pR_sum (w := 8) h (by decide) (by decide), xbI_s]
  refine (pL_X6_ticksOn (KK := fun (σ3 : xS) => xbI (F_X6_sum 187 a 8 σ3) (fun (zz5 : Int32) (σ4 : xS) => some ((zz5 - rS4 r 8), σ4))) (show n < 2 ^ 20 by omega) n 0 1000 t L W r (by omega) (by omega) (by omega) (by omega) h).trans ?_
  rw [show F_X6_sum 187 a 8 (xset σ a (rTicks 0 m n r)) = _ from pR_sum (w := 8) h2 (by decide) (by decide), xbI_s]
end RU
/-! what two states must share for writer k -/
def rEq (k : Nat) (r r2 : Nat → Int32) : Prop := (∀ i, i < 31 → r2 i = r i) ∧ rRow r2 k = rRow r k ∧ mN (r 2) ≤ 8
theorem rNts_le : ∀ (q l i : Nat) (r : Nat → Int32), (rNts q l i r).1 ≤ l + q := by
  intro q
  induction q with
  | zero => intro l i r; exact Nat.le_refl _
  | succ q ih =>
    intro l i r
    rw [rNts]
    split
    · split
      · have := ih l (i + 1) r; omega
      · have := ih l (i + 1) (rW r (mN (r (7 + 3 * i + 1))) (r (7 + 3 * i + 2))); omega
    · have := ih (l + 1) (i + 1) (rMv r l i); omega
theorem rX_eq {k j : Nat} {r r2 u v : Nat → Int32} (h1 : ∀ i, i < 31 → r2 i = r i) (h2 : rRow r2 k = rRow r k) (h : j = k → u = v) : (∀ i, i < 31 → rX r2 j v i = rX r j u i) ∧ rRow (rX r2 j v) k = rRow (rX r j u) k := by
  refine ⟨fun i hi => by rw [rX_hd hi, rX_hd hi, h1 i hi], ?_⟩
  by_cases e : k = j
  · subst e; rw [rRow_X, rRow_X, h rfl]
  · rw [rRow_o e, rRow_o e, h2]
theorem rX_eq1 {k j : Nat} {r r2 u : Nat → Int32} (h1 : ∀ i, i < 31 → r2 i = r i) (h2 : rRow r2 k = rRow r k) (h : j ≠ k) : (∀ i, i < 31 → r2 i = rX r j u i) ∧ rRow r2 k = rRow (rX r j u) k := by
  refine ⟨fun i hi => by rw [rX_hd hi, h1 i hi], ?_⟩
  rw [rRow_o (fun q => h q.symm), h2]
theorem rX_eq2 {k j : Nat} {r r2 u : Nat → Int32} (h1 : ∀ i, i < 31 → r2 i = r i) (h2 : rRow r2 k = rRow r k) (h : j ≠ k) : (∀ i, i < 31 → rX r2 j u i = r i) ∧ rRow (rX r2 j u) k = rRow r k := by
  refine ⟨fun i hi => by rw [rX_hd hi, h1 i hi], ?_⟩
  rw [rRow_o (fun q => h q.symm), h2]
theorem rNts_eq {k : Nat} : ∀ (q l i : Nat) (r r2 : Nat → Int32), l ≤ i → i + q ≤ 8 → (∀ i, i < 31 → r2 i = r i) → rRow r2 k = rRow r k → (rNts q l i r2).1 = (rNts q l i r).1 ∧ (∀ x, x < 31 → (rNts q l i r2).2 x = (rNts q l i r).2 x) ∧ rRow (rNts q l i r2).2 k = rRow (rNts q l i r).2 k := by
  intro q
  induction q with
  | zero => intro l i r r2 hl hi h1 h2; exact ⟨rfl, h1, h2⟩
  | succ q ih =>
    intro l i r r2 hl hi h1 h2
    rw [rNts, rNts, h1 _ (by omega), h1 1 (by omega), h1 (7 + 3 * i + 1) (by omega), h1 (7 + 3 * i + 2) (by omega)]
    obtain ⟨j, hj⟩ : ∃ j, j = mN (r (7 + 3 * i + 1)) := ⟨_, rfl⟩
    obtain ⟨s, hs⟩ : ∃ s, s = r (7 + 3 * i + 2) := ⟨_, rfl⟩
    rw [← hj, ← hs]
    by_cases hd : r (7 + 3 * i) = r 1
    · rw [if_pos hd, if_pos hd]
      by_cases e : j = k
      · subst e
        rw [h2]
        by_cases hy : 9999 < rRow r j 0 + s
        · rw [if_pos hy, if_pos hy]; exact ih _ _ _ _ (by omega) (by omega) h1 h2
        · rw [if_neg hy, if_neg hy]
          have hu : mWrite (r 1 + r 3) (r 5) (r 6) s (rRow r j) = mWrite (r2 1 + r2 3) (r2 5) (r2 6) s (rRow r2 j) := by
            rw [h1 1 (by omega), h1 3 (by omega), h1 5 (by omega), h1 6 (by omega), h2]
          obtain ⟨a1, a2⟩ := rX_eq (j := j) h1 h2 (fun _ => hu)
          exact ih _ _ _ _ (by omega) (by omega) a1 a2
      · by_cases hy : 9999 < rRow r j 0 + s
        · rw [if_pos hy]
          by_cases hy2 : 9999 < rRow r2 j 0 + s
          · rw [if_pos hy2]; exact ih _ _ _ _ (by omega) (by omega) h1 h2
          · rw [if_neg hy2]
            obtain ⟨a1, a2⟩ := rX_eq2 (u := mWrite (r2 1 + r2 3) (r2 5) (r2 6) s (rRow r2 j)) h1 h2 e
            exact ih _ _ _ _ (by omega) (by omega) a1 a2
        · rw [if_neg hy]
          by_cases hy2 : 9999 < rRow r2 j 0 + s
          · rw [if_pos hy2]
            obtain ⟨a1, a2⟩ := rX_eq1 (u := mWrite (r 1 + r 3) (r 5) (r 6) s (rRow r j)) h1 h2 e
            exact ih _ _ _ _ (by omega) (by omega) a1 a2
          · rw [if_neg hy2]
            obtain ⟨a1, a2⟩ := rX_eq (j := j) (u := mWrite (r 1 + r 3) (r 5) (r 6) s (rRow r j)) (v := mWrite (r2 1 + r2 3) (r2 5) (r2 6) s (rRow r2 j)) h1 h2 (fun q => absurd q e)
            exact ih _ _ _ _ (by omega) (by omega) a1 a2
    · rw [if_neg hd, if_neg hd]
      refine ih _ _ _ _ (by omega) (by omega) (fun x hx => ?_) ?_
      · unfold rMv upd
        rw [h1 x hx, h1 _ (show 7 + 3 * i < 31 by omega), h1 _ (show 7 + 3 * i + 1 < 31 by omega), h1 _ (show 7 + 3 * i + 2 < 31 by omega)]
      · rw [rRow_cg (r := r2) (fun x hx => rMv_n (by omega)), rRow_cg (r := r) (fun x hx => rMv_n (by omega)), h2]
theorem rRows_k : ∀ (d j k : Nat) (r : Nat → Int32), rRow (rRows d j r) k = if j ≤ k ∧ k < j + d then rCut (mRow (r 1) (r 1 + r 3) (r 4) (r 5) (r 6) (rRow r k)) else rRow r k := by
  intro d
  induction d with
  | zero => intro j k r; rw [if_neg (by omega)]; rfl
  | succ d ih =>
    intro j k r
    have e : ∀ i, i < 31 → rRw r j i = r i := fun i hi => rX_hd hi
    rw [rRows, ih, e 1 (by decide), e 3 (by decide), e 4 (by decide), e 5 (by decide), e 6 (by decide)]
    by_cases h : j = k
    · subst h
      rw [if_neg (by omega), if_pos (by omega)]
      exact rRow_X
    · rw [show rRow (rRw r j) k = rRow r k from rRow_o (fun q => h q.symm)]
      by_cases h2 : j + 1 ≤ k ∧ k < j + 1 + d
      · rw [if_pos h2, if_pos (by omega)]
      · rw [if_neg h2, if_neg (by omega)]
theorem rEq.tick {k f e f2 e2 : Nat} {r r2 : Nat → Int32} (h : rEq k r r2) (h1 : f ≤ k) (h2 : k < e) (h3 : f2 ≤ k) (h4 : k < e2) : rEq k (rTick f e r) (rTick f2 e2 r2) := by
  obtain ⟨a1, a2, a3⟩ := h
  have b1 : ∀ i, i < 31 → rT1 r2 i = rT1 r i := fun i hi => by
    unfold rT1 upd
    rw [a1 i hi, a1 1 (by decide)]
  have b2 : rRow (rT1 r2) k = rRow (rT1 r) k := by
    rw [rRow_cg (r2 := rT1 r2) (r := r2) (fun x hx => up_n (by omega)), rRow_cg (r2 := rT1 r) (r := r) (fun x hx => up_n (by omega)), a2]
  have e2' : rT1 r 2 = r 2 := up_n (by decide)
  obtain ⟨c1, c2, c3⟩ := rNts_eq (k := k) (mN (r 2)) 0 0 (rT1 r) (rT1 r2) (Nat.le_refl _) (by omega) b1 b2
  have d1 : ∀ i, i < 31 → rNotes (rT1 r2) i = rNotes (rT1 r) i := fun i hi => by
    unfold rNotes upd
    rw [b1 2 (by decide), e2', c1, c2 i hi]
  have d2 : rRow (rNotes (rT1 r2)) k = rRow (rNotes (rT1 r)) k := by
    unfold rNotes
    rw [rRow_cg (r := (rNts (mN (rT1 r2 2)) 0 0 (rT1 r2)).2) (fun x hx => up_n (by omega)), rRow_cg (r := (rNts (mN (rT1 r 2)) 0 0 (rT1 r)).2) (fun x hx => up_n (by omega)), b1 2 (by decide), e2', c3]
  unfold rTick
  refine ⟨fun i hi => by rw [rRows_hd _ _ _ _ hi, rRows_hd _ _ _ _ hi, d1 i hi], ?_, ?_⟩
  · rw [rRows_k, rRows_k, if_pos (by omega), if_pos (by omega), d2, d1 1 (by decide), d1 3 (by decide), d1 4 (by decide), d1 5 (by decide), d1 6 (by decide)]
  · rw [rRows_hd _ _ _ _ (by decide)]
    have := rNts_le (mN (r 2)) 0 0 (rT1 r)
    unfold rNotes
    rw [up_s, e2', mN_nI (by omega)]
    omega
theorem rEq.ticks {k f e f2 e2 : Nat} (h1 : f ≤ k) (h2 : k < e) (h3 : f2 ≤ k) (h4 : k < e2) : ∀ (n : Nat) (r r2 : Nat → Int32), rEq k r r2 → rEq k (rTicks f e n r) (rTicks f2 e2 n r2) := by
  intro n
  induction n with
  | zero => intro r r2 h; exact h
  | succ n ih => intro r r2 h; exact ih _ _ (h.tick h1 h2 h3 h4)
/-- the first of so many steps at which something holds -/
def rFst (T : (Nat → Int32) → (Nat → Int32)) (P : (Nat → Int32) → Bool) : Nat → (Nat → Int32) → Option Nat
  | 0, r => if P r = true then some 0 else none
  | d + 1, r => if P r = true then some 0 else (rFst T P d (T r)).map (· + 1)
def rVal (i : Nat) : Option Nat → Int32
  | none => -1
  | some j => nI (i + j)
theorem rVal_m {i : Nat} {x : Option Nat} : rVal i (x.map (· + 1)) = rVal (i + 1) x := by
  cases x with
  | none => rfl
  | some j => show nI (i + (j + 1)) = nI (i + 1 + j); rw [show i + (j + 1) = i + 1 + j by omega]
theorem rFst_eq {T T2 : (Nat → Int32) → (Nat → Int32)} {P : (Nat → Int32) → Bool} {E : (Nat → Int32) → (Nat → Int32) → Prop} (hT : ∀ r r2, E r r2 → E (T r) (T2 r2)) (hP : ∀ r r2, E r r2 → P r2 = P r) : ∀ (d : Nat) (r r2 : Nat → Int32), E r r2 → rFst T2 P d r2 = rFst T P d r := by
  intro d
  induction d with
  | zero => intro r r2 h; rw [rFst, rFst, hP r r2 h]
  | succ d ih => intro r r2 h; rw [rFst, rFst, hP r r2 h, ih _ _ (hT r r2 h)]
theorem rFst_le {T : (Nat → Int32) → (Nat → Int32)} {P : (Nat → Int32) → Bool} : ∀ (d n : Nat) (r : Nat → Int32), rFst T P d r = some n → n ≤ d ∧ ∀ D, n ≤ D → rFst T P D r = some n := by
  intro d
  induction d with
  | zero =>
    intro n r h
    rw [rFst] at h
    by_cases hp : P r = true
    · rw [if_pos hp] at h
      obtain rfl := Option.some.inj h
      refine ⟨Nat.le_refl _, fun D _ => ?_⟩
      cases D <;> rw [rFst, if_pos hp]
    · rw [if_neg hp] at h; exact absurd h (by simp)
  | succ d ih =>
    intro n r h
    rw [rFst] at h
    by_cases hp : P r = true
    · rw [if_pos hp] at h
      obtain rfl := Option.some.inj h
      refine ⟨Nat.zero_le _, fun D _ => ?_⟩
      cases D <;> rw [rFst, if_pos hp]
    · rw [if_neg hp] at h
      obtain ⟨j, h1, h2⟩ := Option.map_eq_some_iff.mp h
      subst h2
      obtain ⟨a1, a2⟩ := ih j _ h1
      refine ⟨by omega, fun D hD => ?_⟩
      obtain ⟨D2, rfl⟩ : ∃ D2, D = D2 + 1 := ⟨D - 1, by omega⟩
      rw [rFst, if_neg hp, a2 D2 (by omega)]
      rfl
