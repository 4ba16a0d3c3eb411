/-! COPIES, SUMS, SIGNS -/
def rCp (f g : Nat → Int32) (x y j : Nat) : Nat → Int32 := fun i => if y ≤ i ∧ i < y + j then f (x + (i - y)) else g i
theorem pL_X6_copy {σ : xS} {n1 a1 n3 a3 x y : Nat} {KK : xS → Option xS} (h1 : x + 187 ≤ n1) (h3 : y + 187 ≤ n3) (hn1 : n1 ≤ 5000) (hn3 : n3 ≤ 5000) (ha : a1 ≠ a3) : ∀ (d j fuel : Nat), j + d = 187 → d < fuel → L_X6_copyState_3 n1 a1 (nI x) n3 a3 (nI y) KK fuel (nI j) (xset σ a3 (rCp (σ a1) (σ a3) x y j)) = KK (xset σ a3 (rCp (σ a1) (σ a3) x y 187)) := by
  intro d
  induction d with
  | zero =>
    intro j fuel hj hf
    obtain ⟨g, rfl⟩ : ∃ g, fuel = g + 1 := ⟨fuel - 1, by omega⟩
    obtain rfl : j = 187 := by omega
    rw [L_X6_copyState_3, if_pos (by decide)]
  | succ d ih =>
    intro j fuel hj hf
    obtain ⟨g, rfl⟩ : ∃ g, fuel = g + 1 := ⟨fuel - 1, by omega⟩
    have e1 : xset σ a3 (rCp (σ a1) (σ a3) x y j) a1 = σ a1 := xset_other ha
    have e2 : upd (rCp (σ a1) (σ a3) x y j) (y + j) (σ a1 (x + j)) = rCp (σ a1) (σ a3) x y (j + 1) := by
      funext i
      unfold rCp upd
      by_cases h : i = y + j
      · subst h
        rw [if_pos rfl, if_pos (by omega)]
        congr 1
        omega
      · rw [if_neg h]
        dsimp only
        by_cases h2 : y ≤ i ∧ i < y + j
        · rw [if_pos h2, if_pos (by omega)]
        · rw [if_neg h2, if_neg (by omega)]
    rw [L_X6_copyState_3, if_neg (show ¬ (187 : Int32) ≤ nI j from nI_ge (a := j) (b := 187) (by omega) (by decide)), nI_add, nI_add, if_pos (xin_nI (by omega) (by omega)), xlet_s, if_pos (xin_nI (by omega) (by omega)), xlet_s, xlet_s, nI_clamp (by omega), nI_clamp (by omega), e1, xu_xset, e2, nI_1]
    exact ih (j + 1) g (by omega) (by omega)
theorem pR_copy {σ : xS} {n1 a1 n3 a3 x y : Nat} (h1 : x + 187 ≤ n1) (h3 : y + 187 ≤ n3) (hn1 : n1 ≤ 5000) (hn3 : n3 ≤ 5000) (ha : a1 ≠ a3) : F_X6_copyState n1 a1 (nI x) n3 a3 (nI y) σ = some (xset σ a3 (rCp (σ a1) (σ a3) x y 187)) := by
  have h := pL_X6_copy (σ := σ) (KK := fun (σ1 : xS) => some σ1) h1 h3 hn1 hn3 ha 187 0 1000 (by omega) (by omega)
  have e0 : xset σ a3 (rCp (σ a1) (σ a3) x y 0) = σ := by
    rw [show rCp (σ a1) (σ a3) x y 0 = σ a3 from funext fun i => if_neg (by omega), xset_self]
  rw [e0] at h
  exact h
theorem pP_copy {σ : xS} {b b2 o n : Nat} {u : Nat → Int32} (hQ : xQ2 σ b2 u o n) (hb : b + 9 ≤ b2 ∨ b2 + 9 ≤ b) (h1 : u 1 = 0 ∨ u 1 = 1) : ∃ z, F_X2_copyFrom b b2 σ = some z ∧ xfr σ z b (b + 9) ∧ xQ2 z b u o n := by
  obtain ⟨q1, q2, q3, q4, q5, ⟨w, q6⟩, ⟨w2, q7⟩⟩ := hQ
  obtain ⟨z1, c1, c2, c3⟩ := pD_copy (d := b + 1) q6 q4 (by decide) (by omega)
  have hne : b2 ≠ b := by omega
  have hne5 : b + 1 ≠ b := by omega
  have z1b : z1 b2 = σ b2 := c2 b2 (by omega)
  obtain ⟨σ7, hs7⟩ : ∃ y, y = xu (xu (xu (xu (xu (xu z1 b 2 (σ b2 2)) b 3 (σ b2 3)) b 4 (σ b2 4)) b 5 (σ b2 5)) b 6 (σ b2 6)) b 7 (σ b2 7) := ⟨_, rfl⟩
  have fr7 : ∀ i, i ≠ b → σ7 i = z1 i := fun i hi => by
    rw [hs7, xu_other hi, xu_other hi, xu_other hi, xu_other hi, xu_other hi, xu_other hi]
  obtain ⟨z8, d1, d2, d3⟩ := pD_copy (d := b + 5) (q7.ex (σ2 := σ7) (fun i p1 p2 => by rw [fr7 i (by omega), c2 i (by omega)])) q5 (by decide) (by omega)
  have z8b2 : z8 b2 = σ b2 := by rw [d2 b2 (by omega), fr7 b2 hne, z1b]
  have z8b : z8 b = σ7 b := d2 b (by omega)
  have hbo : vp_nar .boolean (σ b2 3) = σ b2 3 := by
    rw [q1.2.1]
    rcases h1 with h | h <;> rw [h] <;> decide
  refine ⟨xu (xu (xu (xu (xu z8 b 9 (σ b2 9)) b 10 (σ b2 10)) b 11 (σ b2 11)) b 12 (σ b2 12)) b 13 (σ b2 13), ?_, ?_, ?_, q2, q3, q4, q5, ⟨w, ?_⟩, ⟨w2, ?_⟩⟩
  · unfold F_X2_copyFrom
    rw [c1, xbV_s]
    simp only [xlet_s, xu_other hne, z1b]
    rw [if_pos hbo, ← hs7, d1, xbV_s, z8b2]
  · intro i hi
    have hi2 : i ≠ b := by omega
    rw [xu_other hi2, xu_other hi2, xu_other hi2, xu_other hi2, xu_other hi2, d2 i (by omega), fr7 i hi2, c2 i (by omega)]
  · obtain ⟨s1, s2, s3, s4, s5, s6, s7, s8, s9, s10, s11⟩ := q1
    unfold xS2
    rw [xu_same, xu_same, xu_same, xu_same, xu_same, z8b, hs7, xu_same, xu_same, xu_same, xu_same, xu_same, xu_same]
    simp [upd, s1, s2, s3, s4, s5, s6, s7, s8, s9, s10, s11]
  · refine c3.ex (fun i p1 p2 => ?_)
    have hi2 : i ≠ b := by omega
    rw [xu_other hi2, xu_other hi2, xu_other hi2, xu_other hi2, xu_other hi2, d2 i (by omega), fr7 i hi2]
  · refine d3.ex (fun i p1 p2 => ?_)
    have hi2 : i ≠ b := by omega
    rw [xu_other hi2, xu_other hi2, xu_other hi2, xu_other hi2, xu_other hi2]
theorem pL_X3_copy54 {p p2 : Nat} {r : Nat → Int32} {KK : xS → Option xS} (hp : p + 43 ≤ p2 ∨ p2 + 43 ≤ p) (h1 : ∀ k, k < 4 → rRow r k 1 = 0 ∨ rRow r k 1 = 1) : ∀ (d j fuel : Nat) (σ : xS), j + d = 4 → d < fuel → (∀ k, k < 4 → ∃ o n, xQ2 σ (p2 + 7 + 9 * k) (rRow r k) o n) → (∀ k, k < j → ∃ o n, xQ2 σ (p + 7 + 9 * k) (rRow r k) o n) → ∃ z, L_X3_copyFrom_54 p p2 KK fuel (nI j) σ = KK z ∧ xfr σ z (p + 7) (p + 43) ∧ ∀ k, k < 4 → ∃ o n, xQ2 z (p + 7 + 9 * k) (rRow r k) o n := by
  intro d
  induction d with
  | zero =>
    intro j fuel σ hj hf hS hD
    obtain ⟨g, rfl⟩ : ∃ g, fuel = g + 1 := ⟨fuel - 1, by omega⟩
    obtain rfl : j = 4 := by omega
    exact ⟨σ, by rw [L_X3_copyFrom_54, if_pos (by decide)], xfr.refl, hD⟩
  | succ d ih =>
    intro j fuel σ hj hf hS hD
    obtain ⟨g, rfl⟩ : ∃ g, fuel = g + 1 := ⟨fuel - 1, by omega⟩
    obtain ⟨o, n, q⟩ := hS j (by omega)
    obtain ⟨z1, c1, c2, c3⟩ := pP_copy (b := p + 7 + 9 * j) q (by omega) (h1 j (by omega))
    obtain ⟨z, e1, e2, e3⟩ := ih (j + 1) g z1 (by omega) (by omega) (fun k hk => by
      obtain ⟨o, n, q⟩ := hS k hk
      exact ⟨o, n, q.ex (fun i a b => c2 i (by omega))⟩) (fun k hk => by
      by_cases e : k = j
      · subst e; exact ⟨o, n, c3⟩
      · obtain ⟨o, n, q⟩ := hD k (by omega)
        exact ⟨o, n, q.ex (fun i a b => c2 i (by omega))⟩)
    refine ⟨z, ?_, (c2.sub (by omega) (by omega)).trans e2, e3⟩
    rw [L_X3_copyFrom_54, if_neg (show ¬ (4 : Int32) ≤ nI j from nI_ge (a := j) (b := 4) (by omega) (by decide)), if_pos (xin_nI (by omega) (by decide)), if_pos (xin_nI (by omega) (by decide)), nI_clamp (by omega), c1, xbV_s, xlet_s, nI_1, e1]
theorem pL_X3_copy18 {p p2 : Nat} {V : Nat → Int32} {KK : xS → Option xS} (hp : p + 43 ≤ p2 ∨ p2 + 43 ≤ p) : ∀ (d j fuel : Nat) (σ : xS), j + d = 4 → d < fuel → (∀ i, i < 4 → σ (p2 + 1) i = V i) → (∀ i, i < j → σ (p + 1) i = V i) → ∃ z, L_X3_copyFrom_18 p p2 KK fuel (nI j) σ = KK z ∧ xfr σ z (p + 1) (p + 2) ∧ ∀ i, i < 4 → z (p + 1) i = V i := by
  intro d
  induction d with
  | zero =>
    intro j fuel σ hj hf hS hD
    obtain ⟨g, rfl⟩ : ∃ g, fuel = g + 1 := ⟨fuel - 1, by omega⟩
    obtain rfl : j = 4 := by omega
    exact ⟨σ, by rw [L_X3_copyFrom_18, if_pos (by decide)], xfr.refl, hD⟩
  | succ d ih =>
    intro j fuel σ hj hf hS hD
    obtain ⟨g, rfl⟩ : ∃ g, fuel = g + 1 := ⟨fuel - 1, by omega⟩
    obtain ⟨z, e1, e2, e3⟩ := ih (j + 1) g (xu σ (p + 1) j (V j)) (by omega) (by omega) (fun i hi => by rw [xu_other (by omega), hS i hi]) (fun i hi => by
      rw [xu_same]
      by_cases e : i = j
      · subst e; rw [up_s]
      · rw [up_n e, hD i (by omega)])
    refine ⟨z, ?_, (xfr_xu (Nat.le_refl _) (by omega)).trans e2, e3⟩
    rw [L_X3_copyFrom_18, if_neg (show ¬ (4 : Int32) ≤ nI j from nI_ge (a := j) (b := 4) (by omega) (by decide)), if_pos (xin_nI (by omega) (by decide)), xlet_s, if_pos (xin_nI (by omega) (by decide)), nI_clamp (by omega), hS j (by omega), xlet_s, xlet_s, nI_1, e1]
/-- the class copies a post -/
theorem pT_copy {σ : xS} {p p2 L : Nat} {r : Nat → Int32} (hQ : xQ3 σ p2 r L) (hL : L ≤ 8) (hp : p + 43 ≤ p2 ∨ p2 + 43 ≤ p) (h1 : ∀ k, k < 4 → rRow r k 1 = 0 ∨ rRow r k 1 = 1) : ∃ z, F_X3_copyFrom p p2 σ = some z ∧ xfr σ z p (p + 43) ∧ xQ3 z p r L := by
  obtain ⟨⟨q0, q1, q2, q3⟩, q4⟩ := hQ
  obtain ⟨σ2, hs2⟩ : ∃ y, y = xu (xu σ p 0 (σ p2 0)) p 1 (σ p2 1) := ⟨_, rfl⟩
  have f2 : ∀ i, i ≠ p → σ2 i = σ i := fun i hi => by rw [hs2, xu_other hi, xu_other hi]
  have main : ∃ z, L_X3_copyFrom_18 p p2 (fun (σ3 : xS) => xbV (F_X0_copyFrom 8 (p + 2) 8 (p2 + 2) σ3) (fun (σ4 : xS) => L_X3_copyFrom_54 p p2 (fun (σ5 : xS) => some σ5) 1000 0 σ4)) 1000 0 σ2 = some z ∧ xfr σ2 z p (p + 43) ∧ z p = σ2 p ∧ (∀ i, i < 4 → z (p + 1) i = r (3 + i)) ∧ (∀ k, k < 4 → ∃ o n, xQ2 z (p + 7 + 9 * k) (rRow r k) o n) ∧ xD3 z (p + 2) L (fun j => r (7 + 3 * j)) (fun j => r (7 + 3 * j + 1)) (fun j => r (7 + 3 * j + 2)) := by
    obtain ⟨z1, a1, a2, a3⟩ := pL_X3_copy18 (V := fun i => r (3 + i)) (KK := fun (σ3 : xS) => xbV (F_X0_copyFrom 8 (p + 2) 8 (p2 + 2) σ3) (fun (σ4 : xS) => L_X3_copyFrom_54 p p2 (fun (σ5 : xS) => some σ5) 1000 0 σ4)) hp 4 0 1000 σ2 (by omega) (by omega) (fun i hi => by rw [f2 _ (by omega), q2 i hi]) (fun i hi => absurd hi (by omega))
    obtain ⟨z2, b1, b2, b3⟩ := pD_copy (c := 8) (d := p + 2) (q4.ex (σ2 := z1) (fun i p1 p2 => by rw [a2 i (by omega), f2 i (by omega)])) hL (by decide) (by omega)
    obtain ⟨z3, c1, c2, c3⟩ := pL_X3_copy54 (p := p) (p2 := p2) (r := r) (KK := fun (σ5 : xS) => some σ5) hp h1 4 0 1000 z2 (by omega) (by omega) (fun k hk => by
      obtain ⟨o, n, q⟩ := q3 k hk
      exact ⟨o, n, q.ex (fun i p1 p2 => by rw [b2 i (by omega), a2 i (by omega), f2 i (by omega)])⟩) (fun k hk => absurd hk (by omega))
    refine ⟨z3, ?_, ((a2.sub (by omega) (by omega)).trans (b2.sub (by omega) (by omega))).trans (c2.sub (by omega) (by omega)), ?_, fun i hi => ?_, c3, b3.ex (fun i p1 p2 => c2 i (by omega))⟩
    · refine (show _ = _ from a1).trans ?_
      rw [b1, xbV_s]
      exact c1
    · rw [c2 p (by omega), b2 p (by omega), a2 p (by omega)]
    · rw [c2 _ (by omega), b2 _ (by omega), a3 i hi]
  obtain ⟨z, e1, e2, e3, e4, e5, e6⟩ := main
  refine ⟨z, ?_, (show xfr σ σ2 p (p + 43) from fun i hi => f2 i (by omega)).trans e2, ⟨?_, ?_, e4, e5⟩, e6⟩
  · unfold F_X3_copyFrom
    rw [xlet_s, xlet_s, xu_other (show p2 ≠ p by omega), ← hs2]
    exact e1
  · rw [e3, hs2, xu_same, up_n (by decide), xu_same, up_s, q0]
  · rw [e3, hs2, xu_same, up_s, q1]
def rSv (v : Nat → Int32) : Nat → Nat → Int32 → Int32
  | 0, _, z => z
  | d + 1, k, z => rSv v d (k + 1) (z + v k)
theorem pL_X3_sumW {σ : xS} {p : Nat} {w : Int32} {v : Nat → Int32} {KK : Int32 → xS → Option (Int32 × xS)} (h : ∀ k, k < 4 → F_X2_numberOfWriter (p + 7 + 9 * k) w σ = some (v k, σ)) : ∀ (d k fuel : Nat) (z : Int32), k + d = 4 → d < fuel → L_X3_sumOfWriters_4 p w KK fuel z (nI k) σ = KK (rSv v d k z) σ := by
  intro d
  induction d with
  | zero =>
    intro k fuel z hk hf
    obtain ⟨g, rfl⟩ : ∃ g, fuel = g + 1 := ⟨fuel - 1, by omega⟩
    obtain rfl : k = 4 := by omega
    rw [L_X3_sumOfWriters_4, if_pos (by decide)]
    rfl
  | succ d ih =>
    intro k fuel z hk hf
    obtain ⟨g, rfl⟩ : ∃ g, fuel = g + 1 := ⟨fuel - 1, by omega⟩
    rw [L_X3_sumOfWriters_4, if_neg (show ¬ (4 : Int32) ≤ nI k from nI_ge (a := k) (b := 4) (by omega) (by decide)), if_pos (xin_nI (by omega) (by decide)), nI_clamp (by omega), h k (by omega), xbI_s, xlet_s, xlet_s, nI_1, ih (k + 1) g _ (by omega) (by omega)]
    rfl
theorem pL_X3_sumD {σ : xS} {p : Nat} {w : Int32} {v : Nat → Int32} {KK : Int32 → xS → Option (Int32 × xS)} (h : ∀ k, k < 4 → F_X2_numberOfDesk (p + 7 + 9 * k) w σ = some (v k, σ)) : ∀ (d k fuel : Nat) (z : Int32), k + d = 4 → d < fuel → L_X3_sumOfDesks_4 p w KK fuel z (nI k) σ = KK (rSv v d k z) σ := by
  intro d
  induction d with
  | zero =>
    intro k fuel z hk hf
    obtain ⟨g, rfl⟩ : ∃ g, fuel = g + 1 := ⟨fuel - 1, by omega⟩
    obtain rfl : k = 4 := by omega
    rw [L_X3_sumOfDesks_4, if_pos (by decide)]
    rfl
  | succ d ih =>
    intro k fuel z hk hf
    obtain ⟨g, rfl⟩ : ∃ g, fuel = g + 1 := ⟨fuel - 1, by omega⟩
    rw [L_X3_sumOfDesks_4, if_neg (show ¬ (4 : Int32) ≤ nI k from nI_ge (a := k) (b := 4) (by omega) (by decide)), if_pos (xin_nI (by omega) (by decide)), nI_clamp (by omega), h k (by omega), xbI_s, xlet_s, xlet_s, nI_1, ih (k + 1) g _ (by omega) (by omega)]
    rfl
theorem pT_sumW {σ : xS} {p w : Nat} {r : Nat → Int32} {x : Int32} (h : ∀ k, k < 4 → F_X2_numberOfWriter (p + 7 + 9 * k) x σ = some (rRow r k w, σ)) : F_X3_sumOfWriters p x σ = some (rS4 r w, σ) :=
  pL_X3_sumW (v := fun k => rRow r k w) (KK := fun (zz1 : Int32) (σ2 : xS) => some (zz1, σ2)) h 4 0 1000 0 (by omega) (by omega)
theorem pT_sumD {σ : xS} {p w : Nat} {r : Nat → Int32} {x : Int32} (h : ∀ k, k < 4 → F_X2_numberOfDesk (p + 7 + 9 * k) x σ = some (rRow r k w, σ)) : F_X3_sumOfDesks p x σ = some (rS4 r w, σ) :=
  pL_X3_sumD (v := fun k => rRow r k w) (KK := fun (zz1 : Int32) (σ2 : xS) => some (zz1, σ2)) h 4 0 1000 0 (by omega) (by omega)
/-- which number of the row each number of a writer is -/
def rOfW (w : Nat) : Nat := if w = 0 then 0 else if w = 1 then 6 else w - 1
theorem pQ_writer {σ : xS} {b o n w : Nat} {u : Nat → Int32} (h : xQ2 σ b u o n) (h1 : u 1 = 0 ∨ u 1 = 1) (hw : w ≤ 6) : F_X2_numberOfWriter b (nI w) σ = some (u (rOfW w), σ) := by
  obtain ⟨⟨s1, s2, s3, s4, s5, s6, s7, s8, s9, s10, s11⟩, q2, -, -, -, ⟨w1, q6⟩, -⟩ := h
  have e6 : σ (b + 1) 3 = u 6 := by rw [q6.1, q2]
  unfold F_X2_numberOfWriter
  obtain h | h | h | h | h | h | h : w = 0 ∨ w = 1 ∨ w = 2 ∨ w = 3 ∨ w = 4 ∨ w = 5 ∨ w = 6 := by omega
  all_goals subst h
  · rw [if_pos (by decide), s1]; rfl
  · rw [if_neg (by decide), if_pos (by decide), e6]; rfl
  · rw [if_neg (by decide), if_neg (by decide), if_pos (by decide), s2]
    rcases h1 with h | h
    · rw [if_pos h, ← h]; rfl
    · rw [if_neg (by rw [h]; decide), ← h]; rfl
  · rw [if_neg (by decide), if_neg (by decide), if_neg (by decide), if_pos (by decide), s3]; rfl
  · rw [if_neg (by decide), if_neg (by decide), if_neg (by decide), if_neg (by decide), if_pos (by decide), s4]; rfl
  · rw [if_neg (by decide), if_neg (by decide), if_neg (by decide), if_neg (by decide), if_neg (by decide), if_pos (by decide), s5]; rfl
  · rw [if_neg (by decide), if_neg (by decide), if_neg (by decide), if_neg (by decide), if_neg (by decide), if_neg (by decide), s6]; rfl
theorem pQ_desk {σ : xS} {b o n w : Nat} {u : Nat → Int32} (h : xQ2 σ b u o n) (hw : w ≤ 5) : F_X2_numberOfDesk b (nI w) σ = some (u (8 + w), σ) := by
  obtain ⟨⟨s1, s2, s3, s4, s5, s6, s7, s8, s9, s10, s11⟩, -, q3, -, -, -, ⟨w1, q6⟩⟩ := h
  have e6 : σ (b + 5) 3 = u 13 := by rw [q6.1, q3]
  unfold F_X2_numberOfDesk
  obtain h | h | h | h | h | h : w = 0 ∨ w = 1 ∨ w = 2 ∨ w = 3 ∨ w = 4 ∨ w = 5 := by omega
  all_goals subst h
  · rw [if_pos (by decide), s7]
  · rw [if_neg (by decide), if_pos (by decide), s8]
  · rw [if_neg (by decide), if_neg (by decide), if_pos (by decide), s9]
  · rw [if_neg (by decide), if_neg (by decide), if_neg (by decide), if_pos (by decide), s10]
  · rw [if_neg (by decide), if_neg (by decide), if_neg (by decide), if_neg (by decide), if_pos (by decide), s11]
  · rw [if_neg (by decide), if_neg (by decide), if_neg (by decide), if_neg (by decide), if_neg (by decide), e6]
section RC
variable {m t tr wt sz ms L : Nat} {lo : Nat → Nat}
theorem rOK.h01 {r : Nat → Int32} {W : Nat} (h : rOK r m t tr wt sz ms L lo W) : ∀ k, k < 4 → rRow r k 1 = 0 ∨ rRow r k 1 = 1 := by
  intro k hk
  by_cases e : k < m
  · exact (h.2.2.1 k e).2.1
  · right; rw [h.2.2.2 k (by omega) hk]; rfl
theorem pT_sum {σ : xS} {p W w : Nat} {r : Nat → Int32} (h : rOK r m t tr wt sz ms L lo W) (hQ : xQ3 σ p r L) (hw : w ≤ 6) : F_X3_sumOfWriters p (nI w) σ = some (rS4 r (rOfW w), σ) := by
  refine pT_sumW (fun k hk => ?_)
  obtain ⟨o, n, q⟩ := hQ.1.2.2.2 k hk
  exact pQ_writer q (h.h01 k hk) hw
theorem pT_sumd {σ : xS} {p w L : Nat} {r : Nat → Int32} (hQ : xQ3 σ p r L) (hw : w ≤ 5) : F_X3_sumOfDesks p (nI w) σ = some (rS4 r (8 + w), σ) := by
  refine pT_sumD (fun k hk => ?_)
  obtain ⟨o, n, q⟩ := hQ.1.2.2.2 k hk
  exact pQ_desk q hw
theorem pK_signs1 (ht : t < 2 ^ 29) : ∀ (d k W : Nat) (lo : Nat → Nat) (r : Nat → Int32), k + d ≤ m → W + 6 * d < 2 ^ 30 → rH r m t tr wt sz ms L → rJ r m t lo W → (∀ j, k ≤ j → j < k + d → lo j = t) → ∃ S, S ≤ 594 * d ∧ rS4 (rRows d k r) 8 = rS4 r 8 + nI S := by
  intro d
  induction d with
  | zero => intro k W lo r hk hW hH hJ hl; exact ⟨0, by omega, by rw [show nI 0 = (0 : Int32) from rfl, Int32.add_zero]; rfl⟩
  | succ d ih =>
    intro k W lo r hk hW hH hJ hl
    have hm4 : m ≤ 4 := hH.2.2.2.2.2.2.2.2.1
    have h1 := rRw_J (lo2 := fun j => if j = k then t + 1 else lo j) ht (by omega) (by omega) hH hJ (hl k (by omega) (by omega)) (fun j hj => if_neg hj) (if_pos rfl)
    obtain ⟨S, g1, g2⟩ := ih (k + 1) (W + 6) _ (rRw r k) (by omega) (by omega) (hH.cg (fun i hi => rX_hd (by omega))) h1 (fun j p q => by rw [if_neg (by omega)]; exact hl j (by omega) (by omega))
    obtain ⟨x, h0, hx⟩ := (hJ.1 k (by omega)).box
    obtain ⟨b0, b1, b2, b3, b4, b5, b6, b7, b8, b9, b10, b11, b12, b13, b14, b15, b16⟩ := hH
    obtain ⟨-, S2, g3, g4⟩ := (hJ.1 k (by omega)).2.2.row (t := r 1) (tt := r 1 + r 3) (wait := r 4) (most := r 6) b13 h0 hx
    refine ⟨S2 + S, by omega, ?_⟩
    have e := rS4_X (r := r) (u := mRow (r 1) (r 1 + r 3) (r 4) (r 5) (r 6) (rRow r k)) (k := k) (w := 8) (by omega) (by decide)
    rw [b5] at e
    rw [g4] at e
    have e2 : rS4 (rRw r k) 8 = rS4 r 8 + nI S2 := by
      unfold rRw
      rw [b5]
      have e3 : ∀ a b c d : Int32, a - b = d + c - d → a = b + c := by intro a b c d h; grind
      exact e3 _ _ _ _ e
    rw [rRows, g2, e2, Int32.add_assoc, nI_add]
theorem pK_signs {f e : Nat} (he : e ≤ m) (hfe : f ≤ e) : ∀ (q t L W : Nat) (r : Nat → Int32), t + q < 2 ^ 28 → W + 72 * q < 2 ^ 28 → rOK r m t tr wt sz ms L (rLo f e (t + 1)) W → ∃ S, S ≤ 2376 * q ∧ rS4 (rTicks f e q r) 8 = rS4 r 8 + nI S := by
  intro q
  induction q with
  | zero => intro t L W r ht hW h; exact ⟨0, by omega, by rw [show nI 0 = (0 : Int32) from rfl, Int32.add_zero]; rfl⟩
  | succ q ih =>
    intro t L W r ht hW h
    obtain ⟨L2, hL, h2⟩ := pK_tick (by omega) (by omega) he h
    obtain ⟨S, g1, g2⟩ := ih (t + 1) L2 (W + 72) _ (by omega) (by omega) h2
    have hm4 := h.m4
    have h1 := rT1_ok h
    have hlo : ∀ k, rLo f e (t + 1) k ≤ t + 1 + 1 := fun k => by have := rLo_le (f := f) (e := e) (t := t) k; omega
    obtain ⟨L3, -, a1, a2, a3⟩ := pN_notes (by omega) hlo h1.1 h1.2.1 h1.2.2
    obtain ⟨S2, g3, g4⟩ := pK_signs1 (by omega) (e - f) f (W + 48) _ (rNotes (rT1 r)) (by omega) (by omega) a1 a3 (fun j p q => if_pos (by omega))
    refine ⟨S2 + S, by omega, ?_⟩
    rw [rTicks_s, g2]
    unfold rTick
    rw [g4, rNotes_8 (by rw [h.LL]; exact h.L8), Int32.add_assoc, nI_add]
end RC
