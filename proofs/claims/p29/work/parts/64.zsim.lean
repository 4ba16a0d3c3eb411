/-! SIMULATIONS -/
/-- post p looks as array r, and all is well -/
def yS (σ : xS) (p : Nat) (r : Nat → Int32) (T W : Nat) : Prop := ∃ m t tr wt sz ms L w, rOK r m t tr wt sz ms L (rLo 0 m (t + 1)) w ∧ t ≤ T ∧ w ≤ W ∧ xQ3 σ p r L
theorem yS.ex {σ σ2 : xS} {p T W : Nat} {r : Nat → Int32} (h : yS σ p r T W) (hx : ∀ i, p ≤ i → i < p + 43 → σ2 i = σ i) : yS σ2 p r T W := by
  obtain ⟨m, t, tr, wt, sz, ms, L, w, h1, h2, h3, h4⟩ := h
  exact ⟨m, t, tr, wt, sz, ms, L, w, h1, h2, h3, h4.ex hx⟩
theorem yS.mono {σ : xS} {p T W T2 W2 : Nat} {r : Nat → Int32} (h : yS σ p r T W) (hT : T ≤ T2) (hW : W ≤ W2) : yS σ p r T2 W2 := by
  obtain ⟨m, t, tr, wt, sz, ms, L, w, h1, h2, h3, h4⟩ := h
  exact ⟨m, t, tr, wt, sz, ms, L, w, h1, by omega, by omega, h4⟩
def rDo (k a b d : Nat) (r : Nat → Int32) : Bool × (Nat → Int32) :=
  if k = 1 then (if a < mN (r 0) ∧ ¬ (9999 : Int32) < rRow r a 0 + nI b then (true, rW r a (nI b)) else (false, r))
  else if k = 2 then (if b < mN (r 0) ∧ mN (r 2) < 8 then (true, rPlan r (mN (r 2)) (nI a) (nI b) (nI d)) else (false, r))
  else if k = 3 then (if a < mN (r 0) then (true, rHold r a (nI b)) else (false, r))
  else if k = 4 then (if a < mN (r 0) then (true, rFlush r a) else (false, r))
  else (true, rTicks 0 (mN (r 0)) a r)
/-- a command's numbers are in range -/
def vOK (k a b d : Nat) : Prop := (k = 1 ∧ a ≤ 3 ∧ 1 ≤ b ∧ b ≤ 500) ∨ (k = 2 ∧ 1 ≤ a ∧ a ≤ 99 ∧ b ≤ 3 ∧ 1 ≤ d ∧ d ≤ 500) ∨ (k = 3 ∧ a ≤ 3 ∧ b ≤ 1) ∨ (k = 4 ∧ a ≤ 3) ∨ (k = 5 ∧ 1 ≤ a ∧ a ≤ 99)
theorem rBad_ge {m a : Nat} (h : ¬ a < m) (ha : a < 2 ^ 31) : rBad m (nI a) := Or.inr (nI_le (by omega) ha)
theorem b01 {b : Nat} (h : b ≤ 1) : nI b = 0 ∨ nI b = 1 := by
  obtain e | e : b = 0 ∨ b = 1 := by omega
  · subst e; exact Or.inl rfl
  · subst e; exact Or.inr rfl
/-- the class does a command -/
theorem pT_do {σ : xS} {p T W k a b d : Nat} {r : Nat → Int32} (h : yS σ p r T W) (hT : T < 90000) (hW : W < 2 ^ 24) (hv : vOK k a b d) : ∃ z v, F_X3_attempt p (nI k) (nI a) (nI b) (nI d) σ = some (v, z) ∧ (v = -1 ↔ (rDo k a b d r).1 = false) ∧ xfr σ z p (p + 43) ∧ yS z p (rDo k a b d r).2 (T + 99) (W + 7200) := by
  obtain ⟨m, t, tr, wt, sz, ms, L, w, h1, ht, hw, hQ⟩ := h
  have hm4 := h1.m4
  have hL8 := h1.L8
  have em := h1.mm
  have eL := h1.LL
  have keep : yS σ p r (T + 99) (W + 7200) := ⟨m, t, tr, wt, sz, ms, L, w, h1, by omega, by omega, hQ⟩
  rcases hv with ⟨rfl, ha, hb1, hb⟩ | ⟨rfl, ha1, ha, hb, hd1, hd⟩ | ⟨rfl, ha, hb⟩ | ⟨rfl, ha⟩ | ⟨rfl, ha1, ha⟩
  · unfold rDo
    rw [if_pos rfl, em]
    by_cases c1 : a < m
    · by_cases c2 : (9999 : Int32) < rRow r a 0 + nI b
      · rw [if_neg (fun q => q.2 c2)]
        refine ⟨σ, -1, pT_att0 (f := 3) ?_ (by decide), ⟨fun _ => rfl, fun _ => rfl⟩, xfr.refl, keep⟩
        rw [show F_X3_faultOf p (nI 1) (nI a) (nI b) (nI d) σ = _ from pT_fW, pF_faultOfNote hQ.1 h1.1.1 c1 hm4 hb1 hb, if_pos c2, xbI_s]
      · rw [if_pos ⟨c1, c2⟩]
        obtain ⟨z, e1, e2, e3⟩ := pT_attW (c := nI d) (by omega) h1 hQ c1 hb1 hb c2
        obtain ⟨j, hj, ej⟩ := rW_6 h1 c1 hb c2
        refine ⟨z, _, e1, ⟨fun q => ?_, fun q => Bool.noConfusion q⟩, e2, m, t, tr, wt, sz, ms, L, w + 6, h1.write (by omega) rLo_le1 c1 hb c2, by omega, by omega, e3⟩
        rw [ej] at q
        exact absurd q (nI_nm1 (by omega))
    · rw [if_neg (fun q => c1 q.1)]
      refine ⟨σ, -1, pT_att0 (f := 1) ?_ (by decide), ⟨fun _ => rfl, fun _ => rfl⟩, xfr.refl, keep⟩
      rw [show F_X3_faultOf p (nI 1) (nI a) (nI b) (nI d) σ = _ from pT_fW, pT_fNote0 hQ.1 h1.1.1 (rBad_ge c1 (by omega)), xbI_s]
  · unfold rDo
    rw [if_neg (by decide), if_pos rfl, em, eL]
    by_cases c1 : b < m
    · by_cases c2 : L < 8
      · rw [if_pos ⟨c1, c2⟩]
        obtain ⟨z, e1, e2, e3⟩ := pT_attP hQ c2 h1.1.1 c1 hm4 ha1 ha hd1 hd
        refine ⟨z, _, e1, ⟨fun q => absurd q (nI_nm1 (by omega)), fun q => Bool.noConfusion q⟩, e2, m, t, tr, wt, sz, ms, L + 1, w, h1.plan c2 c1 hd1 hd, by omega, by omega, e3⟩
      · rw [if_neg (fun q => c2 q.2)]
        refine ⟨σ, -1, pT_att0 (f := 3) ?_ (by decide), ⟨fun _ => rfl, fun _ => rfl⟩, xfr.refl, keep⟩
        rw [show F_X3_faultOf p (nI 2) (nI a) (nI b) (nI d) σ = _ from pT_fP2 hQ hL8 h1.1.1 c1 hm4 ha1 ha hd1 hd, if_pos (by omega)]
    · rw [if_neg (fun q => c1 q.1)]
      refine ⟨σ, -1, pT_att0 (f := 1) ?_ (by decide), ⟨fun _ => rfl, fun _ => rfl⟩, xfr.refl, keep⟩
      exact pT_fP0 (hQ.1.1.trans h1.1.1) (rBad_ge c1 (by omega))
  · unfold rDo
    rw [if_neg (by decide), if_neg (by decide), if_pos rfl, em]
    by_cases c1 : a < m
    · rw [if_pos c1]
      obtain ⟨z, e1, e2, e3⟩ := pT_attH (c := nI d) (by omega) h1 hQ c1 (b01 hb)
      obtain ⟨j, hj, ej⟩ := rHold_6 h1 c1 (b01 hb)
      refine ⟨z, _, e1, ⟨fun q => ?_, fun q => Bool.noConfusion q⟩, e2, m, t, tr, wt, sz, ms, L, w + 6, h1.hold (by omega) rLo_le1 c1 (b01 hb), by omega, by omega, e3⟩
      rw [ej] at q
      exact absurd q (nI_nm1 (by omega))
    · rw [if_neg c1]
      exact ⟨σ, -1, (pT_att34 (hQ.1.1.trans h1.1.1) (rBad_ge c1 (by omega)) (Or.inl rfl)).2, ⟨fun _ => rfl, fun _ => rfl⟩, xfr.refl, keep⟩
  · unfold rDo
    rw [if_neg (by decide), if_neg (by decide), if_neg (by decide), if_pos rfl, em]
    by_cases c1 : a < m
    · rw [if_pos c1]
      obtain ⟨z, e1, e2, e3⟩ := pT_attF (c := nI b) (d := nI d) (by omega) h1 hQ c1
      obtain ⟨j, hj, ej⟩ := rFlush_6 h1 c1
      refine ⟨z, _, e1, ⟨fun q => ?_, fun q => Bool.noConfusion q⟩, e2, m, t, tr, wt, sz, ms, L, w + 6, h1.flush (by omega) rLo_le1 c1, by omega, by omega, e3⟩
      rw [ej] at q
      exact absurd q (nI_nm1 (by omega))
    · rw [if_neg c1]
      exact ⟨σ, -1, (pT_att34 (hQ.1.1.trans h1.1.1) (rBad_ge c1 (by omega)) (Or.inr rfl)).2, ⟨fun _ => rfl, fun _ => rfl⟩, xfr.refl, keep⟩
  · unfold rDo
    rw [if_neg (by decide), if_neg (by decide), if_neg (by decide), if_neg (by decide), em]
    obtain ⟨z, L2, e1, e2, e3, e4, e5⟩ := pT_attT (c := nI b) (d := nI d) (by omega) (by omega) h1 hQ ha1 ha
    obtain ⟨S, s1, s2⟩ := pK_signs (Nat.le_refl m) (Nat.zero_le m) a t L w r (by omega) (by omega) h1
    refine ⟨z, _, e1, ⟨fun q => ?_, fun q => Bool.noConfusion q⟩, e2, m, t + a, tr, wt, sz, ms, L2, w + 72 * a, e5, by omega, by omega, e4⟩
    have e6 : ∀ x y : Int32, x + y - x = y := by intro x y; grind
    rw [s2, e6] at q
    exact absurd q (nI_nm1 (by omega))
theorem y_shift (x : Int64) : ∃ q, q < 2 ^ 31 ∧ ((x.toUInt64 >>> ((33 : Int32).toInt64.toUInt64 &&& Int64.toUInt64 63)).toInt64).toInt32 = nI q := by
  have e33 : ((33 : Int32).toInt64.toUInt64 &&& Int64.toUInt64 63) = 33 := by decide
  rw [e33]
  obtain ⟨y, hy⟩ : ∃ y, y = x.toUInt64 >>> (33 : UInt64) := ⟨_, rfl⟩
  have hlt : y.toNat < 2 ^ 31 := by
    rw [hy, UInt64.toNat_shiftRight]
    have h1 : (33 : UInt64).toNat % 64 = 33 := by decide
    have h2 := x.toUInt64.toNat_lt
    rw [h1, Nat.shiftRight_eq_div_pow]
    exact Nat.div_lt_of_lt_mul (by omega)
  refine ⟨y.toNat, hlt, ?_⟩
  rw [← hy]
  have e : y.toInt64 = lN y.toNat := by
    apply Int64.toBitVec_inj.mp
    show y.toBitVec = BitVec.ofNat 64 y.toNat
    apply BitVec.eq_of_toNat_eq
    rw [BitVec.toNat_ofNat]
    exact (Nat.mod_eq_of_lt y.toBitVec.isLt).symm
  rw [e, lN_i]
def rTn (x : Nat) (r : Nat → Int32) : Nat → Int32 :=
  if x % 8 < 3 then (rDo 1 (x / 8 % 4) (1 + x / 8 / 4 % 60) 0 r).2
  else if x % 8 = 3 then (rDo 2 (1 + x / 8 / 4 % 30) (x / 8 % 4) (1 + x / 8 / 256 % 60) r).2
  else if x % 8 = 4 then (if x / 8 / 8 % 3 = 0 then (rDo 3 (x / 8 % 4) (x / 8 / 4 % 2) 0 r).2 else (rDo 4 (x / 8 % 4) 0 0 r).2)
  else (rDo 5 (1 + x / 8 % 9) 0 0 r).2
theorem pC_turn {σ : xS} {r : Nat → Int32} {T W x b0 : Nat} (hx : x < 2 ^ 31) (hS : yS σ (b0 + 652) r T W) (hT : T < 89000) (hW : W < 2 ^ 23) : ∃ z, F_X5_takeTurn b0 (nI x) σ = some z ∧ xfr σ z (b0 + 652) (b0 + 695) ∧ yS z (b0 + 652) (rTn x r) (T + 99) (W + 7200) := by
  obtain ⟨q, hq⟩ : ∃ y, y = x / 8 := ⟨_, rfl⟩
  have hq2 : q < 2 ^ 28 := by omega
  have e1 : nI x / 8 = nI q := by rw [show (8 : Int32) = nI 8 from rfl, pk_div (by omega) (by decide) (by decide), hq]
  have e2 : nI x - nI q * 8 = nI (x % 8) := by rw [← e1, show (8 : Int32) = nI 8 from rfl, pk_rem (by omega) (by decide) (by decide)]
  have dv : ∀ (a d : Nat), a < 2 ^ 31 → 0 < d → d < 2 ^ 31 → nI a / nI d = nI (a / d) := fun a d ha h0 hd => pk_div ha h0 hd
  have rm : ∀ (a d : Nat), a < 2 ^ 31 → 0 < d → d < 2 ^ 31 → nI a - nI a / nI d * nI d = nI (a % d) := fun a d ha h0 hd => pk_rem ha h0 hd
  have d4 : nI q / 4 = nI (q / 4) := dv q 4 (by omega) (by decide) (by decide)
  have k4 : nI q - nI (q / 4) * 4 = nI (q % 4) := by rw [← d4]; exact rm q 4 (by omega) (by decide) (by decide)
  have d256 : nI q / 256 = nI (q / 256) := dv q 256 (by omega) (by decide) (by decide)
  have d8 : nI q / 8 = nI (q / 8) := dv q 8 (by omega) (by decide) (by decide)
  have m60 : ∀ a : Nat, a < 2 ^ 31 → nI a - nI a / 60 * 60 = nI (a % 60) := fun a ha => rm a 60 ha (by decide) (by decide)
  have m30 : ∀ a : Nat, a < 2 ^ 31 → nI a - nI a / 30 * 30 = nI (a % 30) := fun a ha => rm a 30 ha (by decide) (by decide)
  have m3 : ∀ a : Nat, a < 2 ^ 31 → nI a - nI a / 3 * 3 = nI (a % 3) := fun a ha => rm a 3 ha (by decide) (by decide)
  have m2 : ∀ a : Nat, a < 2 ^ 31 → nI a - nI a / 2 * 2 = nI (a % 2) := fun a ha => rm a 2 ha (by decide) (by decide)
  have m9 : ∀ a : Nat, a < 2 ^ 31 → nI a - nI a / 9 * 9 = nI (a % 9) := fun a ha => rm a 9 ha (by decide) (by decide)
  have p1 : ∀ a : Nat, (1 : Int32) + nI a = nI (1 + a) := fun a => nI_add 1 a
  have rT : ∀ a b c d (hv : vOK a b c d), ∃ z v, F_X3_attempt (b0 + 652) (nI a) (nI b) (nI c) (nI d) σ = some (v, z) ∧ xfr σ z (b0 + 652) (b0 + 695) ∧ yS z (b0 + 652) (rDo a b c d r).2 (T + 99) (W + 7200) := fun a b c d hv => by
    obtain ⟨z, v, q1, q2, q3, q4⟩ := pT_do hS (by omega) (by omega) hv
    exact ⟨z, v, q1, q3.sub (by omega) (by omega), q4⟩
  unfold F_X5_takeTurn rTn
  rw [← hq]
  simp only [xlet_s, e1, e2, k4, d4, d256, d8]
  have hcl : ∀ v : Nat, v < 8 → (nI (x % 8) = nI v ↔ x % 8 = v) := fun v hv => nI_eq (by omega) (by omega)
  by_cases c1 : x % 8 < 3
  · have hc : nI (x % 8) = 0 ∨ nI (x % 8) = 1 ∨ nI (x % 8) = 2 := by
      obtain e | e | e : x % 8 = 0 ∨ x % 8 = 1 ∨ x % 8 = 2 := by omega
      · exact Or.inl ((hcl 0 (by decide)).mpr e)
      · exact Or.inr (Or.inl ((hcl 1 (by decide)).mpr e))
      · exact Or.inr (Or.inr ((hcl 2 (by decide)).mpr e))
    rw [if_pos hc, if_pos c1, m60 _ (by omega), p1]
    obtain ⟨z, v, q1, q2, q3⟩ := rT 1 (q % 4) (1 + q / 4 % 60) 0 (Or.inl ⟨rfl, by omega, by omega, by omega⟩)
    refine ⟨z, ?_, q2, q3⟩
    rw [show F_X3_attempt (b0 + 652) 1 (nI (q % 4)) (nI (1 + q / 4 % 60)) 0 σ = _ from q1, xbI_s]
  · have hc : ¬ (nI (x % 8) = 0 ∨ nI (x % 8) = 1 ∨ nI (x % 8) = 2) := by
      intro h
      rcases h with h | h | h
      · have := (hcl 0 (by decide)).mp h; omega
      · have := (hcl 1 (by decide)).mp h; omega
      · have := (hcl 2 (by decide)).mp h; omega
    rw [if_neg hc, if_neg c1]
    by_cases c3 : x % 8 = 3
    · rw [if_pos (show nI (x % 8) = 3 from (hcl 3 (by decide)).mpr c3), if_pos c3, m30 _ (by omega), m60 _ (by omega), p1, p1]
      obtain ⟨z, v, q1, q2, q3⟩ := rT 2 (1 + q / 4 % 30) (q % 4) (1 + q / 256 % 60) (Or.inr (Or.inl ⟨rfl, by omega, by omega, by omega, by omega, by omega⟩))
      refine ⟨z, ?_, q2, q3⟩
      rw [show F_X3_attempt (b0 + 652) 2 (nI (1 + q / 4 % 30)) (nI (q % 4)) (nI (1 + q / 256 % 60)) σ = _ from q1, xbI_s]
    · rw [if_neg (show ¬ nI (x % 8) = 3 from fun p => c3 ((hcl 3 (by decide)).mp p)), if_neg c3]
      by_cases c4 : x % 8 = 4
      · rw [if_pos (show nI (x % 8) = 4 from (hcl 4 (by decide)).mpr c4), if_pos c4, m3 _ (by omega), m2 _ (by omega)]
        by_cases c5 : q / 8 % 3 = 0
        · rw [if_neg (show ¬ ¬ nI (q / 8 % 3) = 0 from fun p => p (by rw [c5]; rfl)), if_pos c5]
          obtain ⟨z, v, q1, q2, q3⟩ := rT 3 (q % 4) (q / 4 % 2) 0 (Or.inr (Or.inr (Or.inl ⟨rfl, by omega, by omega⟩)))
          refine ⟨z, ?_, q2, q3⟩
          rw [show F_X3_attempt (b0 + 652) 3 (nI (q % 4)) (nI (q / 4 % 2)) 0 σ = _ from q1, xbI_s]
        · rw [if_pos (show ¬ nI (q / 8 % 3) = 0 from nI_ne0 (by omega) (by omega)), if_neg c5]
          obtain ⟨z, v, q1, q2, q3⟩ := rT 4 (q % 4) 0 0 (Or.inr (Or.inr (Or.inr (Or.inl ⟨rfl, by omega⟩))))
          refine ⟨z, ?_, q2, q3⟩
          rw [show F_X3_attempt (b0 + 652) 4 (nI (q % 4)) 0 0 σ = _ from q1, xbI_s]
      · rw [if_neg (show ¬ nI (x % 8) = 4 from fun p => c4 ((hcl 4 (by decide)).mp p)), if_neg c4, m9 _ (by omega), p1]
        obtain ⟨z, v, q1, q2, q3⟩ := rT 5 (1 + q % 9) 0 0 (Or.inr (Or.inr (Or.inr (Or.inr ⟨rfl, by omega, by omega⟩))))
        refine ⟨z, ?_, q2, q3⟩
        rw [show F_X3_attempt (b0 + 652) 5 (nI (1 + q % 9)) 0 0 σ = _ from q1, xbI_s]
def nxt (x : Int64) : Int64 := (x * 6364136223846793005) + 1442695040888963407
def shf (x : Int64) : Int32 := ((x.toUInt64 >>> ((33 : Int32).toInt64.toUInt64 &&& Int64.toUInt64 63)).toInt64).toInt32
theorem nxt_d (x : Int64) : (x * 6364136223846793005) + 1442695040888963407 = nxt x := by unfold nxt; exact rfl
theorem shf_d (x : Int64) : ((x.toUInt64 >>> ((33 : Int32).toInt64.toUInt64 &&& Int64.toUInt64 63)).toInt64).toInt32 = shf x := by unfold shf; exact rfl
def rSimG (nx : Int64 → Int64) (tn : Int64 → (Nat → Int32) → (Nat → Int32)) : Nat → Int64 → (Nat → Int32) → (Nat → Int32)
  | 0, _, r => r
  | q + 1, x, r => rSimG nx tn q (nx x) (tn (nx x) r)
theorem rSimG_0 {nx : Int64 → Int64} {tn : Int64 → (Nat → Int32) → (Nat → Int32)} {x : Int64} {r : Nat → Int32} : rSimG nx tn 0 x r = r := by rw [rSimG]
theorem rSimG_s {nx : Int64 → Int64} {tn : Int64 → (Nat → Int32) → (Nat → Int32)} {q : Nat} {x : Int64} {r : Nat → Int32} : rSimG nx tn (q + 1) x r = rSimG nx tn q (nx x) (tn (nx x) r) := by rw [rSimG]
def rTx (y : Int64) (r : Nat → Int32) : Nat → Int32 := rTn (mN (shf y)) r
theorem rTx_d {y : Int64} {r : Nat → Int32} : rTx y r = rTn (mN (shf y)) r := by rw [rTx]
def rSim (q : Nat) (x : Int64) (r : Nat → Int32) : Nat → Int32 := rSimG nxt rTx q x r
theorem rSim_d {q : Nat} {x : Int64} {r : Nat → Int32} : rSim q x r = rSimG nxt rTx q x r := by rw [rSim]
theorem rSim_0 {x : Int64} {r : Nat → Int32} : rSim 0 x r = r := by rw [rSim_d, rSimG_0]
theorem rSim_s {q : Nat} {x : Int64} {r : Nat → Int32} : rSim (q + 1) x r = rSim q (nxt x) (rTn (mN (shf (nxt x))) r) := by rw [rSim_d, rSimG_s, rTx_d, ← rSim_d]
theorem shf_n (x : Int64) : mN (shf x) < 2 ^ 31 ∧ shf x = nI (mN (shf x)) := by
  obtain ⟨q, hq, e⟩ := y_shift x
  rw [shf_d] at e
  rw [e, mN_nI hq]
  exact ⟨hq, rfl⟩
theorem pL_sim5 {M b0 : Nat} {KK : xS → Option xR} (hM : M ≤ 60) : ∀ (q i fuel T W : Nat) (x : Int64) (r : Nat → Int32) (σ : xS), i + q = M → q < fuel → yS σ (b0 + 652) r T W → T + 99 * q < 89000 → W + 7200 * q < 2 ^ 23 → ∃ z, L_X5_simulate_28 b0 (nI M) KK fuel x (nI i) σ = KK z ∧ xfr σ z (b0 + 652) (b0 + 695) ∧ yS z (b0 + 652) (rSim q x r) (T + 99 * q) (W + 7200 * q) := by
  intro q
  induction q with
  | zero =>
    intro i fuel T W x r σ hi hf hS hT hW
    obtain ⟨g, rfl⟩ : ∃ g, fuel = g + 1 := ⟨fuel - 1, by omega⟩
    exact ⟨σ, by rw [L_X5_simulate_28, if_pos (nI_le (by omega) (by omega))], xfr.refl, by rw [rSim_0]; exact hS⟩
  | succ q ih =>
    intro i fuel T W x r σ hi hf hS hT hW
    obtain ⟨g, rfl⟩ : ∃ g, fuel = g + 1 := ⟨fuel - 1, by omega⟩
    obtain ⟨s1, s2⟩ := shf_n (nxt x)
    obtain ⟨z, e1, e2, e3⟩ := pC_turn s1 hS (by omega) (by omega)
    rw [← s2] at e1
    obtain ⟨z2, f1, f2, f3⟩ := ih (i + 1) g (T + 99) (W + 7200) (nxt x) _ z (by omega) (by omega) e3 (by omega) (by omega)
    refine ⟨z2, ?_, e2.trans f2, ?_⟩
    · rw [L_X5_simulate_28, if_neg (nI_ge (by omega) (by omega)), xlet_s, nxt_d, shf_d, e1, xbV_s, xlet_s, nI_1]
      exact f1
    · rw [rSim_s, show T + 99 * (q + 1) = T + 99 + 99 * q by omega, show W + 7200 * (q + 1) = W + 7200 + 7200 * q by omega]
      exact f3
section ZS
variable {A : zA} {T W : Nat}
theorem z_sim2 {x : Nat} {s : Int64} {c : Int32} (hc : c < 1 ∨ 60 < c) : zT x (F_X5_simulate x s c) 2 0 A A := by
  refine zT_look (fun σ hσ => ?_)
  unfold F_X5_simulate
  rw [pF_within2, if_pos (show c < 1 ∨ 60 < c from hc), xbI_s, F5_dem02, xbT_2]
theorem z_sim {M : Nat} (h : zAP A T W) (hT : T < 80000) (hW : W < 6000000) (s : Int64) (hM1 : 1 ≤ M) (hM : M ≤ 60) : ∃ v, ∀ x, zT x (F_X5_simulate x s (nI M)) 0 v A A := by
  obtain ⟨r2, hr2⟩ : ∃ y, y = rSim M s A.1 := ⟨_, rfl⟩
  obtain ⟨u, hu⟩ : ∃ y, y = rS4 r2 3 - rS4 A.1 3 := ⟨_, rfl⟩
  obtain ⟨hd, hhd⟩ : ∃ y, y = rS4 r2 4 - rS4 A.1 4 := ⟨_, rfl⟩
  obtain ⟨v, hv⟩ : ∃ y : Int32, y = (10000 * (if 999 < u then 999 else u)) + (if 9999 < hd then 9999 else hd) := ⟨_, rfl⟩
  refine ⟨v, fun x σ hσ => ?_⟩
  obtain ⟨m, t, tr, wt, sg, ms, L, w, h1, -, ht, hw⟩ := id h.1
  obtain ⟨z, c1, c2, c3⟩ := zQ.copy (p := x + 652) h.1 hσ.1 (by omega)
  have hS : yS z (x + 652) A.1 T W := ⟨m, t, tr, wt, sg, ms, L, w, h1, ht, hw, c3.to h1⟩
  obtain ⟨KK, hKK⟩ : ∃ K, K = (fun (σ6 : xS) => xbI (F_X3_sumOfWriters (x + 652) 4 σ6) (fun (zz8 : Int32) (σ7 : xS) => xbI (F_X3_sumOfWriters (x + 3) 4 σ7) (fun (zz10 : Int32) (σ9 : xS) => xlet (zz8 - zz10) (fun (zz11 : Int32) => xbI (F_X3_sumOfWriters (x + 652) 5 σ9) (fun (zz13 : Int32) (σ12 : xS) => xbI (F_X3_sumOfWriters (x + 3) 5 σ12) (fun (zz15 : Int32) (σ14 : xS) => xlet (zz13 - zz15) (fun (zz16 : Int32) => xlet (if 999 < zz11 then 999 else zz11) (fun (zz17 : Int32) => xlet (if 9999 < zz16 then 9999 else zz16) (fun (zz18 : Int32) => (some (0, ((10000 * zz17) + zz18), σ14) : Option xR)))))))))) := ⟨_, rfl⟩
  obtain ⟨z2, d1, d2, d3⟩ := pL_sim5 (M := M) (b0 := x) (KK := KK) hM M 0 1000 T W s A.1 z (by omega) (by omega) hS (by omega) (by omega)
  rw [← hr2] at d3
  have fr : xfr σ z2 (x + 652) (x + 695) := (c2.sub (by omega) (by omega)).trans d2
  have hA : zAM z2 x A := hσ.fr fr (by omega) (by omega)
  have hQ := hA.1.to h1
  obtain ⟨m', t', tr', wt', sg', ms', L', w', h1', -, -, hQ'⟩ := d3
  have a1 : F_X3_sumOfWriters (x + 652) 4 z2 = some (rS4 r2 3, z2) := pT_sum (w := 4) h1' hQ' (by decide)
  have a2 : F_X3_sumOfWriters (x + 3) 4 z2 = some (rS4 A.1 3, z2) := pT_sum (w := 4) h1 hQ (by decide)
  have a3 : F_X3_sumOfWriters (x + 652) 5 z2 = some (rS4 r2 4, z2) := pT_sum (w := 5) h1' hQ' (by decide)
  have a4 : F_X3_sumOfWriters (x + 3) 5 z2 = some (rS4 A.1 4, z2) := pT_sum (w := 5) h1 hQ (by decide)
  have hKz : KK z2 = some (0, v, z2) := by
    rw [hKK]
    dsimp only
    rw [a1, xbI_s, a2, xbI_s, xlet_s, a3, xbI_s, a4, xbI_s, xlet_s, xlet_s, xlet_s, ← hu, ← hhd, hv]
  rw [hKz] at d1
  rw [hKK] at d1
  refine ⟨z2, ?_, fr.sub (by omega) (by omega), hA⟩
  unfold F_X5_simulate
  rw [show F_X5_isWithin (nI M) 1 60 σ = _ from pF_wiN (a := 1) (b := 60) hM1 hM (by decide), xbI_s, F5_dem1, xbT_0, c1, xbV_s]
  exact d1
end ZS
