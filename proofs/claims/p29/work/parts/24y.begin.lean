/-! WHAT A NEW STATE HOLDS -/
def xfr (σ σ2 : xS) (lo hi : Nat) : Prop := ∀ i, (i < lo ∨ hi ≤ i) → σ2 i = σ i
theorem xfr.sub {σ σ2 : xS} {lo hi lo2 hi2 : Nat} (h : xfr σ σ2 lo hi) (h1 : lo2 ≤ lo) (h2 : hi ≤ hi2) : xfr σ σ2 lo2 hi2 := fun i hi => h i (by omega)
theorem xfr.trans {σ σ2 σ3 : xS} {lo hi : Nat} (h : xfr σ σ2 lo hi) (h2 : xfr σ2 σ3 lo hi) : xfr σ σ3 lo hi := fun i hi => (h2 i hi).trans (h i hi)
theorem xfr.refl {σ : xS} {lo hi : Nat} : xfr σ σ lo hi := fun _ _ => rfl
theorem xu_same {σ : xS} {o k : Nat} {v : Int32} : xu σ o k v o = upd (σ o) k v := if_pos rfl
theorem xu_other {σ : xS} {o k i : Nat} {v : Int32} (h : i ≠ o) : xu σ o k v i = σ i := if_neg h
theorem xfr_xu {σ : xS} {o k lo hi : Nat} {v : Int32} (h1 : lo ≤ o) (h2 : o < hi) : xfr σ (xu σ o k v) lo hi := fun i hi => xu_other (by omega)
theorem xin_nI {i n : Nat} (h : i < n) (hn : n < 2 ^ 31) : xin (nI i) n = true := by
  have h1 := nI_in h hn
  unfold xin
  simp only [Bool.not_eq_true', Bool.or_eq_false_iff, decide_eq_false_iff_not]
  exact ⟨fun q => h1 (Or.inl q), fun q => h1 (Or.inr q)⟩
/-- a pair at the start -/
def xBg2 (σ : xS) (b : Nat) : Prop := σ (b + 1) 3 = 0 ∧ σ b 2 = 0 ∧ σ b 3 = 1 ∧ σ b 4 = 0 ∧ σ b 5 = 0 ∧ σ b 6 = 0 ∧ σ b 7 = 0 ∧ σ (b + 5) 3 = 0 ∧ σ b 9 = 0 ∧ σ b 10 = 0 ∧ σ b 11 = 0 ∧ σ b 12 = -1 ∧ σ b 13 = 0
theorem xBg2_ex {σ σ2 : xS} {b : Nat} (h : xBg2 σ b) (hx : ∀ i, b ≤ i → i < b + 9 → σ2 i = σ i) : xBg2 σ2 b := by
  unfold xBg2
  rw [hx b (by omega) (by omega), hx (b + 1) (by omega) (by omega), hx (b + 5) (by omega) (by omega)]
  exact h
theorem pF_X2_begin (b : Nat) (σ : xS) : ∃ z, F_X2_begin b σ = some z ∧ xfr σ z b (b + 9) ∧ xBg2 z b := by
  refine ⟨_, rfl, ?_, ?_⟩
  · intro i hi
    have h1 : i ≠ b := by omega
    have h2 : i ≠ b + 1 := by omega
    have h3 : i ≠ b + 5 := by omega
    simp only [xu, if_neg h1, if_neg h2, if_neg h3]
  · unfold xBg2
    simp [xu, upd]
theorem pL_X3_begin {p : Nat} {KK : xS → Option xS} : ∀ (d j fuel : Nat) (σ : xS), j + d = 4 → d < fuel → ∃ z, L_X3_begin_20 p KK fuel (nI j) σ = KK z ∧ xfr σ z (p + 7 + 9 * j) (p + 43) ∧ ∀ k, j ≤ k → k < 4 → xBg2 z (p + 7 + 9 * k) := by
  intro d
  induction d with
  | zero =>
    intro j fuel σ hj hf
    obtain ⟨f, rfl⟩ : ∃ f, fuel = f + 1 := ⟨fuel - 1, by omega⟩
    obtain rfl : j = 4 := by omega
    refine ⟨σ, ?_, xfr.refl, fun k h1 h2 => absurd h2 (by omega)⟩
    rw [L_X3_begin_20, if_pos (by decide)]
  | succ d ih =>
    intro j fuel σ hj hf
    obtain ⟨f, rfl⟩ : ∃ f, fuel = f + 1 := ⟨fuel - 1, by omega⟩
    obtain ⟨z1, e1, f1, b1⟩ := pF_X2_begin (p + 7 + 9 * j) σ
    obtain ⟨z, e2, f2, b2⟩ := ih (j + 1) f z1 (by omega) (by omega)
    refine ⟨z, ?_, ?_, ?_⟩
    · rw [L_X3_begin_20, if_neg (show ¬ (4 : Int32) ≤ nI j from nI_ge (a := j) (b := 4) (by omega) (by decide)), if_pos (xin_nI (by omega) (by decide)), nI_clamp (by omega), e1]
      show L_X3_begin_20 p KK f (nI j + 1) z1 = _
      rw [nI_1, e2]
    · exact (f1.sub (by omega) (by omega)).trans (f2.sub (by omega) (by omega))
    · intro k h1 h2
      rcases Nat.eq_or_lt_of_le h1 with h | h
      · subst h
        exact xBg2_ex b1 (fun i h3 h4 => f2 i (by omega))
      · exact b2 k h h2
theorem pF_X3_begin (p : Nat) (w : Int32) (σ : xS) : ∃ z, F_X3_begin p w σ = some z ∧ xfr σ z p (p + 43) ∧ z (p + 1) = σ (p + 1) ∧ z p 0 = w ∧ z p 1 = 0 ∧ z (p + 2) 3 = 0 ∧ ∀ k, k < 4 → xBg2 z (p + 7 + 9 * k) := by
  obtain ⟨z, e, f, b⟩ := pL_X3_begin (p := p) (KK := fun s => some s) 4 0 1000 (xu (xu (xu σ p 0 w) p 1 0) (p + 2) 3 0) (by omega) (by omega)
  refine ⟨z, e, ?_, ?_, ?_, ?_, ?_, fun k h => b k (by omega) h⟩
  · intro i hi
    rw [f i (by omega)]
    rw [xu_other (by omega), xu_other (by omega), xu_other (by omega)]
  · rw [f _ (by omega), xu_other (by omega), xu_other (by omega), xu_other (by omega)]
  · rw [f _ (by omega), xu_other (by omega), xu_same, xu_same]; rfl
  · rw [f _ (by omega), xu_other (by omega), xu_same, xu_same]; rfl
  · rw [f _ (by omega), xu_same]; rfl
theorem pF_X3_takeFirst (p : Nat) (σ : xS) : ∃ z, F_X3_takeFirstSettings p σ = some z ∧ xfr σ z (p + 1) (p + 2) ∧ z (p + 1) 0 = 3 ∧ z (p + 1) 1 = 6 ∧ z (p + 1) 2 = 20 ∧ z (p + 1) 3 = 3 := by
  refine ⟨xu (xu (xu (xu σ (p + 1) 0 3) (p + 1) 1 6) (p + 1) 2 20) (p + 1) 3 3, rfl, ?_, ?_⟩
  · intro i hi
    rw [xu_other (by omega), xu_other (by omega), xu_other (by omega), xu_other (by omega)]
  · simp [xu, upd]
/-- a state at the start -/
def xBg3 (σ : xS) (p : Nat) : Prop := σ p 0 = 1 ∧ σ p 1 = 0 ∧ (σ (p + 1) 0 = 3 ∧ σ (p + 1) 1 = 6 ∧ σ (p + 1) 2 = 20 ∧ σ (p + 1) 3 = 3) ∧ σ (p + 2) 3 = 0 ∧ ∀ k, k < 4 → xBg2 σ (p + 7 + 9 * k)
theorem xBg3_ex {σ σ2 : xS} {p : Nat} (h : xBg3 σ p) (hx : ∀ i, p ≤ i → i < p + 43 → σ2 i = σ i) : xBg3 σ2 p := by
  unfold xBg3
  rw [hx p (by omega) (by omega), hx (p + 1) (by omega) (by omega), hx (p + 2) (by omega) (by omega)]
  exact ⟨h.1, h.2.1, h.2.2.1, h.2.2.2.1, fun k hk => xBg2_ex (h.2.2.2.2 k hk) (fun i h1 h2 => hx i (by omega) (by omega))⟩
/-- the reference's row at the start -/
def xR0 : Nat → Int32 := fun i => if i = 0 then 1 else if i = 3 then 3 else if i = 4 then 6 else if i = 5 then 20 else if i = 6 then 3 else if i = 32 ∨ i = 71 ∨ i = 110 ∨ i = 149 then 1 else if i = 42 ∨ i = 81 ∨ i = 120 ∨ i = 159 then -1 else 0
section XKN
variable {R' : Type} {Γ : xG} {D : va_G} {ad : Nat → Nat} {N : Nat} {Sh : xSh} {Q : R' → State → Prop} {k n : Nat} {σ σA : xS} {ex : Option R'} {pc : Nat} {lv : List (Nat × Value)} {st : List Value}
noncomputable def xifC (s σA : xS) (ex : Option R') : Option R' := @ite _ (s = σA) (Classical.propDecidable _) ex none
theorem x_known {e1 : Option xS} (h : e1 = some σA) (kk : xM Γ D ad N Sh Q k n (xbV e1 (fun s => xifC s σA ex)) σ pc lv st) : xM Γ D ad N Sh Q k n ex σ pc lv st := by
  subst h
  have e : xbV (some σA) (fun s => xifC s σA ex) = ex := if_pos rfl
  rwa [e] at kk
theorem x_ifC (kk : xM Γ D ad N Sh Q k n ex σA pc lv st) (s : xS) : xM Γ D ad N Sh Q k n (xifC s σA ex) s pc lv st := by
  by_cases h : s = σA
  · subst h
    have e : xifC s s ex = ex := if_pos rfl
    rwa [e]
  · have e : xifC s σA ex = none := if_neg h
    rw [e]
    exact xM_none
end XKN
theorem shPs_of {D : va_G} {ad : Nat → Nat} {n : Nat} {g : Nat → Nat} {f : Nat → Option Nat} (h : ∀ j, f j = if j < n then some (ad (g j)) else none) : (fun _ : Nat → Int32 => (Sum.inl (D.1 104, n, .inr (.inr (.inr (.inr f)))) : va_E)) = shPs D ad n g := by
  rw [show f = _ from funext h]
  rfl
theorem shOs_of {D : va_G} {ad : Nat → Nat} {n : Nat} {g : Nat → Nat} {f : Nat → Option Nat} (h : ∀ j, f j = if j < n then some (ad (g j)) else none) : (fun _ : Nat → Int32 => (Sum.inl (D.1 105, n, .inr (.inr (.inr (.inr f)))) : va_E)) = shOs D ad n g := by
  rw [show f = _ from funext h]
  rfl

/-! the reference's row at the start -/
theorem pF_X6_lay {a k w : Nat} {v : Int32} {σ : xS} (hk : k < 4) (hw : w < 39) : F_X6_lay 187 a (nI k) (nI w) v σ = some (xu σ a (31 + 39 * k + w) v) := by
  have e : ((31 : Int32) + (39 * nI k)) + nI w = nI (31 + 39 * k + w) := by
    rw [show (31 : Int32) = nI 31 from rfl, show (39 : Int32) = nI 39 from rfl, pk_mul, nI_add, nI_add]
  unfold F_X6_lay
  rw [e, if_pos (xin_nI (by omega) (by decide)), nI_clamp (by omega)]
  rfl
theorem pF_X6_of {a k w : Nat} {σ : xS} (hk : k < 4) (hw : w < 39) : F_X6_of 187 a (nI k) (nI w) σ = some (σ a (31 + 39 * k + w), σ) := by
  have e : ((31 : Int32) + (39 * nI k)) + nI w = nI (31 + 39 * k + w) := by
    rw [show (31 : Int32) = nI 31 from rfl, show (39 : Int32) = nI 39 from rfl, pk_mul, nI_add, nI_add]
  unfold F_X6_of
  rw [e, if_pos (xin_nI (by omega) (by decide)), nI_clamp (by omega)]
  rfl
theorem pL_X6_clear2 {a : Nat} {KK : xS → Option xS} : ∀ (d j fuel : Nat) (σ : xS), j + d = 187 → d < fuel → ∃ z, L_X6_clear_2 187 a KK fuel (nI j) σ = KK z ∧ xfr σ z a (a + 1) ∧ ∀ i, z a i = if j ≤ i ∧ i < 187 ∧ ¬ (3 ≤ i ∧ i < 7) then 0 else σ a i := by
  intro d
  induction d with
  | zero =>
    intro j fuel σ hj hf
    obtain ⟨f, rfl⟩ : ∃ f, fuel = f + 1 := ⟨fuel - 1, by omega⟩
    obtain rfl : j = 187 := by omega
    refine ⟨σ, ?_, xfr.refl, fun i => (if_neg (by omega)).symm⟩
    rw [L_X6_clear_2, if_pos (by decide)]
  | succ d ih =>
    intro j fuel σ hj hf
    obtain ⟨f, rfl⟩ : ∃ f, fuel = f + 1 := ⟨fuel - 1, by omega⟩
    have hin : xin (nI j) 187 = true := xin_nI (by omega) (by decide)
    have h0 : ¬ (187 : Int32) ≤ nI j := nI_ge (a := j) (b := 187) (by omega) (by decide)
    have hst : ∀ v, (v = if 3 ≤ j ∧ j < 7 then σ a j else 0) → (L_X6_clear_2 187 a KK (f + 1) (nI j) σ = L_X6_clear_2 187 a KK f (nI (j + 1)) (xu σ a j v)) → ∃ z, L_X6_clear_2 187 a KK (f + 1) (nI j) σ = KK z ∧ xfr σ z a (a + 1) ∧ ∀ i, z a i = if j ≤ i ∧ i < 187 ∧ ¬ (3 ≤ i ∧ i < 7) then 0 else σ a i := by
      intro v hv he
      obtain ⟨z, e2, f2, b2⟩ := ih (j + 1) f (xu σ a j v) (by omega) (by omega)
      refine ⟨z, he.trans e2, (xfr_xu (Nat.le_refl _) (Nat.lt_succ_self _)).trans f2, fun i => ?_⟩
      rw [b2 i, xu_same]
      by_cases hi : i = j
      · subst hi
        rw [if_neg (by omega)]
        show (if i = i then v else σ a i) = _
        rw [if_pos rfl, hv]
        by_cases h : 3 ≤ i ∧ i < 7
        · rw [if_pos h, if_neg (by omega)]
        · rw [if_neg h, if_pos (by omega)]
      · rw [show upd (σ a) j v i = σ a i from if_neg hi]
        by_cases h : j + 1 ≤ i ∧ i < 187 ∧ ¬ (3 ≤ i ∧ i < 7)
        · rw [if_pos h, if_pos (by omega)]
        · rw [if_neg h, if_neg (by omega)]
    by_cases h3 : j < 3
    · refine hst 0 (by rw [if_neg (by omega)]) ?_
      rw [L_X6_clear_2, if_neg h0, if_pos (show nI j < (3 : Int32) from nI_lt (a := j) (b := 3) h3 (by decide)), if_pos hin, nI_clamp (by omega)]
      show L_X6_clear_2 187 a KK f (nI j + 1) (xu σ a j 0) = _
      rw [nI_1]
    · by_cases h7 : 7 ≤ j
      · refine hst 0 (by rw [if_neg (by omega)]) ?_
        rw [L_X6_clear_2, if_neg h0, if_neg (show ¬ nI j < (3 : Int32) from nI_nlt (a := j) (b := 3) (by omega) (by omega)), if_pos (show (7 : Int32) ≤ nI j from nI_le (a := 7) (b := j) h7 (by omega)), if_pos hin, nI_clamp (by omega)]
        show L_X6_clear_2 187 a KK f (nI j + 1) (xu σ a j 0) = _
        rw [nI_1]
      · refine hst (σ a j) (by rw [if_pos (by omega)]) ?_
        rw [L_X6_clear_2, if_neg h0, if_neg (show ¬ nI j < (3 : Int32) from nI_nlt (a := j) (b := 3) (by omega) (by omega)), if_neg (show ¬ (7 : Int32) ≤ nI j from nI_ge (a := j) (b := 7) (by omega) (by decide)), if_pos hin]
        dsimp only [xlet]
        rw [if_pos hin, nI_clamp (by omega)]
        show L_X6_clear_2 187 a KK f (nI j + 1) (xu σ a j (σ a j)) = _
        rw [nI_1]
theorem pL_X6_clear42 {a : Nat} {KK : xS → Option xS} : ∀ (d j fuel : Nat) (σ : xS), j + d = 4 → d < fuel → ∃ z, L_X6_clear_42 187 a KK fuel (nI j) σ = KK z ∧ xfr σ z a (a + 1) ∧ (∀ k, j ≤ k → k < 4 → z a (31 + 39 * k + 1) = 1 ∧ z a (31 + 39 * k + 11) = -1) ∧ ∀ i, (∀ k, j ≤ k → k < 4 → i ≠ 31 + 39 * k + 1 ∧ i ≠ 31 + 39 * k + 11) → z a i = σ a i := by
  intro d
  induction d with
  | zero =>
    intro j fuel σ hj hf
    obtain ⟨f, rfl⟩ : ∃ f, fuel = f + 1 := ⟨fuel - 1, by omega⟩
    obtain rfl : j = 4 := by omega
    refine ⟨σ, ?_, xfr.refl, fun k h1 h2 => absurd h2 (by omega), fun _ _ => rfl⟩
    rw [L_X6_clear_42, if_pos (by decide)]
  | succ d ih =>
    intro j fuel σ hj hf
    obtain ⟨f, rfl⟩ : ∃ f, fuel = f + 1 := ⟨fuel - 1, by omega⟩
    obtain ⟨z, e2, f2, b2, c2⟩ := ih (j + 1) f (xu (xu σ a (31 + 39 * j + 1) 1) a (31 + 39 * j + 11) (-1)) (by omega) (by omega)
    have hz : ∀ i, (∀ k, j + 1 ≤ k → k < 4 → i ≠ 31 + 39 * k + 1 ∧ i ≠ 31 + 39 * k + 11) → z a i = if i = 31 + 39 * j + 11 then -1 else if i = 31 + 39 * j + 1 then 1 else σ a i := by
      intro i hi
      rw [c2 i hi, xu_same, xu_same]
      rfl
    refine ⟨z, ?_, ((xfr_xu (Nat.le_refl _) (Nat.lt_succ_self _)).trans (xfr_xu (Nat.le_refl _) (Nat.lt_succ_self _))).trans f2, ?_, ?_⟩
    · rw [L_X6_clear_42, if_neg (show ¬ (4 : Int32) ≤ nI j from nI_ge (a := j) (b := 4) (by omega) (by decide)), show (F_X6_lay 187 a (nI j) 1 1 σ) = _ from pF_X6_lay (w := 1) (by omega) (by omega)]
      show xbV (F_X6_lay 187 a (nI j) 11 (-1) (xu σ a (31 + 39 * j + 1) 1)) _ = _
      rw [show (F_X6_lay 187 a (nI j) 11 (-1) (xu σ a (31 + 39 * j + 1) 1)) = _ from pF_X6_lay (w := 11) (by omega) (by omega)]
      show L_X6_clear_42 187 a KK f (nI j + 1) _ = _
      rw [nI_1, e2]
    · intro k h1 h2
      by_cases h : k = j
      · subst h
        rw [hz _ (fun q h1 h2 => ⟨by omega, by omega⟩), hz _ (fun q h1 h2 => ⟨by omega, by omega⟩)]
        exact ⟨by rw [if_neg (by omega), if_pos rfl], if_pos rfl⟩
      · exact b2 k (by omega) h2
    · intro i hi
      rw [hz i (fun q h1 h2 => hi q (by omega) h2), if_neg (hi j (Nat.le_refl _) (by omega)).2, if_neg (hi j (Nat.le_refl _) (by omega)).1]
/-- clear: all as at first but the settings -/
def mClear (r : Nat → Int32) (w : Int32) : Nat → Int32 := fun i => if i = 0 then w else if i = 32 ∨ i = 71 ∨ i = 110 ∨ i = 149 then 1 else if i = 42 ∨ i = 81 ∨ i = 120 ∨ i = 159 then -1 else if i < 187 ∧ ¬ (3 ≤ i ∧ i < 7) then 0 else r i
def xset (σ : xS) (a : Nat) (r : Nat → Int32) : xS := fun i => if i = a then r else σ i
theorem xset_of {σ z : xS} {a : Nat} {r : Nat → Int32} (h : xfr σ z a (a + 1)) (h2 : ∀ i, z a i = r i) : z = xset σ a r := by
  funext i
  by_cases hi : i = a
  · subst hi
    rw [xset, if_pos rfl]
    exact funext h2
  · rw [xset, if_neg hi]
    exact h i (by omega)
theorem pF_X6_clear (a : Nat) (w : Int32) (σ : xS) : F_X6_clear 187 a w σ = some (xset σ a (mClear (σ a) w)) := by
  unfold F_X6_clear
  obtain ⟨z1, e1, f1, b1⟩ := pL_X6_clear2 (a := a) (KK := (fun (σ1 : xS) => if xin (0 : Int32) 187 = true then (xlet (xu σ1 a (0 : Int32).toNatClampNeg w) (fun (σ2 : xS) => L_X6_clear_42 187 a (fun (σ3 : xS) => some σ3) 1000 0 σ2)) else none)) 187 0 1000 σ (by omega) (by omega)
  obtain ⟨z, e2, f2, b2, c2⟩ := pL_X6_clear42 (a := a) (KK := (fun (σ3 : xS) => some σ3)) 4 0 1000 (xu z1 a 0 w) (by omega) (by omega)
  refine (show _ = _ from e1).trans ?_
  show (if xin (0 : Int32) 187 = true then (xlet (xu z1 a (0 : Int32).toNatClampNeg w) (fun (σ2 : xS) => L_X6_clear_42 187 a (fun (σ3 : xS) => some σ3) 1000 0 σ2)) else none) = _
  rw [if_pos (by decide)]
  refine (show _ = _ from e2).trans ?_
  refine congrArg some ?_
  refine xset_of (f1.trans ((xfr_xu (Nat.le_refl _) (Nat.lt_succ_self _)).trans f2)) (fun i => ?_)
  unfold mClear
  by_cases h0 : i = 0
  · subst h0
    rw [c2 0 (fun k _ _ => ⟨by omega, by omega⟩), xu_same, if_pos rfl]
    rfl
  rw [if_neg h0]
  by_cases h1 : i = 32 ∨ i = 71 ∨ i = 110 ∨ i = 149
  · rw [if_pos h1]
    rcases h1 with h | h | h | h <;> subst h
    · exact (b2 0 (by omega) (by omega)).1
    · exact (b2 1 (by omega) (by omega)).1
    · exact (b2 2 (by omega) (by omega)).1
    · exact (b2 3 (by omega) (by omega)).1
  rw [if_neg h1]
  by_cases h2 : i = 42 ∨ i = 81 ∨ i = 120 ∨ i = 159
  · rw [if_pos h2]
    rcases h2 with h | h | h | h <;> subst h
    · exact (b2 0 (by omega) (by omega)).2
    · exact (b2 1 (by omega) (by omega)).2
    · exact (b2 2 (by omega) (by omega)).2
    · exact (b2 3 (by omega) (by omega)).2
  rw [if_neg h2, c2 i (fun k _ _ => ⟨by omega, by omega⟩), xu_same, show upd (z1 a) 0 w i = z1 a i from if_neg h0, b1 i]
  by_cases h3 : i < 187 ∧ ¬ (3 ≤ i ∧ i < 7)
  · rw [if_pos h3, if_pos (by omega)]
  · rw [if_neg h3, if_neg (by omega)]
def mFirst (r : Nat → Int32) : Nat → Int32 := upd (upd (upd (upd r 3 3) 4 6) 5 20) 6 3
theorem pF_X6_first (a : Nat) (σ : xS) : F_X6_firstSettings 187 a σ = some (xset σ a (mFirst (σ a))) := by
  have e : F_X6_firstSettings 187 a σ = some (xu (xu (xu (xu σ a 3 3) a 4 6) a 5 20) a 6 3) := rfl
  rw [e]
  refine congrArg some ?_
  refine xset_of (fun i hi => ?_) (fun i => ?_)
  · rw [xu_other (by omega), xu_other (by omega), xu_other (by omega), xu_other (by omega)]
  · rw [xu_same, xu_same, xu_same, xu_same]
    rfl
