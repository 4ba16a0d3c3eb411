/-! THE TEXT: what a command does -/
def rDo (k a b d : Nat) (r : Nat → Int32) : Bool × (Nat → Int32) :=
  if k = 1 then (if a < mN (r 0) ∧ ¬ (9999 : Int32) < rRow r a 0 + nI b then (true, rW r a (nI b)) else (false, r))
  else if k = 2 then (if b < mN (r 0) ∧ mN (r 2) < 8 then (true, rPlan r (mN (r 2)) (nI a) (nI b) (nI d)) else (false, r))
  else if k = 3 then (if a < mN (r 0) then (true, rHold r a (nI b)) else (false, r))
  else if k = 4 then (if a < mN (r 0) then (true, rFlush r a) else (false, r))
  else (true, rTicks 0 (mN (r 0)) a r)
/-- a command's numbers are in range -/
def vOK (k a b d : Nat) : Prop := (k = 1 ∧ a ≤ 3 ∧ 1 ≤ b ∧ b ≤ 500) ∨ (k = 2 ∧ 1 ≤ a ∧ a ≤ 99 ∧ b ≤ 3 ∧ 1 ≤ d ∧ d ≤ 500) ∨ (k = 3 ∧ a ≤ 3 ∧ b ≤ 1) ∨ (k = 4 ∧ a ≤ 3) ∨ (k = 5 ∧ 1 ≤ a ∧ a ≤ 99)
theorem rOK.mm {r : Nat → Int32} {m t tr wt sz ms L W : Nat} {lo : Nat → Nat} (h : rOK r m t tr wt sz ms L lo W) : mN (r 0) = m := by rw [h.1.1, mN_nI (by have := h.m4; omega)]
theorem rBad_ge {m a : Nat} (h : ¬ a < m) (ha : a < 2 ^ 31) : rBad m (nI a) := Or.inr (nI_le (by omega) ha)
theorem b01 {b : Nat} (h : b ≤ 1) : nI b = 0 ∨ nI b = 1 := by
  obtain e | e : b = 0 ∨ b = 1 := by omega
  · subst e; exact Or.inl rfl
  · subst e; exact Or.inr rfl
/-- the class does a command -/
theorem pT_do {σ : xS} {p T W k a b d : Nat} {r : Nat → Int32} (h : yS σ p r T W) (hT : T < 90000) (hW : W < 2 ^ 24) (hv : vOK k a b d) : ∃ z v, F_X3_attempt p (nI k) (nI a) (nI b) (nI d) σ = some (v, z) ∧ (v = -1 ↔ (rDo k a b d r).1 = false) ∧ xfr σ z p (p + 43) ∧ yS z p (rDo k a b d r).2 (T + 99) (W + 7200) := by
  obtain ⟨m, t, tr, wt, sz, ms, L, w, h1, ht, hw, hQ⟩ := h
  have hm4 := h1.m4
  have hL8 := h1.L8
  have em := h1.mm
  have eL := h1.LL
  have keep : yS σ p r (T + 99) (W + 7200) := ⟨m, t, tr, wt, sz, ms, L, w, h1, by omega, by omega, hQ⟩
  rcases hv with ⟨rfl, ha, hb1, hb⟩ | ⟨rfl, ha1, ha, hb, hd1, hd⟩ | ⟨rfl, ha, hb⟩ | ⟨rfl, ha⟩ | ⟨rfl, ha1, ha⟩
  · unfold rDo
    rw [if_pos rfl, em]
    by_cases c1 : a < m
    · by_cases c2 : (9999 : Int32) < rRow r a 0 + nI b
      · rw [if_neg (fun q => q.2 c2)]
        refine ⟨σ, -1, pT_att0 (f := 3) ?_ (by decide), ⟨fun _ => rfl, fun _ => rfl⟩, xfr.refl, keep⟩
        rw [show F_X3_faultOf p (nI 1) (nI a) (nI b) (nI d) σ = _ from pT_fW, pF_faultOfNote hQ.1 h1.1.1 c1 hm4 hb1 hb, if_pos c2, xbI_s]
      · rw [if_pos ⟨c1, c2⟩]
        obtain ⟨z, e1, e2, e3⟩ := pT_attW (c := nI d) (by omega) h1 hQ c1 hb1 hb c2
        obtain ⟨j, hj, ej⟩ := rW_6 h1 c1 hb c2
        refine ⟨z, _, e1, ⟨fun q => ?_, fun q => Bool.noConfusion q⟩, e2, m, t, tr, wt, sz, ms, L, w + 6, h1.write (by omega) rLo_le1 c1 hb c2, by omega, by omega, e3⟩
        rw [ej] at q
        exact absurd q (nI_nm1 (by omega))
    · rw [if_neg (fun q => c1 q.1)]
      refine ⟨σ, -1, pT_att0 (f := 1) ?_ (by decide), ⟨fun _ => rfl, fun _ => rfl⟩, xfr.refl, keep⟩
      rw [show F_X3_faultOf p (nI 1) (nI a) (nI b) (nI d) σ = _ from pT_fW, pT_fNote0 hQ.1 h1.1.1 (rBad_ge c1 (by omega)), xbI_s]
  · unfold rDo
    rw [if_neg (by decide), if_pos rfl, em, eL]
    by_cases c1 : b < m
    · by_cases c2 : L < 8
      · rw [if_pos ⟨c1, c2⟩]
        obtain ⟨z, e1, e2, e3⟩ := pT_attP hQ c2 h1.1.1 c1 hm4 ha1 ha hd1 hd
        refine ⟨z, _, e1, ⟨fun q => absurd q (nI_nm1 (by omega)), fun q => Bool.noConfusion q⟩, e2, m, t, tr, wt, sz, ms, L + 1, w, h1.plan c2 c1 hd1 hd, by omega, by omega, e3⟩
      · rw [if_neg (fun q => c2 q.2)]
        refine ⟨σ, -1, pT_att0 (f := 3) ?_ (by decide), ⟨fun _ => rfl, fun _ => rfl⟩, xfr.refl, keep⟩
        rw [show F_X3_faultOf p (nI 2) (nI a) (nI b) (nI d) σ = _ from pT_fP2 hQ hL8 h1.1.1 c1 hm4 ha1 ha hd1 hd, if_pos (by omega)]
    · rw [if_neg (fun q => c1 q.1)]
      refine ⟨σ, -1, pT_att0 (f := 1) ?_ (by decide), ⟨fun _ => rfl, fun _ => rfl⟩, xfr.refl, keep⟩
      exact pT_fP0 (hQ.1.1.trans h1.1.1) (rBad_ge c1 (by omega))
  · unfold rDo
    rw [if_neg (by decide), if_neg (by decide), if_pos rfl, em]
    by_cases c1 : a < m
    · rw [if_pos c1]
      obtain ⟨z, e1, e2, e3⟩ := pT_attH (c := nI d) (by omega) h1 hQ c1 (b01 hb)
      obtain ⟨j, hj, ej⟩ := rHold_6 h1 c1 (b01 hb)
      refine ⟨z, _, e1, ⟨fun q => ?_, fun q => Bool.noConfusion q⟩, e2, m, t, tr, wt, sz, ms, L, w + 6, h1.hold (by omega) rLo_le1 c1 (b01 hb), by omega, by omega, e3⟩
      rw [ej] at q
      exact absurd q (nI_nm1 (by omega))
    · rw [if_neg c1]
      exact ⟨σ, -1, (pT_att34 (hQ.1.1.trans h1.1.1) (rBad_ge c1 (by omega)) (Or.inl rfl)).2, ⟨fun _ => rfl, fun _ => rfl⟩, xfr.refl, keep⟩
  · unfold rDo
    rw [if_neg (by decide), if_neg (by decide), if_neg (by decide), if_pos rfl, em]
    by_cases c1 : a < m
    · rw [if_pos c1]
      obtain ⟨z, e1, e2, e3⟩ := pT_attF (c := nI b) (d := nI d) (by omega) h1 hQ c1
      obtain ⟨j, hj, ej⟩ := rFlush_6 h1 c1
      refine ⟨z, _, e1, ⟨fun q => ?_, fun q => Bool.noConfusion q⟩, e2, m, t, tr, wt, sz, ms, L, w + 6, h1.flush (by omega) rLo_le1 c1, by omega, by omega, e3⟩
      rw [ej] at q
      exact absurd q (nI_nm1 (by omega))
    · rw [if_neg c1]
      exact ⟨σ, -1, (pT_att34 (hQ.1.1.trans h1.1.1) (rBad_ge c1 (by omega)) (Or.inr rfl)).2, ⟨fun _ => rfl, fun _ => rfl⟩, xfr.refl, keep⟩
  · unfold rDo
    rw [if_neg (by decide), if_neg (by decide), if_neg (by decide), if_neg (by decide), em]
    obtain ⟨z, L2, e1, e2, e3, e4, e5⟩ := pT_attT (c := nI b) (d := nI d) (by omega) (by omega) h1 hQ ha1 ha
    obtain ⟨S, s1, s2⟩ := pK_signs (Nat.le_refl m) (Nat.zero_le m) a t L w r (by omega) (by omega) h1
    refine ⟨z, _, e1, ⟨fun q => ?_, fun q => Bool.noConfusion q⟩, e2, m, t + a, tr, wt, sz, ms, L2, w + 72 * a, e5, by omega, by omega, e4⟩
    have e6 : ∀ x y : Int32, x + y - x = y := by intro x y; grind
    rw [s2, e6] at q
    exact absurd q (nI_nm1 (by omega))
/-! the reference reads and does a command -/
theorem pB_inl {α β : Type} {x : α ⊕ Nat} {f : α → β ⊕ Nat} {y : β} (h : pB x f = .inl y) : ∃ a, x = .inl a ∧ f a = .inl y := by
  cases x with
  | inl a => exact ⟨a, rfl, h⟩
  | inr e => exact absurd h (by simp [pB])
theorem pCmd_ok {n : Nat} {c : Nat → Nat} {pos k a b d p2 : Nat} (h : pCmd n c pos = .inl (k, a, b, d, p2)) : vOK k a b d ∧ pos + 2 ≤ p2 ∧ p2 ≤ n := by
  have N : ∀ {lo hi D q v p}, 1 ≤ D → pNm n c lo hi D 0 q = .inl (v, p) → p = q + D ∧ p ≤ n ∧ lo ≤ v ∧ v ≤ hi := fun {lo hi D q v p} hD e => by
    obtain ⟨a1, a2, a3⟩ := (pNm_pos (lo := lo) (hi := hi) D 0 q).1 v p e
    exact ⟨a1, a2 (by omega), (a3 (by omega)).1, (a3 (by omega)).2⟩
  unfold pCmd at h
  by_cases c1 : c pos = 102
  · rw [if_pos c1] at h
    obtain ⟨⟨v, p⟩, e1, e2⟩ := pB_inl h
    have n1 := N (by decide) e1
    have e2 := Sum.inl.inj e2
    simp only [Prod.mk.injEq] at e2
    obtain ⟨rfl, rfl, rfl, rfl, rfl⟩ := e2
    refine ⟨Or.inr (Or.inr (Or.inr (Or.inl ⟨rfl, n1.2.2.2⟩))), by omega, n1.2.1⟩
  rw [if_neg c1] at h
  by_cases c2 : c pos = 104
  · rw [if_pos c2] at h
    obtain ⟨⟨v, p⟩, e1, e2⟩ := pB_inl h
    obtain ⟨⟨v2, q2⟩, e3, e4⟩ := pB_inl e2
    have n1 := N (by decide) e1
    have n2 := N (by decide) e3
    dsimp only at n2
    have e4 := Sum.inl.inj e4
    simp only [Prod.mk.injEq] at e4
    obtain ⟨rfl, rfl, rfl, rfl, rfl⟩ := e4
    refine ⟨Or.inr (Or.inr (Or.inl ⟨rfl, n1.2.2.2, n2.2.2.2⟩)), by omega, n2.2.1⟩
  rw [if_neg c2] at h
  by_cases c3 : c pos = 112
  · rw [if_pos c3] at h
    obtain ⟨⟨v, p⟩, e1, e2⟩ := pB_inl h
    obtain ⟨⟨v2, q2⟩, e3, e4⟩ := pB_inl e2
    obtain ⟨⟨v3, q3⟩, e5, e6⟩ := pB_inl e4
    have n1 := N (by decide) e1
    have n2 := N (by decide) e3
    have n3 := N (by decide) e5
    dsimp only at n2 n3
    have e6 := Sum.inl.inj e6
    simp only [Prod.mk.injEq] at e6
    obtain ⟨rfl, rfl, rfl, rfl, rfl⟩ := e6
    refine ⟨Or.inr (Or.inl ⟨rfl, n1.2.2.1, n1.2.2.2, n2.2.2.2, n3.2.2.1, n3.2.2.2⟩), by omega, n3.2.1⟩
  rw [if_neg c3] at h
  by_cases c4 : c pos = 116
  · rw [if_pos c4] at h
    obtain ⟨⟨v, p⟩, e1, e2⟩ := pB_inl h
    have n1 := N (by decide) e1
    have e2 := Sum.inl.inj e2
    simp only [Prod.mk.injEq] at e2
    obtain ⟨rfl, rfl, rfl, rfl, rfl⟩ := e2
    refine ⟨Or.inr (Or.inr (Or.inr (Or.inr ⟨rfl, n1.2.2.1, n1.2.2.2⟩))), by omega, n1.2.1⟩
  rw [if_neg c4] at h
  by_cases c5 : c pos = 119
  · rw [if_pos c5] at h
    obtain ⟨⟨v, p⟩, e1, e2⟩ := pB_inl h
    obtain ⟨⟨v2, q2⟩, e3, e4⟩ := pB_inl e2
    have n1 := N (by decide) e1
    have n2 := N (by decide) e3
    dsimp only at n2
    have e4 := Sum.inl.inj e4
    simp only [Prod.mk.injEq] at e4
    obtain ⟨rfl, rfl, rfl, rfl, rfl⟩ := e4
    refine ⟨Or.inl ⟨rfl, n1.2.2.2, n2.2.2.1, n2.2.2.2⟩, by omega, n2.2.1⟩
  rw [if_neg c5] at h
  exact absurd h (by simp)
