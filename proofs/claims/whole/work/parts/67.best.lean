/-! THE BEST VALUE -/
def rStep (N : Option Nat) (v : Nat) (b : Option (Nat × Nat)) : Option (Nat × Nat) :=
  match N with
  | none => b
  | some n => match b with
    | none => some (v, n)
    | some (x, l) => if n < l then some (v, n) else some (x, l)
def rBs (N : Nat → Option Nat) : Nat → Nat → Option (Nat × Nat) → Option (Nat × Nat)
  | 0, _, b => b
  | q + 1, v, b => rBs N q (v + 1) (rStep (N v) v b)
def bI : Option (Nat × Nat) → Int32
  | none => -1
  | some (x, _) => nI x
def lI : Option (Nat × Nat) → Int32
  | none => 0
  | some (_, l) => nI l
def mI : Option (Nat × Nat) → Int32
  | none => 400
  | some (_, l) => nI l - 1
theorem rBs_none {N : Nat → Option Nat} : ∀ (q v : Nat) (b : Option (Nat × Nat)), (∀ i, v ≤ i → i < v + q → N i = none) → rBs N q v b = b := by
  intro q
  induction q with
  | zero => intro v b h; rfl
  | succ q ih =>
    intro v b h
    rw [rBs, h v (by omega) (by omega), ih (v + 1) _ (fun i p q => h i (by omega) (by omega))]
    rfl
theorem rBs_0 {N : Nat → Option Nat} {x : Nat} : ∀ (q v : Nat), rBs N q v (some (x, 0)) = some (x, 0) := by
  intro q
  induction q with
  | zero => intro v; rfl
  | succ q ih =>
    intro v
    rw [rBs]
    have e : rStep (N v) v (some (x, 0)) = some (x, 0) := by
      unfold rStep
      cases N v with
      | none => rfl
      | some n => exact if_neg (by omega)
    rw [e, ih]
theorem rBs_add {N : Nat → Option Nat} : ∀ (a b v : Nat) (x : Option (Nat × Nat)), rBs N (a + b) v x = rBs N b (v + a) (rBs N a v x) := by
  intro a
  induction a with
  | zero => intro b v x; rw [Nat.zero_add]; rfl
  | succ a ih => intro b v x; rw [show a + 1 + b = (a + b) + 1 by omega, rBs, rBs, ih b (v + 1), show v + 1 + a = v + (a + 1) by omega]
section RX
variable {m t tr wt sg ms L : Nat} {lo : Nat → Nat}
/-- behind how many ticks writer k is done, with another value of a setting -/
def rNv (m k w lo hi : Nat) (f : Nat → Int32) (v : Nat) : Option Nat := if lo ≤ v ∧ v ≤ hi then rFst (rTick 0 m) (rDn k) 400 (rSet f w (nI v)) else none
theorem rNv_400 {k w lo hi v n : Nat} {f : Nat → Int32} (h : rNv m k w lo hi f v = some n) : n ≤ 400 := by
  unfold rNv at h
  split at h
  · exact (rFst_le _ _ _ h).1
  · exact absurd h (by simp)
theorem pL_X6_best {s0 : xS} {k w lo hi W : Nat} {f : Nat → Int32} {KK : Int32 → xS → Option (Int32 × xS)} (hk : k < m) (ht : t < 2 ^ 27) (hW : W < 2 ^ 27) (h : rOK f m t tr wt sg ms L (rLo 0 m (t + 1)) W) (hw : w < 4) (h26 : s0 (824 + 2) = f) (hv : ∀ v, lo ≤ v → v ≤ hi → rVOK w v) (hn : ∀ v, v < 100 → ¬ (lo ≤ v ∧ v ≤ hi) → ∀ σ, F_X6_isSetting (nI w) (nI v) σ = some (0, σ)) : ∀ (d v fuel : Nat) (b : Option (Nat × Nat)) (g : Nat → Int32), v + d = 100 → d < fuel → (∀ x l, b = some (x, l) → x < 2 ^ 20 ∧ l ≤ 400) → ∃ g2, L_X6_best_49 824 (nI w) (nI k) KK fuel (bI b) (lI b) (nI v) (xset s0 (824 + 3) g) = KK (bI (rBs (rNv m k w lo hi f) d v b)) (xset s0 (824 + 3) g2) := by
  intro d
  induction d with
  | zero =>
    intro v fuel b g hd hf hb
    obtain ⟨q, rfl⟩ : ∃ q, fuel = q + 1 := ⟨fuel - 1, by omega⟩
    obtain rfl : v = 100 := by omega
    exact ⟨g, by rw [L_X6_best_49, if_pos (by decide)]; rfl⟩
  | succ d ih =>
    intro v fuel b g hd hf hb
    obtain ⟨q, rfl⟩ : ∃ q, fuel = q + 1 := ⟨fuel - 1, by omega⟩
    have hm4 := h.m4
    rw [L_X6_best_49, if_neg (show ¬ (99 : Int32) < nI v from nI_nlt (a := 99) (b := v) (by omega) (by decide)), rBs]
    by_cases hr : lo ≤ v ∧ v ≤ hi
    · have hvo := hv v hr.1 hr.2
      obtain ⟨r, er⟩ : ∃ y, y = rCp f g 0 0 187 := ⟨_, rfl⟩
      have hr187 : ∀ i, i < 187 → r i = f i := fun i hi => by rw [er]; exact rCp0 i hi
      have hR : rOK r m t tr wt sg ms L (rLo 0 m (t + 1)) W := h.c187 hr187
      obtain ⟨tr2, wt2, sg2, ms2, hR2⟩ := hR.set hvo
      have cp := pS_cp (s := xset s0 (824 + 3) g) (f := f) (g := g) (by rw [xset_other (by decide), h26]) (by rw [xset_same])
      rw [← er, xset_xset] at cp
      have ex : xu (xset s0 (824 + 3) r) (824 + 3) (3 + w) (nI v) = xset s0 (824 + 3) (rSet r w (nI v)) := xu_xset
      obtain ⟨r2, u1⟩ := pR_until (σ := s0) (a := 824 + 3) (show k < 4 by omega) (by omega) (by omega) hR2
      have eN : rNv m k w lo hi f v = rFst (rTick 0 m) (rDn k) 400 (rSet r w (nI v)) := by
        unfold rNv
        rw [if_pos hr]
        refine (rFst_eq (T := rTick 0 m) (T2 := rTick 0 m) (E := rEq k) (fun _ _ h => h.tick (Nat.zero_le _) hk (Nat.zero_le _) hk) (fun _ _ h => h.dn) 400 (rSet f w (nI v)) (rSet r w (nI v)) ⟨fun i hi => ?_, ?_, ?_⟩).symm
        · unfold rSet upd
          rw [hr187 i (by omega)]
        · rw [rSet_row hw, rSet_row hw, rRow_187 hr187 (by omega)]
        · have e2 : rSet f w (nI v) 2 = f 2 := up_n (by omega)
          rw [e2, h.LL]
          exact h.L8
      rw [← eN] at u1
      rw [pR_isSet hvo, xbI_s, if_neg (by decide), cp, xbV_s, show (3 : Int32) + nI w = nI (3 + w) from nI_add 3 w, if_pos (xin_nI (by omega) (by decide)), nI_clamp (by omega), xlet_s, ex, u1, xbI_s, nI_1]
      simp only [xjn_s]
      cases hN : rNv m k w lo hi f v with
      | none =>
        rw [if_pos (by rfl), if_pos trivial, if_pos trivial, xlet_s]
        exact ih (v + 1) q b r2 (by omega) (by omega) hb
      | some n =>
        have hn4 := rNv_400 hN
        have e0 : rVal 0 (some n) = nI n := by show nI (0 + n) = nI n; rw [Nat.zero_add]
        rw [e0, if_neg (nI_nm1 (by omega))]
        cases b with
        | none =>
          rw [if_pos (by rfl), if_neg (by decide), if_neg (by decide), xlet_s]
          exact ih (v + 1) q (some (v, n)) r2 (by omega) (by omega) (fun x l e => by
            have := Option.some.inj e
            obtain ⟨rfl, rfl⟩ := Prod.mk.inj this
            omega)
        | some p =>
          obtain ⟨x, l⟩ := p
          obtain ⟨hx, hl⟩ := hb x l rfl
          rw [if_neg (show ¬ bI (some (x, l)) = -1 from nI_nm1 (by omega))]
          by_cases hln : l ≤ n
          · rw [if_pos (show lI (some (x, l)) ≤ nI n from nI_le hln (by omega)), if_pos trivial, if_pos trivial, xlet_s]
            have es : rStep (some n) v (some (x, l)) = some (x, l) := if_neg (by omega)
            rw [es]
            exact ih (v + 1) q (some (x, l)) r2 (by omega) (by omega) hb
          · rw [if_neg (show ¬ lI (some (x, l)) ≤ nI n from nI_ge (by omega) (by omega)), if_neg (by decide), if_neg (by decide), xlet_s]
            have es : rStep (some n) v (some (x, l)) = some (v, n) := if_pos (by omega)
            rw [es]
            exact ih (v + 1) q (some (v, n)) r2 (by omega) (by omega) (fun x l e => by
              have := Option.some.inj e
              obtain ⟨rfl, rfl⟩ := Prod.mk.inj this
              omega)
    · have eN : rNv m k w lo hi f v = none := if_neg hr
      rw [hn v (by omega) hr, xbI_s, if_pos rfl, xlet_s, nI_1, eN]
      exact ih (v + 1) q b g (by omega) (by omega) hb
theorem pL_X5_best {k w lo hi W : Nat} {f : Nat → Int32} {KK : Int32 → xS → Option xR} (hk : k < m) (ht : t < 2 ^ 25) (hW : W < 2 ^ 25) (h : rOK f m t tr wt sg ms L (rLo 0 m (t + 1)) W) (hw : w < 4) (hv : ∀ v, lo ≤ v → v ≤ hi → rVOK w v) (h3 : xF3 w = nI hi) (hhi : hi < 100) : ∀ (d v fuel : Nat) (b : Option (Nat × Nat)) (σ : xS), v + d = hi + 1 → lo ≤ v → d < fuel → xQ3 σ (0 + 3) f L → (∀ x l, b = some (x, l) → x < 2 ^ 20 ∧ l ≤ 400) → ∃ z, L_X5_best_35 0 (nI w) (nI k) KK fuel (bI b) (mI b) (nI v) σ = KK (bI (rBs (rNv m k w lo hi f) d v b)) z ∧ xfr σ z 695 738 := by
  intro d
  induction d with
  | zero =>
    intro v fuel b σ hd hlo hf hQ hb
    obtain ⟨q, rfl⟩ : ∃ q, fuel = q + 1 := ⟨fuel - 1, by omega⟩
    refine ⟨σ, ?_, xfr.refl⟩
    rw [L_X5_best_35, if_pos (xin_nI (by omega) (by decide)), nI_clamp (by omega), h3, xlet_s, if_pos (nI_lt (by omega) (by omega))]
    rfl
  | succ d ih =>
    intro v fuel b σ hd hlo hf hQ hb
    obtain ⟨q, rfl⟩ : ∃ q, fuel = q + 1 := ⟨fuel - 1, by omega⟩
    have hm4 := h.m4
    have hL8 := h.L8
    rw [L_X5_best_35, if_pos (xin_nI (by omega) (by decide)), nI_clamp (by omega), h3, xlet_s, if_neg (nI_nlt (by omega) (by omega))]
    have stop : (∃ x, b = some (x, 0)) ∨ ∃ M, mI b = nI M ∧ M ≤ 400 ∧ (∀ n, M < n → n ≤ 400 → rStep (some n) v b = b) ∧ ∀ n, n ≤ M → rStep (some n) v b = some (v, n) := by
      cases b with
      | none => exact Or.inr ⟨400, rfl, Nat.le_refl _, fun n p q => absurd q (by omega), fun n _ => rfl⟩
      | some p =>
        obtain ⟨x, l⟩ := p
        obtain ⟨hx, hl⟩ := hb x l rfl
        by_cases l0 : l = 0
        · subst l0; exact Or.inl ⟨x, rfl⟩
        · exact Or.inr ⟨l - 1, nI_s1 (by omega), by omega, fun n p q => if_neg (by omega), fun n p => if_pos (by omega)⟩
    rcases stop with ⟨x, rfl⟩ | ⟨M, hM, hM4, hs1, hs2⟩
    · refine ⟨σ, ?_, xfr.refl⟩
      rw [if_pos (show mI (some (x, 0)) < 0 by show nI 0 - 1 < 0; decide), rBs_0]
    · have hvo := hv v (by omega) (by omega)
      obtain ⟨z, c1, c2, c3⟩ := pT_copy (p := 0 + 695) hQ hL8 (by omega) h.h01
      obtain ⟨tr2, wt2, sg2, ms2, hR2⟩ := h.set hvo
      have c4 := (pT_setW (v := nI v) hw c3 hL8).2
      obtain ⟨z2, d1, d2⟩ := pT_until (M := M) hk hM4 (by omega) (by omega) hR2 c4
      have fr : xfr σ z2 695 738 := (c2.trans ((xfr_xu (by omega) (by omega)).trans d2))
      have hQ2 : xQ3 z2 (0 + 3) f L := hQ.ex (fun i a b => fr i (by omega))
      have eN : rNv m k w lo hi f v = rFst (rTick 0 m) (rDn k) 400 (rSet f w (nI v)) := if_pos ⟨by omega, by omega⟩
      rw [hM, if_neg (nI_pos (by omega)), c1, xbV_s, if_pos (xin_nI (by omega) (by decide)), xlet_s, d1, xbI_s, nI_1, rBs]
      cases hf' : rFst (rTick 0 m) (rDn k) M (rSet f w (nI v)) with
      | none =>
        have es : rStep (rNv m k w lo hi f v) v b = b := by
          cases hN : rNv m k w lo hi f v with
          | none => rfl
          | some n =>
            have hn4 := rNv_400 hN
            rw [eN] at hN
            by_cases hnM : n ≤ M
            · exact absurd ((rFst_le _ _ _ hN).2 M hnM) (by rw [hf']; simp)
            · exact hs1 n (by omega) hn4
        rw [if_pos (by rfl), xlet_s, es, ← hM]
        obtain ⟨z3, e1, e2⟩ := ih (v + 1) q b z2 (by omega) (by omega) (by omega) hQ2 hb
        exact ⟨z3, e1, fr.trans e2⟩
      | some n =>
        obtain ⟨n1, n2⟩ := rFst_le _ _ _ hf'
        have es : rStep (rNv m k w lo hi f v) v b = some (v, n) := by
          rw [eN, n2 400 (by omega)]
          exact hs2 n n1
        have e0 : rVal 0 (some n) = nI n := by show nI (0 + n) = nI n; rw [Nat.zero_add]
        rw [e0, if_neg (nI_nm1 (by omega)), xlet_s, xlet_s, es]
        obtain ⟨z3, e1, e2⟩ := ih (v + 1) q (some (v, n)) z2 (by omega) (by omega) (by omega) hQ2 (fun x l e => by
          have := Option.some.inj e
          obtain ⟨rfl, rfl⟩ := Prod.mk.inj this
          omega)
        exact ⟨z3, e1, fr.trans e2⟩
end RX
