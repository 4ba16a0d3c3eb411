/-! ticks, plan, set, post -/
section RB
variable {m t tr wt sz ms L : Nat} {lo : Nat → Nat}
theorem pT_attT {σ : xS} {p n W : Nat} {c d : Int32} {r : Nat → Int32} (ht : t < 2 ^ 27) (hW : W < 2 ^ 27) (h : rOK r m t tr wt sz ms L (rLo 0 m (t + 1)) W) (hQ : xQ3 σ p r L) (hn1 : 1 ≤ n) (hn : n ≤ 99) : ∃ z L2, F_X3_attempt p 5 (nI n) c d σ = some (rS4 (rTicks 0 m n r) 8 - rS4 r 8, z) ∧ xfr σ z p (p + 43) ∧ L2 ≤ L ∧ xQ3 z p (rTicks 0 m n r) L2 ∧ rOK (rTicks 0 m n r) m (t + n) tr wt sz ms L2 (rLo 0 m (t + n + 1)) (W + 72 * n) := by
  obtain ⟨z, L2, e1, e2⟩ := pT_ticks (p := p) (n := n) (by omega) (Nat.zero_le m) (Nat.le_refl m) ht hW h hQ
  refine ⟨z, L2, ?_, e2⟩
  unfold F_X3_attempt F_X3_faultOf
  rw [if_neg (by decide), if_neg (by decide), if_neg (by decide), if_neg (by decide), if_pos rfl, show F_X5_isWithin (nI n) 1 99 σ = _ from pF_within (a := 1) (b := 99) (by omega) (by decide) (by decide), if_pos ⟨hn1, hn⟩, xbI_s, if_neg (by decide), xbI_s, if_pos rfl, if_neg (by decide), if_neg (by decide), if_neg (by decide), if_neg (by decide), if_neg (by decide), if_pos rfl, hQ.1.1, h.1.1, show F_X3_passTicks p (nI n) 0 (nI m) σ = _ from e1, xbI_s]
theorem pT_fT {σ : xS} {p : Nat} {n c d : Int32} : F_X3_faultOf p 5 n c d σ = some (if n < 1 ∨ 99 < n then 2 else 0, σ) := by
  unfold F_X3_faultOf
  rw [if_neg (by decide), if_neg (by decide), if_neg (by decide), if_neg (by decide), if_pos rfl, pF_within2, xbI_s]
  by_cases hh : n < 1 ∨ 99 < n
  · rw [if_pos hh, if_pos hh, if_pos rfl]
  · rw [if_neg hh, if_neg hh, if_neg (by decide)]
/-- a fault: nothing is done -/
theorem pT_att0 {σ : xS} {p : Nat} {kd a b c f : Int32} (h : F_X3_faultOf p kd a b c σ = some (f, σ)) (hf : ¬ f = 0) : F_X3_attempt p kd a b c σ = some (-1, σ) := by
  unfold F_X3_attempt
  rw [h, xbI_s, if_neg hf]
/-! set -/
def rSet (r : Nat → Int32) (w : Nat) (v : Int32) : Nat → Int32 := upd r (3 + w) v
/-- which value each setting may have -/
def rVOK (w v : Nat) : Prop := (w = 0 ∧ 1 ≤ v ∧ v ≤ 9) ∨ (w = 1 ∧ v ≤ 20) ∨ (w = 2 ∧ 4 ≤ v ∧ v ≤ 99) ∨ (w = 3 ∧ 1 ≤ v ∧ v ≤ 6)
theorem rOK.set {r : Nat → Int32} {w v W : Nat} (h : rOK r m t tr wt sz ms L lo W) (hv : rVOK w v) : ∃ tr2 wt2 sz2 ms2, rOK (rSet r w (nI v)) m t tr2 wt2 sz2 ms2 L lo W := by
  obtain ⟨⟨b0, b1, b2, b3, b4, b5, b6, b7, b8, b9, b10, b11, b12, b13, b14, b15, b16⟩, hN, hJ⟩ := h
  unfold rSet
  have hN2 : ∀ j, j < L → rN (upd r (3 + w) (nI v)) m j := fun j hj => (hN j hj).cg (up_n (by unfold rVOK at hv; omega)) (up_n (by unfold rVOK at hv; omega))
  have hJ2 : rJ (upd r (3 + w) (nI v)) m t lo W := hJ.cg (fun i hi => up_n (by unfold rVOK at hv; omega))
  rcases hv with ⟨hw, h1, h2⟩ | ⟨hw, h2⟩ | ⟨hw, h1, h2⟩ | ⟨hw, h1, h2⟩ <;> subst hw
  · exact ⟨v, wt, sz, ms, ⟨by rw [up_n (by decide), b0], by rw [up_n (by decide), b1], by rw [up_n (by decide), b2], up_s, by rw [up_n (by decide), b4], by rw [up_n (by decide), b5], by rw [up_n (by decide), b6], b7, b8, h1, h2, b11, b12, b13, b14, b15, b16⟩, hN2, hJ2⟩
  · exact ⟨tr, v, sz, ms, ⟨by rw [up_n (by decide), b0], by rw [up_n (by decide), b1], by rw [up_n (by decide), b2], by rw [up_n (by decide), b3], up_s, by rw [up_n (by decide), b5], by rw [up_n (by decide), b6], b7, b8, b9, b10, h2, b12, b13, b14, b15, b16⟩, hN2, hJ2⟩
  · exact ⟨tr, wt, v, ms, ⟨by rw [up_n (by decide), b0], by rw [up_n (by decide), b1], by rw [up_n (by decide), b2], by rw [up_n (by decide), b3], by rw [up_n (by decide), b4], up_s, by rw [up_n (by decide), b6], b7, b8, b9, b10, b11, h1, h2, b14, b15, b16⟩, hN2, hJ2⟩
  · exact ⟨tr, wt, sz, v, ⟨by rw [up_n (by decide), b0], by rw [up_n (by decide), b1], by rw [up_n (by decide), b2], by rw [up_n (by decide), b3], by rw [up_n (by decide), b4], by rw [up_n (by decide), b5], up_s, b7, b8, b9, b10, b11, b12, b13, h1, h2, b16⟩, hN2, hJ2⟩
theorem rSet_row {r : Nat → Int32} {w k : Nat} {v : Int32} (hw : w < 4) : rRow (rSet r w v) k = rRow r k := rRow_cg (fun i hi => up_n (by omega))
/-- either a setting and a value for it, or not -/
theorem rVal_or (w v : Int32) : (∃ i j, rVOK i j ∧ w = nI i ∧ v = nI j) ∨ ((∀ σ, F_X6_isSetting w v σ = some (0, σ)) ∧ ∀ p σ, F_X3_isValue p w v σ = some (0, σ)) := by
  have hi : ∀ (a b : Int32) (σ : xS), F_X6_in v.toInt64 a.toInt64 b.toInt64 σ = some (if v < a ∨ b < v then 0 else 1, σ) := fun a b σ => pR_in
  rcases rng w 0 3 (by decide) (by decide) with ⟨i, -, hi3, rfl⟩ | hw
  · have tab : ∀ (i : Nat) (a b : Int32) (an bn : Nat), i ≤ 3 → an ≤ bn → bn < 2 ^ 31 → a = nI an → b = nI bn → xF2 i = a → xF3 i = b → (∀ j, an ≤ j → j ≤ bn → rVOK i j) → ((v < a ∨ b < v) → ∀ σ, F_X6_isSetting (nI i) v σ = some (0, σ)) → (∃ i2 j, rVOK i2 j ∧ nI i = nI i2 ∧ v = nI j) ∨ ((∀ σ, F_X6_isSetting (nI i) v σ = some (0, σ)) ∧ ∀ p σ, F_X3_isValue p (nI i) v σ = some (0, σ)) := by
      intro i a b an bn h3 hab hb ha hb2 h4 h5 h6 h7
      rcases rng v an bn hab hb with ⟨j, j1, j2, e⟩ | e
      · exact Or.inl ⟨i, j, h6 j j1 j2, rfl, e⟩
      · right
        rw [← ha, ← hb2] at e
        refine ⟨h7 e, fun p σ => ?_⟩
        unfold F_X3_isValue
        rw [show F_X5_isWithin (nI i) 0 3 σ = _ from pF_within (a := 0) (b := 3) (by omega) (by decide) (by decide), if_pos ⟨Nat.zero_le _, h3⟩, xbI_s, if_neg (by decide), if_pos (xin_nI (by omega) (by decide)), xlet_s, if_pos (xin_nI (by omega) (by decide)), xlet_s, nI_clamp (by omega), h4, h5, pF_within2, if_pos e, xbI_s, if_pos rfl]
    obtain h | h | h | h : i = 0 ∨ i = 1 ∨ i = 2 ∨ i = 3 := by omega
    all_goals subst h
    · refine tab 0 1 9 1 9 (by decide) (by decide) (by decide) rfl rfl rfl rfl (fun j a b => Or.inl ⟨rfl, a, b⟩) (fun e σ => ?_)
      unfold F_X6_isSetting
      simp only [xjn_s]
      rw [if_neg (by decide), show F_X6_in v.toInt64 1 9 σ = _ from hi 1 9 σ, if_pos e, xbI_s, if_neg (by decide), if_pos (by decide), if_pos (by decide), if_pos (by decide)]
    · refine tab 1 0 20 0 20 (by decide) (by decide) (by decide) rfl rfl rfl rfl (fun j a b => Or.inr (Or.inl ⟨rfl, b⟩)) (fun e σ => ?_)
      unfold F_X6_isSetting
      simp only [xjn_s]
      rw [if_pos (by decide), if_neg (by decide), show F_X6_in v.toInt64 0 20 σ = _ from hi 0 20 σ, if_pos e, xbI_s, if_neg (by decide), if_pos (by decide), if_pos (by decide)]
    · refine tab 2 4 99 4 99 (by decide) (by decide) (by decide) rfl rfl rfl rfl (fun j a b => Or.inr (Or.inr (Or.inl ⟨rfl, a, b⟩))) (fun e σ => ?_)
      unfold F_X6_isSetting
      simp only [xjn_s]
      rw [if_pos (by decide), if_pos (by decide), if_neg (by decide), show F_X6_in v.toInt64 4 99 σ = _ from hi 4 99 σ, if_pos e, xbI_s, if_neg (by decide), if_pos (by decide)]
    · refine tab 3 1 6 1 6 (by decide) (by decide) (by decide) rfl rfl rfl rfl (fun j a b => Or.inr (Or.inr (Or.inr ⟨rfl, a, b⟩))) (fun e σ => ?_)
      unfold F_X6_isSetting
      simp only [xjn_s]
      rw [if_pos (by decide), if_pos (by decide), if_pos (by decide), if_neg (by decide), show F_X6_in v.toInt64 1 6 σ = _ from hi 1 6 σ, if_pos e, xbI_s, if_pos rfl]
  · right
    have n0 : ¬ w = 0 := fun q => by subst q; exact hw.elim (by decide) (by decide)
    have n1 : ¬ w = 1 := fun q => by subst q; exact hw.elim (by decide) (by decide)
    have n2 : ¬ w = 2 := fun q => by subst q; exact hw.elim (by decide) (by decide)
    have n3 : ¬ w = 3 := fun q => by subst q; exact hw.elim (by decide) (by decide)
    constructor
    · intro σ
      unfold F_X6_isSetting
      simp only [xjn_s]
      rw [if_pos n0, if_pos n1, if_pos n2, if_pos n3]
    · intro p σ
      unfold F_X3_isValue
      rw [pF_within2, if_pos (show w < 0 ∨ 3 < w from hw), xbI_s, if_pos rfl]
theorem pR_isSet {i j : Nat} (h : rVOK i j) (σ : xS) : F_X6_isSetting (nI i) (nI j) σ = some (1, σ) := by
  have hi : ∀ (a b : Nat), a ≤ j → j ≤ b → b < 2 ^ 31 → F_X6_in (nI j).toInt64 (nI a).toInt64 (nI b).toInt64 σ = some (1, σ) := fun a b h1 h2 h3 => by
    rw [pR_in, if_neg]
    intro q
    rcases q with q | q
    · exact nI_nlt h1 (by omega) q
    · exact nI_nlt h2 (by omega) q
  unfold F_X6_isSetting
  simp only [xjn_s]
  rcases h with ⟨hw, h1, h2⟩ | ⟨hw, h2⟩ | ⟨hw, h1, h2⟩ | ⟨hw, h1, h2⟩ <;> subst hw
  · rw [if_neg (by decide), show F_X6_in (nI j).toInt64 1 9 σ = _ from hi 1 9 h1 h2 (by decide), xbI_s, if_pos (by decide)]
  · rw [if_pos (by decide), if_neg (by decide), show F_X6_in (nI j).toInt64 0 20 σ = _ from hi 0 20 (by omega) h2 (by decide), xbI_s, if_pos (by decide)]
  · rw [if_pos (by decide), if_pos (by decide), if_neg (by decide), show F_X6_in (nI j).toInt64 4 99 σ = _ from hi 4 99 h1 h2 (by decide), xbI_s, if_pos (by decide)]
  · rw [if_pos (by decide), if_pos (by decide), if_pos (by decide), if_neg (by decide), show F_X6_in (nI j).toInt64 1 6 σ = _ from hi 1 6 h1 h2 (by decide), xbI_s, if_neg (by decide)]
theorem pT_isVal {i j : Nat} (h : rVOK i j) (p : Nat) (σ : xS) : F_X3_isValue p (nI i) (nI j) σ = some (1, σ) := by
  have hi : ∀ (a b : Nat), a ≤ j → j ≤ b → b < 2 ^ 31 → F_X5_isWithin (nI j) (nI a) (nI b) σ = some (1, σ) := fun a b h1 h2 h3 => by
    rw [pF_within2, if_neg]
    intro q
    rcases q with q | q
    · exact nI_nlt h1 (by omega) q
    · exact nI_nlt h2 (by omega) q
  have gen : ∀ (i a b : Nat), i ≤ 3 → xF2 i = nI a → xF3 i = nI b → a ≤ j → j ≤ b → b < 2 ^ 31 → F_X3_isValue p (nI i) (nI j) σ = some (1, σ) := by
    intro i a b h3 e1 e2 h1 h2 h4
    unfold F_X3_isValue
    rw [show F_X5_isWithin (nI i) 0 3 σ = _ from pF_within (a := 0) (b := 3) (by omega) (by decide) (by decide), if_pos ⟨Nat.zero_le _, h3⟩, xbI_s, if_neg (by decide), if_pos (xin_nI (by omega) (by decide)), xlet_s, if_pos (xin_nI (by omega) (by decide)), xlet_s, nI_clamp (by omega), e1, e2, hi a b h1 h2 h4, xbI_s, if_neg (by decide)]
  rcases h with ⟨hw, h1, h2⟩ | ⟨hw, h2⟩ | ⟨hw, h1, h2⟩ | ⟨hw, h1, h2⟩ <;> subst hw
  · exact gen 0 1 9 (by decide) rfl rfl h1 h2 (by decide)
  · exact gen 1 0 20 (by decide) rfl rfl (by omega) h2 (by decide)
  · exact gen 2 4 99 (by decide) rfl rfl h1 h2 (by decide)
  · exact gen 3 1 6 (by decide) rfl rfl h1 h2 (by decide)
theorem rVOK.w4 {i j : Nat} (h : rVOK i j) : i < 4 := by unfold rVOK at h; omega
theorem pT_setW {σ : xS} {p w L : Nat} {v : Int32} {r : Nat → Int32} (hw : w < 4) (hQ : xQ3 σ p r L) (hL : L ≤ 8) : xfr σ (xu σ (p + 1) w v) p (p + 43) ∧ xQ3 (xu σ (p + 1) w v) p (rSet r w v) L := by
  refine ⟨xfr_xu (by omega) (by omega), ⟨?_, ?_, fun i hi => ?_, fun k hk => ?_⟩, ?_⟩
  · rw [xu_other (by omega), hQ.1.1]; exact (up_n (by omega)).symm
  · rw [xu_other (by omega), hQ.1.2.1]; exact (up_n (by omega)).symm
  · rw [xu_same]
    unfold rSet
    by_cases e : i = w
    · subst e; rw [up_s, up_s]
    · rw [up_n e, up_n (by omega), hQ.1.2.2.1 i hi]
  · obtain ⟨o, n, q⟩ := hQ.1.2.2.2 k hk
    exact ⟨o, n, by rw [rSet_row hw]; exact q.ex (fun i a b => xu_other (by omega))⟩
  · exact (hQ.2.ex (fun i a b => xu_other (by omega))).cg (fun j hj => ⟨up_n (by omega), up_n (by omega), up_n (by omega)⟩)
theorem pT_attS {σ : xS} {p i j : Nat} {c : Int32} {r : Nat → Int32} (hL : L ≤ 8) (hv : rVOK i j) (hQ : xQ3 σ p r L) : ∃ z, F_X3_attempt p 6 (nI i) (nI j) c σ = some (r (3 + i), z) ∧ xfr σ z p (p + 43) ∧ xQ3 z p (rSet r i (nI j)) L := by
  have hw := hv.w4
  refine ⟨xu σ (p + 1) i (nI j), ?_, (pT_setW hw hQ hL).1, (pT_setW hw hQ hL).2⟩
  unfold F_X3_attempt F_X3_faultOf F_X3_replaceSetting
  rw [if_neg (by decide), if_neg (by decide), if_neg (by decide), if_neg (by decide), if_neg (by decide), pT_isVal hv, xbI_s, if_neg (by decide), xbI_s, if_pos rfl, if_neg (by decide), if_neg (by decide), if_neg (by decide), if_neg (by decide), if_neg (by decide), if_neg (by decide), if_pos (xin_nI (by omega) (by decide)), xlet_s, if_pos (xin_nI (by omega) (by decide)), xlet_s, nI_clamp (by omega), xbI_s, hQ.1.2.2.1 i hw]
theorem pT_fS {σ : xS} {p : Nat} {w v c : Int32} (h : ∀ p σ, F_X3_isValue p w v σ = some (0, σ)) : F_X3_faultOf p 6 w v c σ = some (2, σ) := by
  unfold F_X3_faultOf
  rw [if_neg (by decide), if_neg (by decide), if_neg (by decide), if_neg (by decide), if_neg (by decide), h, xbI_s, if_pos rfl]
theorem pT_fS1 {σ : xS} {p i j : Nat} {c : Int32} (hv : rVOK i j) : F_X3_faultOf p 6 (nI i) (nI j) c σ = some (0, σ) := by
  unfold F_X3_faultOf
  rw [if_neg (by decide), if_neg (by decide), if_neg (by decide), if_neg (by decide), if_neg (by decide), pT_isVal hv, xbI_s, if_neg (by decide)]
/-! plan -/
def rPlan (r : Nat → Int32) (L : Nat) (n k s : Int32) : Nat → Int32 := upd (upd (upd (upd r (7 + 3 * L) (r 1 + n)) (7 + 3 * L + 1) k) (7 + 3 * L + 2) s) 2 (nI (L + 1))
theorem rPlan_n {r : Nat → Int32} {L x : Nat} {n k s : Int32} (h2 : x ≠ 2) (h : x < 7 + 3 * L ∨ 7 + 3 * L + 2 < x) : rPlan r L n k s x = r x := by
  unfold rPlan
  rw [up_n h2, up_n (by omega), up_n (by omega), up_n (by omega)]
theorem rOK.plan {r : Nat → Int32} {k y W : Nat} {n : Int32} (h : rOK r m t tr wt sz ms L lo W) (hL : L < 8) (hk : k < m) (hy1 : 1 ≤ y) (hy : y ≤ 500) : rOK (rPlan r L n (nI k) (nI y)) m t tr wt sz ms (L + 1) lo W := by
  obtain ⟨⟨b0, b1, b2, b3, b4, b5, b6, b7, b8, b9, b10, b11, b12, b13, b14, b15, b16⟩, hN, hJ⟩ := h
  refine ⟨⟨by rw [rPlan_n (by decide) (by omega), b0], by rw [rPlan_n (by decide) (by omega), b1], up_s, by rw [rPlan_n (by decide) (by omega), b3], by rw [rPlan_n (by decide) (by omega), b4], by rw [rPlan_n (by decide) (by omega), b5], by rw [rPlan_n (by decide) (by omega), b6], b7, b8, b9, b10, b11, b12, b13, b14, b15, by omega⟩, fun j hj => ?_, hJ.cg (fun i hi => rPlan_n (by omega) (by omega))⟩
  by_cases e : j = L
  · subst e
    refine ⟨k, y, ?_, hk, ?_, hy1, hy⟩
    · unfold rPlan; rw [up_n (by omega), up_n (by omega), up_s]
    · unfold rPlan; rw [up_n (by omega), up_s]
  · exact (hN j (by omega)).cg (rPlan_n (by omega) (by omega)) (rPlan_n (by omega) (by omega))
theorem pR_planOn {σ : xS} {a W : Nat} {n k s : Int32} {r : Nat → Int32} (h : rOK r m t tr wt sz ms L lo W) (hL : L < 8) : F_X6_planOn 187 a n k s (xset σ a r) = some (nI (L + 1), xset σ a (rPlan r L n k s)) := by
  have hx0 : xin (nI (7 + 3 * L)) 187 = true := xin_nI (by omega) (by decide)
  have hx1 : xin (nI (7 + 3 * L + 1)) 187 = true := xin_nI (by omega) (by decide)
  have hx2 : xin (nI (7 + 3 * L + 2)) 187 = true := xin_nI (by omega) (by decide)
  have hc0 : (nI (7 + 3 * L)).toNatClampNeg = 7 + 3 * L := nI_clamp (by omega)
  have hc1 : (nI (7 + 3 * L + 1)).toNatClampNeg = 7 + 3 * L + 1 := nI_clamp (by omega)
  have hc2 : (nI (7 + 3 * L + 2)).toNatClampNeg = 7 + 3 * L + 2 := nI_clamp (by omega)
  have e2 : ∀ x y z, upd (upd (upd r (7 + 3 * L) x) (7 + 3 * L + 1) y) (7 + 3 * L + 2) z 2 = nI L := fun x y z => by
    rw [up_n (by omega), up_n (by omega), up_n (by omega), h.1.2.2.1]
  unfold F_X6_planOn
  simp only [xin_2, xin_1, if_true, cl_2, cl_1, xlet_s, xset_same, h.1.2.2.1, nI_7x, nI_1, nI_p2, hx0, hx1, hx2, hc0, hc1, hc2, xu_xset, e2, up_s]
  rfl
theorem pT_fP0 {σ : xS} {p : Nat} {n k s : Int32} (h0 : σ p 0 = nI m) (hk : rBad m k) : F_X3_faultOf p 2 n k s σ = some (1, σ) := by
  unfold F_X3_faultOf F_X3_faultOfPlan
  rw [if_neg (by decide), if_neg (by decide), if_pos rfl, pF_isW0 h0 hk, xbI_s, if_neg (by decide), xbI_s]
theorem pT_fP1 {σ : xS} {p k : Nat} {n s : Int32} (h0 : σ p 0 = nI m) (hk : k < m) (hm : m ≤ 4) (h : (n < 1 ∨ 99 < n) ∨ (s < 1 ∨ 500 < s)) : F_X3_faultOf p 2 n (nI k) s σ = some (2, σ) := by
  unfold F_X3_faultOf F_X3_faultOfPlan
  rw [if_neg (by decide), if_neg (by decide), if_pos rfl, pF_isWriter0 h0 hk hm, xbI_s, if_pos rfl, pF_within2]
  by_cases h1 : n < 1 ∨ 99 < n
  · rw [if_pos h1, xbI_s, if_pos rfl, xbI_s]
  · rw [if_neg h1, xbI_s, if_neg (by decide), pF_within2, if_pos (h.resolve_left h1), xbI_s, if_neg (by decide), xbI_s]
theorem pT_fP2 {σ : xS} {p k n s : Nat} {r : Nat → Int32} (hQ : xQ3 σ p r L) (hL : L ≤ 8) (h0 : r 0 = nI m) (hk : k < m) (hm : m ≤ 4) (hn1 : 1 ≤ n) (hn : n ≤ 99) (hs1 : 1 ≤ s) (hs : s ≤ 500) : F_X3_faultOf p 2 (nI n) (nI k) (nI s) σ = some (if 8 ≤ L then 3 else 0, σ) := by
  unfold F_X3_faultOf F_X3_faultOfPlan
  rw [if_neg (by decide), if_neg (by decide), if_pos rfl, pF_isWriter0 (hQ.1.1.trans h0) hk hm, xbI_s, if_pos rfl, show F_X5_isWithin (nI n) 1 99 σ = _ from pF_within (a := 1) (b := 99) (by omega) (by decide) (by decide), if_pos ⟨hn1, hn⟩, xbI_s, if_neg (by decide), show F_X5_isWithin (nI s) 1 500 σ = _ from pF_within (a := 1) (b := 500) (by omega) (by decide) (by decide), if_pos ⟨hs1, hs⟩, xbI_s, if_pos (by decide), hQ.2.1]
  by_cases h : 8 ≤ L
  · rw [if_pos h, if_pos (show (8 : Int32) ≤ nI L from nI_le (a := 8) (b := L) h (by omega)), xbI_s]
  · rw [if_neg h, if_neg (show ¬ (8 : Int32) ≤ nI L from nI_ge (a := L) (b := 8) (by omega) (by decide)), xbI_s]
theorem pT_attP {σ : xS} {p k n s : Nat} {r : Nat → Int32} (hQ : xQ3 σ p r L) (hL : L < 8) (h0 : r 0 = nI m) (hk : k < m) (hm : m ≤ 4) (hn1 : 1 ≤ n) (hn : n ≤ 99) (hs1 : 1 ≤ s) (hs : s ≤ 500) : ∃ z, F_X3_attempt p 2 (nI n) (nI k) (nI s) σ = some (nI (L + 1), z) ∧ xfr σ z p (p + 43) ∧ xQ3 z p (rPlan r L (nI n) (nI k) (nI s)) (L + 1) := by
  obtain ⟨z, e1, e2, e3⟩ := pD_add (c := 8) (t := r 1 + nI n) (x := nI k) (v := nI s) hQ.2 hL (by decide)
  refine ⟨z, ?_, e2.sub (by omega) (by omega), ⟨?_, ?_, fun i hi => ?_, fun j hj => ?_⟩, e3.cg (fun j hj => ?_)⟩
  · unfold F_X3_attempt
    rw [pT_fP2 hQ (by omega) h0 hk hm hn1 hn hs1 hs, if_neg (by omega), xbI_s, if_pos rfl, if_neg (by decide), if_neg (by decide), if_pos rfl, hQ.1.2.1, e1, xbV_s, e3.1]
  · rw [e2 p (by omega), rPlan_n (by decide) (by omega), hQ.1.1]
  · rw [e2 p (by omega), rPlan_n (by decide) (by omega), hQ.1.2.1]
  · rw [e2 _ (by omega), rPlan_n (by omega) (by omega), hQ.1.2.2.1 i hi]
  · obtain ⟨o, n, q⟩ := hQ.1.2.2.2 j hj
    refine ⟨o, n, ?_⟩
    rw [rRow_cg (r := r) (fun i hi => rPlan_n (by omega) (by omega))]
    exact q.ex (fun i a b => e2 i (by omega))
  · by_cases e : j = L
    · subst e
      unfold rPlan
      refine ⟨?_, ?_, ?_⟩
      · rw [up_n (by omega), up_n (by omega), up_n (by omega), up_s, up_s]
      · rw [up_n (by omega), up_n (by omega), up_s, up_s]
      · rw [up_n (by omega), up_s, up_s]
    · rw [up_n e, up_n e, up_n e]
      exact ⟨rPlan_n (by omega) (by omega), rPlan_n (by omega) (by omega), rPlan_n (by omega) (by omega)⟩
/-! a post begins -/
theorem rS_J {t lo W : Nat} : xJ rS t lo W := by
  refine ⟨⟨0, 0, 0, 0, 0, 0, fun _ => 0, fun _ => 0, ⟨rfl, rfl, rfl, rfl, rfl, rfl, by omega, by omega, by omega, by omega, by omega, fun j hj => absurd hj (by omega), fun j hj => absurd hj (by omega), fun h => absurd h (by omega), rfl, Or.inl rfl⟩, ⟨fun j hj => absurd hj (by omega), fun j hj => absurd hj (by omega), fun j hj => absurd hj (by omega), fun j a b => absurd b (by omega), fun j hj => absurd hj (by omega), 0, rfl, fun _ => by omega, fun h => absurd h (by omega)⟩, ⟨0, rfl, by omega, fun _ => by omega, fun h => absurd h (by omega)⟩⟩, Or.inr rfl, ⟨0, rfl, by omega, fun j hj => absurd hj (by omega)⟩⟩
theorem mClear_row {r : Nat → Int32} {w : Int32} {k : Nat} (hk : k < 4) : rRow (mClear r w) k = rS := by
  funext j
  unfold rRow rS
  by_cases h : j < 39
  · rw [if_pos h]
    unfold mClear
    rw [if_neg (by omega)]
    by_cases h1 : j = 1
    · rw [if_pos h1, if_pos (by omega)]
    · rw [if_neg h1, if_neg (by omega)]
      by_cases h2 : j = 11
      · rw [if_pos h2, if_pos (by omega)]
      · rw [if_neg h2, if_neg (by omega), if_pos (by omega)]
  · rw [if_neg h, if_neg (by omega), if_neg (by omega)]
theorem rOK.clear {r : Nat → Int32} {m2 W : Nat} (hs : 1 ≤ tr ∧ tr ≤ 9 ∧ wt ≤ 20 ∧ 4 ≤ sz ∧ sz ≤ 99 ∧ 1 ≤ ms ∧ ms ≤ 6) (h3 : r 3 = nI tr) (h4 : r 4 = nI wt) (h5 : r 5 = nI sz) (h6 : r 6 = nI ms) (hm1 : 1 ≤ m2) (hm : m2 ≤ 4) : rOK (mClear r (nI m2)) m2 0 tr wt sz ms 0 lo W := by
  have e : ∀ i, 3 ≤ i → i < 7 → mClear r (nI m2) i = r i := fun i a b => by
    unfold mClear
    rw [if_neg (by omega), if_neg (by omega), if_neg (by omega), if_neg (by omega)]
  exact ⟨⟨rfl, rfl, rfl, by rw [e 3 (by omega) (by omega), h3], by rw [e 4 (by omega) (by omega), h4], by rw [e 5 (by omega) (by omega), h5], by rw [e 6 (by omega) (by omega), h6], hm1, hm, hs.1, hs.2.1, hs.2.2.1, hs.2.2.2.1, hs.2.2.2.2.1, hs.2.2.2.2.2.1, hs.2.2.2.2.2.2, by omega⟩, fun j hj => absurd hj (by omega), fun k hk => by rw [mClear_row (by omega)]; exact rS_J, fun k a b => mClear_row b⟩
theorem xBg2_Q {σ : xS} {b : Nat} (h : xBg2 σ b) : xQ2 σ b rS 0 0 := by
  obtain ⟨h1, h2, h3, h4, h5, h6, h7, h8, h9, h10, h11, h12, h13⟩ := h
  exact ⟨⟨h2, h3, h4, h5, h7, h6, h9, h10, h11, h12, h13⟩, rfl, rfl, by omega, by omega, ⟨fun _ => 0, h1, fun j hj => absurd hj (by omega)⟩, ⟨fun _ => 0, h8, fun j hj => absurd hj (by omega)⟩⟩
theorem pT_begin {σ : xS} {p : Nat} {w : Int32} {r : Nat → Int32} (hV : ∀ i, i < 4 → σ (p + 1) i = r (3 + i)) : ∃ z, F_X3_begin p w σ = some z ∧ xfr σ z p (p + 43) ∧ xQ3 z p (mClear r w) 0 := by
  obtain ⟨z, e1, e2, e3, e4, e5, e6, e7⟩ := pF_X3_begin p w σ
  refine ⟨z, e1, e2, ⟨e4, e5, fun i hi => ?_, fun k hk => ⟨0, 0, ?_⟩⟩, e6, fun j hj => absurd hj (by omega)⟩
  · rw [e3, hV i hi]
    unfold mClear
    rw [if_neg (by omega), if_neg (by omega), if_neg (by omega), if_neg (by omega)]
  · rw [mClear_row hk]; exact xBg2_Q (e7 k hk)
theorem pT_fB {σ : xS} {p : Nat} {w a b : Int32} : F_X3_faultOf p 0 w a b σ = some (if w < 1 ∨ 4 < w then 2 else 0, σ) := by
  unfold F_X3_faultOf
  rw [if_pos rfl, pF_within2, xbI_s]
  by_cases hh : w < 1 ∨ 4 < w
  · rw [if_pos hh, if_pos hh, if_pos rfl]
  · rw [if_neg hh, if_neg hh, if_neg (by decide)]
theorem pT_attB {σ : xS} {p m2 : Nat} {a b : Int32} {r : Nat → Int32} (hQ : xQ3 σ p r L) (hm1 : 1 ≤ m2) (hm : m2 ≤ 4) : ∃ z, F_X3_attempt p 0 (nI m2) a b σ = some (nI m2, z) ∧ xfr σ z p (p + 43) ∧ xQ3 z p (mClear r (nI m2)) 0 := by
  obtain ⟨z, e1, e2, e3⟩ := pT_begin (w := nI m2) hQ.1.2.2.1
  refine ⟨z, ?_, e2, e3⟩
  unfold F_X3_attempt
  rw [pT_fB, if_neg (fun q => q.elim (fun q => nI_nlt (a := m2) (b := 1) hm1 (by omega) q) (fun q => nI_nlt (a := 4) (b := m2) hm (by decide) q)), xbI_s, if_pos rfl, if_pos rfl, e1, xbV_s]
end RB
