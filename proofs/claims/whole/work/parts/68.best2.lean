theorem y_best1 {T W w lo hi : Nat} {σ : xS} (h : yR T W σ) (hT : T < 90000) (hW : W < 2 ^ 24) (k : Int32) (hw1 : 1 ≤ w) (hw2 : w ≤ 2) (hv : ∀ v, lo ≤ v → v ≤ hi → rVOK w v) (hv2 : ∀ v, rVOK w v → lo ≤ v ∧ v ≤ hi) (h2 : xF2 w = nI lo) (h3 : xF3 w = nI hi) (hlo : lo ≤ hi) (hhi : hi < 100) : yC T W (F_L_best 0 (nI w) k 832) (F_X6_best 824 (nI w) k) σ := by
  obtain ⟨⟨m, t, tr, wt, sg, ms, L, w0, h1, ht, hw, hQ⟩, -⟩ := id h
  have hQ : xQ3 σ (0 + 3) (σ 826) L := hQ
  have hm4 := h1.m4
  have h1' : rOK (σ (824 + 2)) m t tr wt sg ms L (rLo 0 m (t + 1)) w0 := h1
  rcases rIs m hm4 k with hk | ⟨j, hj, rfl⟩
  · refine yC_thr (c := 1) (b := 0) h ?_ ?_ (by decide)
    · unfold F_L_best F_X5_best
      rw [pF_isW0 (hQ.1.1.trans h1.1.1) hk, xbI_s, F5_ref1, xbT_1, xbH_1, if_pos (by decide)]
    · unfold F_X6_best
      rw [pS_isW0 h1' hk, xbI_s, xjn_s, if_neg (by decide)]; dsimp only; rw [pR_ref1, xbI_s, if_neg (by decide)]
  · have hn : ∀ v, v < 100 → ¬ (lo ≤ v ∧ v ≤ hi) → ∀ s, F_X6_isSetting (nI w) (nI v) s = some (0, s) := by
      intro v hv100 hr
      rcases rVal_or (nI w) (nI v) with ⟨i, l, q1, q2, q3⟩ | ⟨q, -⟩
      · exfalso
        have hi4 := q1.w4
        obtain rfl : w = i := (nI_eq (by omega) (by omega)).mp q2
        have hl : l ≤ 99 := by unfold rVOK at q1; omega
        obtain rfl : v = l := (nI_eq (by omega) (by omega)).mp q3
        exact hr (hv2 v q1)
      · exact q
    obtain ⟨z2, d1, d2⟩ := pL_X5_best (lo := lo) (hi := hi) (KK := fun (zz12 : Int32) (σ13 : xS) => some (0, zz12, σ13)) hj (by omega) (by omega) h1 (show w < 4 by omega) hv h3 hhi (hi + 1 - lo) lo 1000 none σ (by omega) (Nat.le_refl _) (by omega) hQ (fun x l e => absurd e (by simp))
    obtain ⟨v, hvv⟩ : ∃ y, y = bI (rBs (rNv m j w lo hi (σ 826)) (hi + 1 - lo) lo none) := ⟨_, rfl⟩
    rw [← hvv] at d1
    have sz : ySame σ z2 := ySame.fr (lo := 695) (hi := 738) d2 (Or.inl ⟨by omega, by omega⟩)
    obtain ⟨s, hs⟩ : ∃ y, y = xu z2 832 0 v := ⟨_, rfl⟩
    have s826 : s 826 = σ 826 := by rw [hs, xu_other (by decide), sz.1 826 (by omega)]
    obtain ⟨g2, u1⟩ := pL_X6_best (s0 := xu s 824 0 0) (lo := lo) (hi := hi) (KK := fun (zz7 : Int32) (σ8 : xS) => some (zz7, σ8)) hj (by omega) (by omega) h1 (show w < 4 by omega) (by rw [xu_other (by decide)]; exact s826) hv hn 100 0 1000 none ((xu s 824 0 0) (824 + 3)) (by omega) (by omega) (fun x l e => absurd e (by simp))
    have eB : rBs (rNv m j w lo hi (σ 826)) 100 0 none = rBs (rNv m j w lo hi (σ 826)) (hi + 1 - lo) lo none := by
      rw [show 100 = lo + ((hi + 1 - lo) + (99 - hi)) by omega, rBs_add, rBs_add, rBs_none (N := rNv m j w lo hi (σ 826)) lo 0 none (fun i p q => if_neg (by omega)), Nat.zero_add, rBs_none (N := rNv m j w lo hi (σ 826)) (99 - hi) _ _ (fun i p q => if_neg (by omega))]
    rw [eB, ← hvv, xset_self] at u1
    refine yC_ahead (z := z2) (v := v) (σ2 := xset (xu s 824 0 0) (824 + 3) g2) h ?_ sz ?_ trial0 (by rw [trial8, hs]) (by rw [← hs]; exact ySame.trial)
    · have e12 : F_X5_isWithin (nI w) 1 2 σ = some (1, σ) := pF_wiN (a := 1) (b := 2) hw1 hw2 (by decide)
      unfold F_L_best F_X5_best
      rw [pF_isWriter0 (hQ.1.1.trans h1.1.1) hj hm4, xbI_s, F5_ref0, xbT_0, e12, xbI_s, F5_dem1, xbT_0, if_pos (xin_nI (by omega) (by decide)), nI_clamp (by omega), h2, xlet_s, show L_X5_best_35 0 (nI w) (nI j) (fun (zz12 : Int32) (σ13 : xS) => some (0, zz12, σ13)) 1000 ((-1)) 400 (nI lo) σ = _ from d1, xbH_0, if_pos xin01, xlet_s, cl0]
    · rw [← hs]
      have h2' : rOK (s (824 + 2)) m t tr wt sg ms L (rLo 0 m (t + 1)) w0 := by rw [show s (824 + 2) = σ 826 from s826]; exact h1
      have e12 : F_X6_in (nI w).toInt64 1 2 s = some (1, s) := pR_inN (a := 1) (b := 2) hw1 hw2 (by decide)
      unfold F_X6_best
      rw [pS_isW1 h2' hj, xbI_s, xjn_s, if_pos (by decide), e12, xbI_s, if_neg (by decide)]; dsimp only; rw [pR_ref0, xbI_s, if_pos rfl]
      exact u1
theorem y_best {T W : Nat} {σ : xS} (h : yR T W σ) (hT : T < 90000) (hW : W < 2 ^ 24) (x k : Int32) : yC T W (F_L_best 0 x k 832) (F_X6_best 824 x k) σ := by
  rcases rng x 1 2 (by decide) (by decide) with ⟨w, hw1, hw2, rfl⟩ | hx
  · obtain e | e : w = 1 ∨ w = 2 := by omega
    · subst e
      exact y_best1 (lo := 0) (hi := 20) h hT hW k hw1 hw2 (fun v a b => Or.inr (Or.inl ⟨rfl, b⟩)) (fun v a => by unfold rVOK at a; omega) rfl rfl (by decide) (by decide)
    · subst e
      exact y_best1 (lo := 4) (hi := 99) h hT hW k hw1 hw2 (fun v a b => Or.inr (Or.inr (Or.inl ⟨rfl, a, b⟩))) (fun v a => by unfold rVOK at a; omega) rfl rfl (by decide) (by decide)
  · obtain ⟨⟨m, t, tr, wt, sg, ms, L, w0, h1, ht, hw, hQ⟩, -⟩ := id h
    have hQ : xQ3 σ (0 + 3) (σ 826) L := hQ
    have hm4 := h1.m4
    have h1' : rOK (σ (824 + 2)) m t tr wt sg ms L (rLo 0 m (t + 1)) w0 := h1
    rcases rIs m hm4 k with hk | ⟨j, hj, rfl⟩
    · refine yC_thr (c := 1) (b := 0) h ?_ ?_ (by decide)
      · unfold F_L_best F_X5_best
        rw [pF_isW0 (hQ.1.1.trans h1.1.1) hk, xbI_s, F5_ref1, xbT_1, xbH_1, if_pos (by decide)]
      · unfold F_X6_best
        rw [pS_isW0 h1' hk, xbI_s, xjn_s, if_neg (by decide)]; dsimp only; rw [pR_ref1, xbI_s, if_neg (by decide)]
    · refine yC_thr (c := 2) (b := 0) h ?_ ?_ (by decide)
      · unfold F_L_best F_X5_best
        rw [pF_isWriter0 (hQ.1.1.trans h1.1.1) hj hm4, xbI_s, F5_ref0, xbT_0, pF_within2, if_pos (show x < 1 ∨ 2 < x from hx), xbI_s, F5_dem02, xbT_2, xbH_2, if_neg (by decide), if_pos (by decide)]
      · unfold F_X6_best
        rw [pS_isW1 h1' hj, xbI_s, xjn_s, if_pos (by decide), show F_X6_in x.toInt64 1 2 σ = _ from pR_in (a := 1) (b := 2), if_pos (show x < 1 ∨ 2 < x from hx), xbI_s, if_pos rfl]; dsimp only; rw [pR_ref2, xbI_s, if_neg (by decide)]
