/-! letter, planned, the text's length -/
theorem rIx0 {x : Int32} {o : Nat} (ho : o ≤ 8) (h : x < 0 ∨ nI o ≤ x) : x < 0 ∨ nI o - 1 < x := by
  rcases h with h | h
  · exact Or.inl h
  · by_cases e : o = 0
    · subst e
      exact Or.inr (Int32.lt_of_lt_of_le (by decide) h)
    · refine Or.inr ?_
      rw [nI_s1 (by omega)]
      exact Int32.lt_of_lt_of_le (nI_lt (by omega) (by omega)) h
theorem rIx1 {j o : Nat} (hj : j < o) (ho : o ≤ 8) : ¬ (nI j < 0 ∨ nI o - 1 < nI j) := by
  intro h
  rw [nI_s1 (by omega)] at h
  rcases h with h | h
  · exact nI_pos (by omega) h
  · exact nI_nlt (by omega) (by omega) h
theorem y_letter {T W : Nat} {σ : xS} (h : yR T W σ) (k i x : Int32) : yC T W (F_L_letter 0 k i x 832) (F_X6_letter 824 k i x) σ := by
  obtain ⟨⟨m, t, tr, wt, sz, ms, L, w, h1, -, -, hQ⟩, -⟩ := id h
  have hQ : xQ3 σ (0 + 3) (σ 826) L := hQ
  have hm4 := h1.m4
  have h1' : rOK (σ (824 + 2)) m t tr wt sz ms L (rLo 0 m (t + 1)) w := h1
  rcases rIs m hm4 k with hk | ⟨j, hj, rfl⟩
  · refine yC_thr (c := 1) (b := 0) h ?_ ?_ (by decide)
    · unfold F_L_letter F_X5_letter
      rw [pF_isW0 (hQ.1.1.trans h1.1.1) hk, xbI_s, F5_ref1, xbT_1, xbH_1, if_pos (by decide)]
    · unfold F_X6_letter
      rw [pS_isW0 h1' hk, xbI_s, xjn_s, xjn_s, if_pos (by decide)]; dsimp only; rw [pR_ref1, xbI_s, if_neg (by decide)]
  · obtain ⟨o, n, q⟩ := hQ.1.2.2.2 j (by omega)
    obtain ⟨wv, q6⟩ := q.2.2.2.2.2.1
    have ho := q.2.2.2.1
    have e6 : rRow (σ (824 + 2)) j 6 = nI o := q.2.1
    have hcn : σ (0 + 3 + 7 + 9 * j + 1) 3 = nI o := q6.1
    rcases pk_ix i (show o < 2 ^ 31 by omega) with hi0 | hi0 | ⟨i, hi, rfl⟩
    · have hi0 := rIx0 (by omega) (Or.inl hi0 : i < 0 ∨ nI o ≤ i)
      refine yC_thr (c := 1) (b := 0) h ?_ ?_ (by decide)
      · unfold F_L_letter F_X5_letter
        rw [pF_isWriter0 (hQ.1.1.trans h1.1.1) hj hm4, xbI_s, F5_ref0, xbT_0, if_pos (xin_nI (by omega) (by decide)), nI_clamp (by omega), hcn, pF_within2, if_pos hi0, xbI_s, F5_dem01, xbT_1, xbH_1, if_pos (by decide)]
      · unfold F_X6_letter
        rw [pS_isW1 h1' hj, xbI_s, xjn_s, xjn_s, if_neg (by decide), show F_X6_of 187 (824 + 2) (nI j) 6 σ = _ from pS_of (w := 6) (by omega) (by decide), e6, xbI_s, show F_X6_in i.toInt64 0 ((nI o - 1).toInt64) σ = _ from pR_in (a := 0), if_pos hi0, xbI_s, if_neg (by decide)]; dsimp only; rw [pR_ref1, xbI_s, if_neg (by decide)]
    · have hi0 := rIx0 (by omega) (Or.inr hi0 : i < 0 ∨ nI o ≤ i)
      refine yC_thr (c := 1) (b := 0) h ?_ ?_ (by decide)
      · unfold F_L_letter F_X5_letter
        rw [pF_isWriter0 (hQ.1.1.trans h1.1.1) hj hm4, xbI_s, F5_ref0, xbT_0, if_pos (xin_nI (by omega) (by decide)), nI_clamp (by omega), hcn, pF_within2, if_pos hi0, xbI_s, F5_dem01, xbT_1, xbH_1, if_pos (by decide)]
      · unfold F_X6_letter
        rw [pS_isW1 h1' hj, xbI_s, xjn_s, xjn_s, if_neg (by decide), show F_X6_of 187 (824 + 2) (nI j) 6 σ = _ from pS_of (w := 6) (by omega) (by decide), e6, xbI_s, show F_X6_in i.toInt64 0 ((nI o - 1).toInt64) σ = _ from pR_in (a := 0), if_pos hi0, xbI_s, if_neg (by decide)]; dsimp only; rw [pR_ref1, xbI_s, if_neg (by decide)]
    · rcases rng x 0 1 (by decide) (by decide) with ⟨y, -, hy, rfl⟩ | hx
      · have cl : ∀ v : Int32, F_X5_letter 0 (nI j) (nI i) (nI y) σ = some (0, v, σ) → F_L_letter 0 (nI j) (nI i) (nI y) 832 σ = some (0, xu σ 832 0 v) := fun v e => by
          unfold F_L_letter
          rw [e, xbH_0, if_pos xin01, xlet_s, cl0]
        have md : ∀ v : Int32, v = rRow (σ 826) j (15 + 2 * i + y) → F_X6_letter 824 (nI j) (nI i) (nI y) (xu σ 832 0 v) = some (v, xu (xu σ 832 0 v) 824 0 0) := fun v hv => by
          have hw : rOK ((xu σ 832 0 v) (824 + 2)) m t tr wt sz ms L (rLo 0 m (t + 1)) w := by rw [xu_other (by decide)]; exact h1
          have e5 : (xu (xu σ 832 0 v) 824 0 0) (824 + 2) = σ 826 := by rw [xu_other (by decide), xu_other (by decide)]
          have hof := pS_of (σ := xu (xu σ 832 0 v) 824 0 0) (a := 824 + 2) (k := j) (w := 15 + 2 * i + y) (by omega) (by omega)
          rw [e5] at hof
          have e6' : rRow ((xu σ 832 0 v) (824 + 2)) j 6 = nI o := by rw [xu_other (by decide)]; exact e6
          unfold F_X6_letter
          rw [pS_isW1 hw hj, xbI_s, xjn_s, xjn_s, if_neg (by decide), show F_X6_of 187 (824 + 2) (nI j) 6 (xu σ 832 0 v) = _ from pS_of (w := 6) (by omega) (by decide), e6', xbI_s, show F_X6_in (nI i).toInt64 0 ((nI o - 1).toInt64) (xu σ 832 0 v) = _ from pR_in (a := 0), if_neg (rIx1 hi (by omega)), xbI_s, if_pos (by decide), show F_X6_in (nI y).toInt64 0 1 (xu σ 832 0 v) = _ from pR_inN (a := 0) (b := 1) (Nat.zero_le _) hy (by decide), xbI_s, if_neg (by decide)]; dsimp only; rw [pR_ref0, xbI_s, if_pos rfl, nI_l15, nI_add, hof, xbI_s, hv]
        have c1 : F_X5_letter 0 (nI j) (nI i) (nI y) σ = some (0, rRow (σ 826) j (15 + 2 * i + y), σ) := by
          unfold F_X5_letter
          rw [pF_isWriter0 (hQ.1.1.trans h1.1.1) hj hm4, xbI_s, F5_ref0, xbT_0, if_pos (xin_nI (by omega) (by decide)), nI_clamp (by omega), hcn, pF_within2, if_neg (rIx1 hi (by omega)), xbI_s, F5_dem1, xbT_0, show F_X5_isWithin (nI y) 0 1 σ = _ from pF_wiN (a := 0) (b := 1) (Nat.zero_le _) hy (by decide), xbI_s, F5_dem1, xbT_0]
          obtain e | e : y = 0 ∨ y = 1 := by omega
          · subst e
            rw [if_neg (by decide), pD_number (c := 6) q6 hi ho (by decide), xbI_s]
            rfl
          · subst e
            rw [if_pos (by decide), pD_time (c := 6) q6 hi ho (by decide), xbI_s]
        exact yC_look h (cl _ c1) (md _ rfl)
      · refine yC_thr (c := 2) (b := 0) h ?_ ?_ (by decide)
        · unfold F_L_letter F_X5_letter
          rw [pF_isWriter0 (hQ.1.1.trans h1.1.1) hj hm4, xbI_s, F5_ref0, xbT_0, if_pos (xin_nI (by omega) (by decide)), nI_clamp (by omega), hcn, pF_within2, if_neg (rIx1 hi (by omega)), xbI_s, F5_dem1, xbT_0, pF_within2, if_pos (show x < 0 ∨ 1 < x from hx), xbI_s, F5_dem02, xbT_2, xbH_2, if_neg (by decide), if_pos (by decide)]
        · unfold F_X6_letter
          rw [pS_isW1 h1' hj, xbI_s, xjn_s, xjn_s, if_neg (by decide), show F_X6_of 187 (824 + 2) (nI j) 6 σ = _ from pS_of (w := 6) (by omega) (by decide), e6, xbI_s, show F_X6_in (nI i).toInt64 0 ((nI o - 1).toInt64) σ = _ from pR_in (a := 0), if_neg (rIx1 hi (by omega)), xbI_s, if_pos (by decide), show F_X6_in x.toInt64 0 1 σ = _ from pR_in (a := 0) (b := 1), if_pos (show x < 0 ∨ 1 < x from hx), xbI_s, if_pos rfl]; dsimp only; rw [pR_ref2, xbI_s, if_neg (by decide)]
theorem y_planned {T W : Nat} {σ : xS} (h : yR T W σ) (i x : Int32) : yC T W (F_L_planned 0 i x 832) (F_X6_planned 824 i x) σ := by
  obtain ⟨⟨m, t, tr, wt, sz, ms, L, w, h1, -, -, hQ⟩, -⟩ := id h
  have hQ : xQ3 σ (0 + 3) (σ 826) L := hQ
  have hL8 := h1.L8
  have e2 : σ (824 + 2) 2 = nI L := h1.1.2.2.1
  have bad : (i < 0 ∨ nI L ≤ i) → yC T W (F_L_planned 0 i x 832) (F_X6_planned 824 i x) σ := fun hi0 => by
    have hi0 := rIx0 hL8 hi0
    refine yC_thr (c := 1) (b := 0) h ?_ ?_ (by decide)
    · unfold F_L_planned F_X5_planned
      rw [hQ.2.1, pF_within2, if_pos hi0, xbI_s, F5_dem01, xbT_1, xbH_1, if_pos (by decide)]
    · unfold F_X6_planned
      rw [if_pos xin_2, xlet_s, cl_2, e2, show F_X6_in i.toInt64 0 ((nI L - 1).toInt64) σ = _ from pR_in (a := 0), if_pos hi0, xbI_s, xjn_s, if_neg (by decide)]; dsimp only; rw [pR_ref1, xbI_s, if_neg (by decide)]
  rcases pk_ix i (show L < 2 ^ 31 by omega) with hi0 | hi0 | ⟨i, hi, rfl⟩
  · exact bad (Or.inl hi0)
  · exact bad (Or.inr hi0)
  · rcases rng x 0 2 (by decide) (by decide) with ⟨y, -, hy, rfl⟩ | hx
    · have c1 : F_X5_planned 0 (nI i) (nI y) σ = some (0, σ 826 (7 + 3 * i + y), σ) := by
        unfold F_X5_planned
        rw [hQ.2.1, pF_within2, if_neg (rIx1 hi hL8), xbI_s, F5_dem1, xbT_0, show F_X5_isWithin (nI y) 0 2 σ = _ from pF_wiN (a := 0) (b := 2) (Nat.zero_le _) hy (by decide), xbI_s, F5_dem1, xbT_0]
        obtain e | e | e : y = 0 ∨ y = 1 ∨ y = 2 := by omega
        · subst e
          rw [if_pos (by decide), pD_time (c := 8) hQ.2 hi hL8 (by decide), xbI_s]
          rfl
        · subst e
          rw [if_neg (by decide), if_pos (by decide), pD_writer (c := 8) hQ.2 hi hL8 (by decide), xbI_s]
        · subst e
          rw [if_neg (by decide), if_neg (by decide), pD_number (c := 8) hQ.2 hi hL8 (by decide), xbI_s]
      refine yC_look (v := σ 826 (7 + 3 * i + y)) h ?_ ?_
      · unfold F_L_planned
        rw [c1, xbH_0, if_pos xin01, xlet_s, cl0]
      · have e2' : (xu σ 832 0 (σ 826 (7 + 3 * i + y))) (824 + 2) 2 = nI L := by rw [xu_other (by decide)]; exact e2
        unfold F_X6_planned
        rw [if_pos xin_2, xlet_s, cl_2, e2', show F_X6_in (nI i).toInt64 0 ((nI L - 1).toInt64) _ = _ from pR_in (a := 0), if_neg (rIx1 hi hL8), xbI_s, xjn_s, if_pos (by decide), show F_X6_in (nI y).toInt64 0 2 _ = _ from pR_inN (a := 0) (b := 2) (Nat.zero_le _) hy (by decide), xbI_s, if_neg (by decide)]; dsimp only; rw [pR_ref0, xbI_s, if_pos rfl, nI_7x, nI_add, if_pos (xin_nI (by omega) (by decide)), nI_clamp (by omega), xlet_s, xu_other (by decide), xu_other (by decide)]
    · refine yC_thr (c := 2) (b := 0) h ?_ ?_ (by decide)
      · unfold F_L_planned F_X5_planned
        rw [hQ.2.1, pF_within2, if_neg (rIx1 hi hL8), xbI_s, F5_dem1, xbT_0, pF_within2, if_pos (show x < 0 ∨ 2 < x from hx), xbI_s, F5_dem02, xbT_2, xbH_2, if_neg (by decide), if_pos (by decide)]
      · unfold F_X6_planned
        rw [if_pos xin_2, xlet_s, cl_2, e2, show F_X6_in (nI i).toInt64 0 ((nI L - 1).toInt64) σ = _ from pR_in (a := 0), if_neg (rIx1 hi hL8), xbI_s, xjn_s, if_pos (by decide), show F_X6_in x.toInt64 0 2 σ = _ from pR_in (a := 0) (b := 2), if_pos (show x < 0 ∨ 2 < x from hx), xbI_s, if_pos rfl]; dsimp only; rw [pR_ref2, xbI_s, if_neg (by decide)]
