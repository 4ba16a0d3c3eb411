/-! CALLS THAT LOOK AHEAD -/
theorem yC_ahead {T W : Nat} {FL FM : xS → Option (Int32 × xS)} {σ z σ2 : xS} {v : Int32} (h : yR T W σ) (h1 : FL σ = some (0, xu z 832 0 v)) (hz : ySame σ z) (h2 : FM (xu z 832 0 v) = some (v, σ2)) (e0 : σ2 824 0 = 0) (e832 : σ2 832 = (xu z 832 0 v) 832) (hs : ySame (xu z 832 0 v) σ2) : yC T W FL FM σ :=
  ⟨0, _, v, σ2, h1, h2, e0, fun _ => by rw [e832, xu_same, up_s], h.ex ((hz.trans ySame.out).trans hs)⟩
theorem ySame.trial {s : xS} {r : Nat → Int32} : ySame s (xset (xu s 824 0 0) (824 + 3) r) :=
  ⟨fun i hi => by rw [xset_other (show i ≠ 824 + 3 by omega), xu_other (by omega)], by rw [xset_other (by decide), xu_other (by decide)], by rw [xset_other (by decide), xu_same, up_n (by decide)], by rw [xset_other (by decide), xu_same, up_n (by decide)]⟩
theorem trial0 {s : xS} {r : Nat → Int32} : (xset (xu s 824 0 0) (824 + 3) r) 824 0 = 0 := by rw [xset_other (by decide), xu_same, up_s]
theorem trial8 {s : xS} {r : Nat → Int32} : (xset (xu s 824 0 0) (824 + 3) r) 832 = s 832 := by rw [xset_other (by decide), xu_other (by decide)]
theorem pS_cp {s : xS} {f g : Nat → Int32} (h2 : s (824 + 2) = f) (h3 : s (824 + 3) = g) : F_X6_copyState 187 (824 + 2) 0 187 (824 + 3) 0 s = some (xset s (824 + 3) (rCp f g 0 0 187)) := by
  have e := pR_copy (σ := s) (n1 := 187) (a1 := 824 + 2) (n3 := 187) (a3 := 824 + 3) (x := 0) (y := 0) (by omega) (by omega) (by omega) (by omega) (by decide)
  rw [h2, h3] at e
  exact e
theorem rCp0 {f g : Nat → Int32} : ∀ i, i < 187 → rCp f g 0 0 187 i = f i := fun i hi => by
  unfold rCp
  rw [if_pos (by omega), Nat.sub_zero, Nat.zero_add]
theorem y_doneIn {T W : Nat} {σ : xS} (h : yR T W σ) (hT : T < 90000) (hW : W < 2 ^ 24) (k : Int32) : yC T W (F_L_doneIn 0 k 832) (F_X6_doneIn 824 k) σ := by
  obtain ⟨⟨m, t, tr, wt, sg, ms, L, w, h1, ht, hw, hQ⟩, -⟩ := id h
  have hQ : xQ3 σ (0 + 3) (σ 826) L := hQ
  have hm4 := h1.m4
  have hL8 := h1.L8
  have h1' : rOK (σ (824 + 2)) m t tr wt sg ms L (rLo 0 m (t + 1)) w := h1
  rcases rIs m hm4 k with hk | ⟨j, hj, rfl⟩
  · refine yC_thr (c := 1) (b := 0) h ?_ ?_ (by decide)
    · unfold F_L_doneIn F_X5_doneIn
      rw [pF_isW0 (hQ.1.1.trans h1.1.1) hk, xbI_s, F5_ref1, xbT_1, xbH_1, if_pos (by decide)]
    · unfold F_X6_doneIn
      rw [pS_isW0 h1' hk, xbI_s, xjn_s, if_pos rfl]; dsimp only; rw [pR_ref1, xbI_s, if_neg (by decide)]
  · obtain ⟨r, hr⟩ : ∃ y, y = rCp (σ 826) (σ 827) 0 0 187 := ⟨_, rfl⟩
    have hr187 : ∀ i, i < 187 → r i = σ 826 i := fun i hi => by rw [hr]; exact rCp0 i hi
    have hR : rOK r m t tr wt sg ms L (rLo 0 m (t + 1)) w := h1.c187 hr187
    obtain ⟨z, c1, c2, c3⟩ := pT_copy (p := 0 + 695) (hQ.c187 hL8 hr187) hL8 (by omega) hR.h01
    obtain ⟨z2, d1, d2⟩ := pT_until (M := 400) hj (by omega) (by omega) (by omega) hR c3
    have sz : ySame σ z2 := ySame.fr (lo := 695) (hi := 738) (c2.trans d2) (Or.inl ⟨by omega, by omega⟩)
    obtain ⟨v, hv⟩ : ∃ y, y = rVal 0 (rFst (rTick 0 m) (rDn j) 400 r) := ⟨_, rfl⟩
    rw [← hv] at d1
    obtain ⟨s, hs⟩ : ∃ y, y = xu z2 832 0 v := ⟨_, rfl⟩
    have s826 : s 826 = σ 826 := by rw [hs, xu_other (by decide), sz.1 826 (by omega)]
    have s827 : s 827 = σ 827 := by rw [hs, xu_other (by decide), (c2.trans d2) 827 (by omega)]
    obtain ⟨r2, u1⟩ := pR_until (σ := xu s 824 0 0) (a := 824 + 3) (show j < 4 by omega) (by omega) (by omega) hR
    rw [← hv] at u1
    have cp := pS_cp (s := xu s 824 0 0) (f := σ 826) (g := σ 827) (by rw [xu_other (by decide)]; exact s826) (by rw [xu_other (by decide)]; exact s827)
    rw [← hr] at cp
    refine yC_ahead (z := z2) (v := v) (σ2 := xset (xu s 824 0 0) (824 + 3) r2) h ?_ sz ?_ trial0 (by rw [trial8, hs]) (by rw [← hs]; exact ySame.trial)
    · unfold F_L_doneIn F_X5_doneIn
      rw [pF_isWriter0 (hQ.1.1.trans h1.1.1) hj hm4, xbI_s, F5_ref0, xbT_0, c1, xbV_s, show F_X3_ticksUntilDone (0 + 695) (nI j) 400 z = _ from d1, xbI_s, xbH_0, if_pos xin01, xlet_s, cl0]
    · rw [← hs]
      have h2 : rOK (s (824 + 2)) m t tr wt sg ms L (rLo 0 m (t + 1)) w := by rw [show s (824 + 2) = σ 826 from s826]; exact h1
      unfold F_X6_doneIn
      rw [pS_isW1 h2 hj, xbI_s, xjn_s, if_neg (by decide)]; dsimp only; rw [pR_ref0, xbI_s, if_pos rfl, cp, xbV_s, u1, xbI_s]
theorem y_thereIn {T W : Nat} {σ : xS} (h : yR T W σ) (hT : T < 90000) (hW : W < 2 ^ 24) (k x : Int32) : yC T W (F_L_thereIn 0 k x 832) (F_X6_thereIn 824 k x) σ := by
  obtain ⟨⟨m, t, tr, wt, sg, ms, L, w, h1, ht, hw, hQ⟩, -⟩ := id h
  have hQ : xQ3 σ (0 + 3) (σ 826) L := hQ
  have hm4 := h1.m4
  have hL8 := h1.L8
  have h1' : rOK (σ (824 + 2)) m t tr wt sg ms L (rLo 0 m (t + 1)) w := h1
  rcases rIs m hm4 k with hk | ⟨j, hj, rfl⟩
  · refine yC_thr (c := 1) (b := 0) h ?_ ?_ (by decide)
    · unfold F_L_thereIn F_X5_thereIn
      rw [pT_fW, pT_fNote0 hQ.1 h1.1.1 hk, xbI_s, xbI_s, if_pos (by decide), F5_ref1, xbT_1, xbH_1, if_pos (by decide)]
    · unfold F_X6_thereIn
      rw [pS_isW0 h1' hk, xbI_s, xjn_s, if_neg (by decide)]; dsimp only; rw [pR_ref1, xbI_s, if_neg (by decide)]
  · rcases rng x 1 500 (by decide) (by decide) with ⟨y, hy1, hy, rfl⟩ | hx
    · have hN : ∀ s : xS, F_X6_isNote (nI y) s = some (1, s) := fun s => by
        rw [pR_isNote, if_neg]
        intro q
        rcases q with q | q
        · exact nI_nlt (a := y) (b := 1) hy1 (by omega) q
        · exact nI_nlt (a := 500) (b := y) hy (by decide) q
      by_cases hr9 : (9999 : Int32) < rRow (σ 826) j 0 + nI y
      · refine yC_look (v := -1) h ?_ ?_
        · unfold F_L_thereIn F_X5_thereIn
          rw [pT_fW, pF_faultOfNote hQ.1 h1.1.1 hj hm4 hy1 hy, if_pos hr9, xbI_s, xbI_s, if_neg (by decide), xbH_0, if_pos xin01, xlet_s, cl0]
        · have h2 : rOK ((xu σ 832 0 (-1)) (824 + 2)) m t tr wt sg ms L (rLo 0 m (t + 1)) w := by rw [xu_other (by decide)]; exact h1
          have e5 : (xu (xu σ 832 0 (-1)) 824 0 0) (824 + 2) = σ 826 := by rw [xu_other (by decide), xu_other (by decide)]
          unfold F_X6_thereIn
          rw [pS_isW1 h2 hj, xbI_s, xjn_s, if_pos (by decide), hN, xbI_s, if_neg (by decide)]; dsimp only; rw [pR_ref0, xbI_s, if_pos rfl, pS_can (by omega), e5, if_pos hr9, xbI_s, if_neg (by decide)]
      · obtain ⟨r, hr⟩ : ∃ y, y = rCp (σ 826) (σ 827) 0 0 187 := ⟨_, rfl⟩
        have hr187 : ∀ i, i < 187 → r i = σ 826 i := fun i hi => by rw [hr]; exact rCp0 i hi
        have hR : rOK r m t tr wt sg ms L (rLo 0 m (t + 1)) w := h1.c187 hr187
        have hr9' : ¬ (9999 : Int32) < rRow r j 0 + nI y := by rw [rRow_187 hr187 (by omega)]; exact hr9
        obtain ⟨z, c1, c2, c3⟩ := pT_copy (p := 0 + 695) (hQ.c187 hL8 hr187) hL8 (by omega) hR.h01
        obtain ⟨z1, a1, a2, a3⟩ := pT_attW (c := 0) (by omega) hR c3 hj hy1 hy hr9'
        have hR2 := hR.write (by omega) rLo_le1 hj hy hr9'
        obtain ⟨all, hall⟩ : ∃ q, q = rRow (rW r j (nI y)) j 2 := ⟨_, rfl⟩
        obtain ⟨z2, d1, d2⟩ := pT_there (all := all) hj (by omega) (by omega) hR2 a3
        have fr := (c2.trans a2).trans d2
        have sz : ySame σ z2 := ySame.fr (lo := 695) (hi := 738) fr (Or.inl ⟨by omega, by omega⟩)
        obtain ⟨v, hv⟩ : ∃ q, q = rVal 0 (rFst (rTick 0 m) (rTh j all) 400 (rW r j (nI y))) := ⟨_, rfl⟩
        rw [← hv] at d1
        obtain ⟨s, hs⟩ : ∃ q, q = xu z2 832 0 v := ⟨_, rfl⟩
        have s826 : s 826 = σ 826 := by rw [hs, xu_other (by decide), sz.1 826 (by omega)]
        have s827 : s 827 = σ 827 := by rw [hs, xu_other (by decide), fr 827 (by omega)]
        obtain ⟨r2, u1⟩ := pL_X6_there (σ := xu s 824 0 0) (o := 824) (all := all) (show j < 4 by omega) 400 0 1000 t L (w + 6) (rW r j (nI y)) (by omega) (by omega) (by omega) (by omega) hR2
        rw [← hv] at u1
        have cp := pS_cp (s := xu s 824 0 0) (f := σ 826) (g := σ 827) (by rw [xu_other (by decide)]; exact s826) (by rw [xu_other (by decide)]; exact s827)
        rw [← hr] at cp
        have ew := pR_writeOn (σ := xu s 824 0 0) (a := 824 + 3) (k := j) (s := nI y) (by omega) hR.1 (hR.2.2.1 j hj)
        have e2 := pR_of (σ := xu s 824 0 0) (a := 824 + 3) (k := j) (w := 2) (r := rW r j (nI y)) (by omega) (by decide)
        rw [← hall] at e2
        have hwr : z1 (0 + 695 + 7 + 9 * j) 4 = all := by
          obtain ⟨o, n, q⟩ := a3.1.2.2.2 j (by omega)
          rw [q.1.2.2.1, hall]
        refine yC_ahead (z := z2) (v := v) (σ2 := xset (xu s 824 0 0) (824 + 3) r2) h ?_ sz ?_ trial0 (by rw [trial8, hs]) (by rw [← hs]; exact ySame.trial)
        · unfold F_L_thereIn F_X5_thereIn
          rw [pT_fW, pF_faultOfNote hQ.1 h1.1.1 hj hm4 hy1 hy, if_neg hr9, xbI_s, xbI_s, if_pos (by decide), F5_ref0, xbT_0, c1, xbV_s, a1, xbI_s, if_pos (xin_nI (by omega) (by decide)), nI_clamp (by omega), hwr, d1, xbI_s, xbH_0, if_pos xin01, xlet_s, cl0]
        · rw [← hs]
          have h2 : rOK (s (824 + 2)) m t tr wt sg ms L (rLo 0 m (t + 1)) w := by rw [show s (824 + 2) = σ 826 from s826]; exact h1
          have e5 : (xu s 824 0 0) (824 + 2) = σ 826 := by rw [xu_other (by decide)]; exact s826
          unfold F_X6_thereIn
          rw [pS_isW1 h2 hj, xbI_s, xjn_s, if_pos (by decide), hN, xbI_s, if_neg (by decide)]; dsimp only; rw [pR_ref0, xbI_s, if_pos rfl, pS_can (by omega), e5, if_neg hr9, xbI_s, if_pos (by decide), cp, xbV_s, ew, xbI_s, show F_X6_of 187 (824 + 3) (nI j) 2 _ = _ from e2, xbI_s]
          exact u1
    · refine yC_thr (c := 2) (b := 0) h ?_ ?_ (by decide)
      · unfold F_L_thereIn F_X5_thereIn
        rw [pT_fW, pT_fNote1 hQ.1 h1.1.1 hj hm4 hx, xbI_s, xbI_s, if_pos (by decide), F5_ref2, xbT_2, xbH_2, if_neg (by decide), if_pos (by decide)]
      · unfold F_X6_thereIn
        rw [pS_isW1 h1' hj, xbI_s, xjn_s, if_pos (by decide), pR_isNote, if_pos (show x < 1 ∨ 500 < x from hx), xbI_s, if_pos rfl]; dsimp only; rw [pR_ref2, xbI_s, if_neg (by decide)]
