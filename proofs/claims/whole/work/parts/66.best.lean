theorem y_ifHeld {T W : Nat} {σ : xS} (h : yR T W σ) (hT : T < 90000) (hW : W < 2 ^ 24) (k x : Int32) : yC T W (F_L_ifHeld 0 k x 832) (F_X6_ifHeld 824 k x) σ := by
  obtain ⟨⟨m, t, tr, wt, sg, ms, L, w, h1, ht, hw, hQ⟩, -⟩ := id h
  have hQ : xQ3 σ (0 + 3) (σ 826) L := hQ
  have hm4 := h1.m4
  have hL8 := h1.L8
  have h1' : rOK (σ (824 + 2)) m t tr wt sg ms L (rLo 0 m (t + 1)) w := h1
  rcases rIs m hm4 k with hk | ⟨j, hj, rfl⟩
  · refine yC_thr (c := 1) (b := 0) h ?_ ?_ (by decide)
    · unfold F_L_ifHeld F_X5_ifHeld
      rw [pF_isW0 (hQ.1.1.trans h1.1.1) hk, xbI_s, F5_ref1, xbT_1, xbH_1, if_pos (by decide)]
    · unfold F_X6_ifHeld
      rw [pS_isW0 h1' hk, xbI_s, xjn_s, if_neg (by decide)]; dsimp only; rw [pR_ref1, xbI_s, if_neg (by decide)]
  · rcases rng x 0 3 (by decide) (by decide) with ⟨i, -, hi, rfl⟩ | hx
    · have hI : ∀ s : xS, F_X6_in (nI i).toInt64 0 3 s = some (1, s) := fun s => pR_inN (a := 0) (b := 3) (Nat.zero_le _) hi (by decide)
      have hF : F_X5_isWithin (nI i) 0 3 σ = some (1, σ) := pF_wiN (a := 0) (b := 3) (Nat.zero_le _) hi (by decide)
      obtain ⟨r, hr⟩ : ∃ y, y = rCp (σ 826) (σ 827) 0 0 187 := ⟨_, rfl⟩
      have hr187 : ∀ i, i < 187 → r i = σ 826 i := fun i hi => by rw [hr]; exact rCp0 i hi
      have hR : rOK r m t tr wt sg ms L (rLo 0 m (t + 1)) w := h1.c187 hr187
      obtain ⟨z, c1, c2, c3⟩ := pT_copy (p := 0 + 695) (hQ.c187 hL8 hr187) hL8 (by omega) hR.h01
      obtain ⟨b, hb⟩ : ∃ y : Int32, y = (if i % 2 = 0 then 1 else 0) := ⟨_, rfl⟩
      have hb01 : b = 0 ∨ b = 1 := by rw [hb]; split <;> simp
      obtain ⟨z1, a1, a2, a3⟩ := pT_attH (c := 0) (b := b) (by omega) hR c3 hj hb01
      have hR2 := hR.hold (b := b) (by omega) rLo_le1 hj hb01
      obtain ⟨o, n, q⟩ := c3.1.2.2.2 j (by omega)
      have hbe : z (0 + 695 + 7 + 9 * j) 5 = rRow r j 3 := q.1.2.2.2.1
      have pre : ∀ K : Int32 → xS → Option xR, xjn K (fun (KK21 : Int32 → xS → Option xR) => xjn (fun (σ23 : xS) => KK21 1 σ23) (fun (KK24 : xS → Option xR) => if nI i = 0 then (KK24 z) else (if ¬ nI i = 2 then (KK21 0 z) else (KK24 z)))) = K b z := by
        intro K
        rw [xjn_s, xjn_s, hb]
        obtain e | e | e | e : i = 0 ∨ i = 1 ∨ i = 2 ∨ i = 3 := by omega
        all_goals subst e
        · rw [if_pos (by decide)]; rfl
        · rw [if_neg (by decide), if_pos (by decide)]; rfl
        · rw [if_neg (by decide), if_neg (by decide)]; rfl
        · rw [if_neg (by decide), if_pos (by decide)]; rfl
      have premod : ∀ (K : Int32 → xS → Option (Int32 × xS)) (s : xS), xjn K (fun (KK20 : Int32 → xS → Option (Int32 × xS)) => if ¬ (nI i - nI i / 2 * 2) = 0 then (KK20 0 s) else (KK20 1 s)) = K b s := by
        intro K s
        rw [xjn_s, hb]
        obtain e | e | e | e : i = 0 ∨ i = 1 ∨ i = 2 ∨ i = 3 := by omega
        all_goals subst e
        · rw [if_neg (by decide)]; rfl
        · rw [if_pos (by decide)]; rfl
        · rw [if_neg (by decide)]; rfl
        · rw [if_pos (by decide)]; rfl
      by_cases hi2 : 2 ≤ i
      · have le2 : (2 : Int32) ≤ nI i := nI_le (a := 2) (b := i) hi2 (by omega)
        obtain ⟨z2, L2, d1, d2, -, d3, -⟩ := pT_ticks (p := 0 + 695) (f := j) (e := j + 1) (n := 400) (by omega) (Nat.le_succ j) (by omega) (by omega) (by omega) (hR2.one hj) a3
        obtain ⟨L3, -, ok3⟩ := pK_ticks (Nat.le_refl m) 400 t L (w + 6) (rHold r j b) (by omega) (by omega) hR2
        have fr := (c2.trans a2).trans d2
        have sz : ySame σ z2 := ySame.fr (lo := 695) (hi := 738) fr (Or.inl ⟨by omega, by omega⟩)
        have eqr : rEq j (rTicks 0 m 400 (rHold r j b)) (rTicks j (j + 1) 400 (rHold r j b)) := rEq.ticks (Nat.zero_le _) hj (Nat.le_refl _) (Nat.lt_succ_self _) 400 _ _ (rEq.refl (by rw [hR2.LL]; exact hL8))
        obtain ⟨o2, n2, q2⟩ := d3.1.2.2.2 j (by omega)
        have hse : z2 (0 + 695 + 7 + 9 * j) 5 = rRow (rTicks 0 m 400 (rHold r j b)) j 3 := by rw [q2.1.2.2.2.1, eqr.2.1]
        obtain ⟨v, hv⟩ : ∃ y, y = rRow (rTicks 0 m 400 (rHold r j b)) j 3 - rRow r j 3 := ⟨_, rfl⟩
        obtain ⟨s, hs⟩ : ∃ y, y = xu z2 832 0 v := ⟨_, rfl⟩
        have s826 : s 826 = σ 826 := by rw [hs, xu_other (by decide), sz.1 826 (by omega)]
        have s827 : s 827 = σ 827 := by rw [hs, xu_other (by decide), fr 827 (by omega)]
        have cp := pS_cp (s := xu s 824 0 0) (f := σ 826) (g := σ 827) (by rw [xu_other (by decide)]; exact s826) (by rw [xu_other (by decide)]; exact s827)
        rw [← hr] at cp
        have eh := pR_holdOn (σ := xu s 824 0 0) (a := 824 + 3) hj hR hb01
        have et := pR_ticksOn (σ := xu s 824 0 0) (a := 824 + 3) (n := 400) (by omega) (by omega) (by omega) hR2
        have e3 := pR_of (σ := xu s 824 0 0) (a := 824 + 3) (k := j) (w := 3) (r := rTicks 0 m 400 (rHold r j b)) (by omega) (by decide)
        have e4 := pS_of (σ := xset (xu s 824 0 0) (824 + 3) (rTicks 0 m 400 (rHold r j b))) (a := 824 + 2) (k := j) (w := 3) (by omega) (by decide)
        have e26 : (xset (xu s 824 0 0) (824 + 3) (rTicks 0 m 400 (rHold r j b))) (824 + 2) = σ 826 := by rw [xset_other (by decide), xu_other (by decide)]; exact s826
        rw [e26, ← rRow_187 hr187 (show j < 4 by omega)] at e4
        refine yC_ahead (z := z2) (v := v) (σ2 := xset (xu s 824 0 0) (824 + 3) (rTicks 0 m 400 (rHold r j b))) h ?_ sz ?_ trial0 (by rw [trial8, hs]) (by rw [← hs]; exact ySame.trial)
        · unfold F_L_ifHeld F_X5_ifHeld
          rw [pF_isWriter0 (hQ.1.1.trans h1.1.1) hj hm4, xbI_s, F5_ref0, xbT_0, hF, xbI_s, F5_dem1, xbT_0, c1, xbV_s, if_pos (xin_nI (by omega) (by decide)), nI_clamp (by omega), xlet_s, hbe, pre, a1, xbI_s, if_pos le2, nI_1, show F_X3_passTicks (0 + 695) 400 (nI j) (nI (j + 1)) z1 = _ from d1, xbI_s, if_pos (xin_nI (by omega) (by decide)), hse, ← hv, xbH_0, if_pos xin01, xlet_s, cl0]
        · rw [← hs]
          have h2 : rOK (s (824 + 2)) m t tr wt sg ms L (rLo 0 m (t + 1)) w := by rw [show s (824 + 2) = σ 826 from s826]; exact h1
          unfold F_X6_ifHeld
          rw [pS_isW1 h2 hj, xbI_s, xjn_s, if_pos (by decide), hI, xbI_s, if_neg (by decide)]; dsimp only; rw [pR_ref0, xbI_s, if_pos rfl, cp, xbV_s, premod, eh, xbI_s, if_pos le2, show F_X6_ticksOn 187 (824 + 3) 400 _ = _ from et, xbI_s, show F_X6_of 187 (824 + 3) (nI j) 3 _ = _ from e3, xbI_s, show F_X6_of 187 (824 + 2) (nI j) 3 _ = _ from e4, xbI_s, hv]
      · have le2 : ¬ (2 : Int32) ≤ nI i := nI_ge (a := i) (b := 2) (by omega) (by decide)
        obtain ⟨z2, d1, d2⟩ := pT_until (M := 400) hj (by omega) (by omega) (by omega) hR2 a3
        have fr := (c2.trans a2).trans d2
        have sz : ySame σ z2 := ySame.fr (lo := 695) (hi := 738) fr (Or.inl ⟨by omega, by omega⟩)
        obtain ⟨v, hv⟩ : ∃ y, y = rVal 0 (rFst (rTick 0 m) (rDn j) 400 (rHold r j b)) := ⟨_, rfl⟩
        rw [← hv] at d1
        obtain ⟨s, hs⟩ : ∃ y, y = xu z2 832 0 v := ⟨_, rfl⟩
        have s826 : s 826 = σ 826 := by rw [hs, xu_other (by decide), sz.1 826 (by omega)]
        have s827 : s 827 = σ 827 := by rw [hs, xu_other (by decide), fr 827 (by omega)]
        have cp := pS_cp (s := xu s 824 0 0) (f := σ 826) (g := σ 827) (by rw [xu_other (by decide)]; exact s826) (by rw [xu_other (by decide)]; exact s827)
        rw [← hr] at cp
        have eh := pR_holdOn (σ := xu s 824 0 0) (a := 824 + 3) hj hR hb01
        obtain ⟨r2, u1⟩ := pR_until (σ := xu s 824 0 0) (a := 824 + 3) (show j < 4 by omega) (by omega) (by omega) hR2
        rw [← hv] at u1
        refine yC_ahead (z := z2) (v := v) (σ2 := xset (xu s 824 0 0) (824 + 3) r2) h ?_ sz ?_ trial0 (by rw [trial8, hs]) (by rw [← hs]; exact ySame.trial)
        · unfold F_L_ifHeld F_X5_ifHeld
          rw [pF_isWriter0 (hQ.1.1.trans h1.1.1) hj hm4, xbI_s, F5_ref0, xbT_0, hF, xbI_s, F5_dem1, xbT_0, c1, xbV_s, if_pos (xin_nI (by omega) (by decide)), nI_clamp (by omega), xlet_s, hbe, pre, a1, xbI_s, if_neg le2, show F_X3_ticksUntilDone (0 + 695) (nI j) 400 z1 = _ from d1, xbI_s, xbH_0, if_pos xin01, xlet_s, cl0]
        · rw [← hs]
          have h2 : rOK (s (824 + 2)) m t tr wt sg ms L (rLo 0 m (t + 1)) w := by rw [show s (824 + 2) = σ 826 from s826]; exact h1
          unfold F_X6_ifHeld
          rw [pS_isW1 h2 hj, xbI_s, xjn_s, if_pos (by decide), hI, xbI_s, if_neg (by decide)]; dsimp only; rw [pR_ref0, xbI_s, if_pos rfl, cp, xbV_s, premod, eh, xbI_s, if_neg le2, u1, xbI_s]
    · refine yC_thr (c := 2) (b := 0) h ?_ ?_ (by decide)
      · unfold F_L_ifHeld F_X5_ifHeld
        rw [pF_isWriter0 (hQ.1.1.trans h1.1.1) hj hm4, xbI_s, F5_ref0, xbT_0, pF_within2, if_pos (show x < 0 ∨ 3 < x from hx), xbI_s, F5_dem02, xbT_2, xbH_2, if_neg (by decide), if_pos (by decide)]
      · unfold F_X6_ifHeld
        rw [pS_isW1 h1' hj, xbI_s, xjn_s, if_pos (by decide), show F_X6_in x.toInt64 0 3 σ = _ from pR_in (a := 0) (b := 3), if_pos (show x < 0 ∨ 3 < x from hx), xbI_s, if_pos rfl]; dsimp only; rw [pR_ref2, xbI_s, if_neg (by decide)]
