theorem pL_load118 {KK : xS → Option xR} {σ : xS} : L_X5_load_118 0 KK 1000 0 σ = KK (xu (xu σ (0 + 651) 0 0) (0 + 651) 1 0) := by
  have vn : vp_nar .boolean (0 : Int32) = 0 := by decide
  have h : L_X5_load_118 0 KK (997 + 1 + 1 + 1) (nI 0) σ = KK (xu (xu σ (0 + 651) 0 0) (0 + 651) 1 0) := by
    rw [L_X5_load_118, if_neg (by decide), if_pos (by decide), xlet_s, xlet_s, vn, nI_1, L_X5_load_118, if_neg (by decide), if_pos (by decide), xlet_s, xlet_s, nI_1, L_X5_load_118, if_pos (by decide), vn]
    rfl
  exact h
theorem y_load {T W : Nat} {σ : xS} (h : yR T W σ) (hT : 12000 ≤ T) (hW : 900000 ≤ W) : yC T W (F_L_load 0 832) (F_X6_load 824) σ := by
  obtain ⟨n, c, tx, tm⟩ := h.2.1.tx
  obtain ⟨z, e1, e2, e3⟩ := pF_firstErr tx
  have zi : ∀ i, i ≠ 1 → z i = σ i := fun i hi => e2 i (by omega)
  have hn := tx.1
  by_cases hE : pWhole n c = -1
  · -- all is well
    obtain ⟨w, p, hhd, hp2, hw1, hw4, hpn⟩ : ∃ w p, pHd n c = .inl (w, p) ∧ p = 2 ∧ 1 ≤ w ∧ w ≤ 4 ∧ p ≤ n := by
      rcases pF_head tx with ⟨w, p, q1, q2, q3, q4, q5, q6⟩ | ⟨e, x, z', q1, q2, q3, q4, q5, q6⟩
      · exact ⟨w, p, q1, q3, q5, q6, q4⟩
      · exfalso
        unfold pWhole at hE
        rw [q1] at hE
        exact nI_nm1 (by omega) hE
    have hErr : pErr n c 120 p = -1 := by
      unfold pWhole at hE
      rw [hhd] at hE
      exact hE
    obtain ⟨f, hf⟩ : ∃ y, y = σ 827 := ⟨_, rfl⟩
    obtain ⟨za, a1, a2, a3, a4, a5, a6⟩ := pF_X3_takeFirst (0 + 3) z
    have txz : yTx z n c := tx.fr e2 e3
    have txa : yTx za n c := ⟨txz.1, by rw [a2 1 (by omega)]; exact txz.2.1, fun i hi => by rw [a2 2 (by omega)]; exact txz.2.2 i hi⟩
    have hd : F_X4_readHead (0 + 1) za = some (nI w, y4 za (nI p) (-1)) := by
      rcases pF_head txa with ⟨w', p', q1, q2, -⟩ | ⟨e, x, z', q1, -⟩
      · rw [hhd] at q1
        obtain ⟨rfl, rfl⟩ := Prod.mk.inj (Sum.inl.inj q1)
        exact q2
      · rw [hhd] at q1
        exact absurd q1 (by simp)
    obtain ⟨zb, b1, b2, b3⟩ := pT_begin (p := 0 + 3) (w := nI w) (σ := y4 za (nI p) (-1)) (r := mFirst f) (fun i hi => by
      rw [y4_o (by decide)]
      obtain e | e | e | e : i = 0 ∨ i = 1 ∨ i = 2 ∨ i = 3 := by omega
      · subst e; exact a3
      · subst e; exact a4
      · subst e; exact a5
      · subst e; exact a6)
    obtain ⟨r0, hr0⟩ : ∃ y, y = mClear (mFirst f) (nI w) := ⟨_, rfl⟩
    rw [← hr0] at b3
    have hSb : yS zb (0 + 3) r0 0 0 := ⟨w, 0, 3, 6, 20, 3, 0, 0, by rw [hr0]; exact rOK.clear ⟨by omega, by omega, by omega, by omega, by omega, by omega, by omega⟩ rfl rfl rfl rfl hw1 hw4, by omega, by omega, b3⟩
    have txb : yTx zb n c := ⟨txa.1, by rw [b2 1 (by omega), y4_n (by decide) (by decide)]; exact txa.2.1, fun i hi => by rw [b2 2 (by omega), y4_o (by decide)]; exact txa.2.2 i hi⟩
    obtain ⟨r', hr'⟩ : ∃ y, y = (pRun n c 120 p r0 0).1 := ⟨_, rfl⟩
    obtain ⟨o', ho'⟩ : ∃ y, y = (pRun n c 120 p r0 0).2 := ⟨_, rfl⟩
    obtain ⟨zc, c1, c2, c3, c4⟩ := pL_load (KK := fun (zz11 : Int32) (σ12 : xS) => xbV (F_X1_forgetAll (0 + 46) σ12) (fun (σ13 : xS) => L_X5_load_118 0 (fun (σ14 : xS) => some (0, zz11, σ14)) 1000 0 σ13)) 120 0 1000 p 0 0 0 r0 zb (by decide) (by decide) (by omega) txb (by rw [b2 1 (by omega), y4_2]) (by rw [b2 1 (by omega), y4_3]) (by omega) hSb (by decide) (by decide) hErr
    rw [← hr'] at c2
    rw [← ho'] at c1
    obtain ⟨zd, hzd⟩ : ∃ y, y = xu (xu (xu zc (0 + 46) 2 0) (0 + 651) 0 0) (0 + 651) 1 0 := ⟨_, rfl⟩
    have cl5 : F_X5_load 0 σ = some (0, nI o', zd) := by
      unfold F_X5_load
      rw [show F_X4_firstError (0 + 1) σ = _ from e1, xbI_s, xjn_s, hE, if_neg (fun q => q rfl)]
      dsimp only
      rw [F5_dem1, xbT_0, a1, xbV_s, hd, xbI_s, b1, xbV_s]
      refine (show _ = _ from c1).trans ?_
      unfold F_X1_forgetAll
      rw [xlet_s, xbV_s, pL_load118, ← hzd]
    -- where nothing changes
    have dfr : ∀ i, i ≠ 1 → ¬ (3 ≤ i ∧ i < 46) → i ≠ 46 → i ≠ 651 → zd i = σ i := fun i p1 p2 p3 p4 => by
      rw [hzd, xu_other (show i ≠ 0 + 651 by omega), xu_other (show i ≠ 0 + 651 by omega), xu_other (show i ≠ 0 + 46 by omega), c3 i p1 p2, b2 i (by omega), y4_o p1, a2 i (by omega), zi i p1]
    have d11 : zd 1 1 = σ 1 1 := by
      rw [hzd, xu_other (by decide), xu_other (by decide), xu_other (by decide), c4, b2 1 (by omega), y4_n (by decide) (by decide), a2 1 (by omega), e3]
    obtain ⟨s, hs⟩ : ∃ y, y = xu zd 832 0 (nI o') := ⟨_, rfl⟩
    have sfr : ∀ i, i ≠ 832 → s i = zd i := fun i p1 => by rw [hs, xu_other p1]
    have tms : yTm s n c := ⟨tm.1, by rw [sfr _ (by decide), dfr _ (by decide) (by omega) (by decide) (by decide)]; exact tm.2.1, fun i hi => by rw [sfr _ (by decide), dfr _ (by decide) (by omega) (by decide) (by decide)]; exact tm.2.2 i hi⟩
    obtain ⟨z2, g1, g2, g3, g4⟩ := pM_text tms
    obtain ⟨t1, t2⟩ := g4 w p hhd hE
    rw [sfr 827 (by decide), dfr 827 (by decide) (by omega) (by decide) (by decide), ← hf, ← hr0] at t1 t2
    rw [← hr'] at t1
    rw [← ho'] at t2
    have cp := pR_copy (σ := xu z2 824 0 0) (n1 := 187) (a1 := 824 + 3) (n3 := 187) (a3 := 824 + 2) (x := 0) (y := 0) (by omega) (by omega) (by omega) (by omega) (by decide)
    rw [show (xu z2 824 0 0) (824 + 3) = r' by rw [xu_other (by decide)]; exact t1] at cp
    obtain ⟨r2, hr2⟩ : ∃ y, y = rCp r' ((xu z2 824 0 0) (824 + 2)) 0 0 187 := ⟨_, rfl⟩
    rw [← hr2] at cp
    have vn : vp_nar .boolean (0 : Int32) = 0 := by decide
    obtain ⟨σ2, hσ2⟩ : ∃ y, y = xu (xu (xu (xset (xu z2 824 0 0) (824 + 2) r2) 824 7 0) (824 + 7) 0 0) (824 + 7) 1 0 := ⟨_, rfl⟩
    have s2fr : ∀ i, i ≠ 824 → i ≠ 826 → i ≠ 827 → i ≠ 831 → σ2 i = s i := fun i p1 p2 p3 p4 => by
      rw [hσ2, xu_other (show i ≠ 824 + 7 by omega), xu_other (show i ≠ 824 + 7 by omega), xu_other p1, xset_other (show i ≠ 824 + 2 by omega), xu_other p1, g2 i p1 p3]
    have s2j : ∀ j, j ≠ 0 → j ≠ 7 → σ2 824 j = z2 824 j := fun j p1 p2 => by
      rw [hσ2, xu_other (by decide), xu_other (by decide), xu_same, up_n p2, xset_other (by decide), xu_same, up_n p1]
    obtain ⟨cc, x, m1, m2, m3, m4, m5, m6⟩ := h.2.2.1
    refine ⟨0, s, nI o', σ2, ?_, ?_, ?_, fun _ => ?_, ?_, h.2.1.ex ?_ ?_ ?_ ?_, ⟨0, x, by omega, m2, ?_, ?_, ?_, fun j hj => absurd hj (by omega)⟩, fun sl hsl => Or.inl ⟨?_, ?_⟩⟩
    · unfold F_L_load
      rw [cl5, xbH_0, if_pos xin01, xlet_s, cl0, hs]
    · unfold F_X6_load
      rw [g1, xbI_s, xjn_s, hE, if_neg (fun q => q rfl)]
      dsimp only
      rw [pR_ref0, xbI_s, if_pos rfl, show F_X6_copyState 187 (824 + 3) 0 187 (824 + 2) 0 (xu z2 824 0 0) = _ from cp, xbV_s, xlet_s, if_pos (by decide), vn, xlet_s, if_pos (by decide), xlet_s, cl0, show (1 : Int32).toNatClampNeg = 1 from cl_1, ← hσ2, s2j 11 (by decide) (by decide), t2]
    · rw [hσ2, xu_other (by decide), xu_other (by decide), xu_same, up_n (by decide), xset_other (by decide), xu_same, up_s]
    · rw [s2fr 832 (by decide) (by decide) (by decide) (by decide), hs, xu_same, up_s]
    · have e826 : σ2 826 = r2 := by rw [hσ2, xu_other (by decide), xu_other (by decide), xu_other (by decide), xset_same (a := 824 + 2)]
      rw [e826]
      refine ((c2.mono (T2 := T) (W2 := W) (by omega) (by omega)).ex (σ2 := σ2) (fun i a b => ?_)).c187 (fun i hi => by rw [hr2]; exact rCp0 i hi)
      rw [s2fr i (by omega) (by omega) (by omega) (by omega), sfr i (by omega), hzd, xu_other (by omega), xu_other (by omega), xu_other (by omega)]
    · rw [s2fr 2 (by decide) (by decide) (by decide) (by decide), sfr _ (by decide), dfr _ (by decide) (by omega) (by decide) (by decide)]
    · rw [s2fr 825 (by decide) (by decide) (by decide) (by decide), sfr _ (by decide), dfr _ (by decide) (by omega) (by decide) (by decide)]
    · rw [s2fr 1 (by decide) (by decide) (by decide) (by decide), sfr _ (by decide), d11]
    · rw [s2j 2 (by decide) (by decide), g3 2 (by decide) (by decide), sfr _ (by decide), dfr _ (by decide) (by omega) (by decide) (by decide)]
    · rw [s2fr 46 (by decide) (by decide) (by decide) (by decide), sfr _ (by decide), hzd, xu_other (by decide), xu_other (by decide), xu_same (o := 0 + 46), up_s]; rfl
    · rw [s2fr 46 (by decide) (by decide) (by decide) (by decide), sfr _ (by decide), hzd, xu_other (by decide), xu_other (by decide), xu_same (o := 0 + 46), up_n (by decide), c3 _ (by decide) (by omega), b2 _ (by omega), y4_o (by decide), a2 _ (by omega), zi _ (by decide)]; exact m4
    · rw [hσ2, xu_other (by decide), xu_other (by decide), xu_same, up_s]; rfl
    · have e : σ2 651 = upd (upd (zc 651) 0 0) 1 0 := by
        rw [s2fr 651 (by decide) (by decide) (by decide) (by decide), sfr _ (by decide), hzd, xu_same (o := 0 + 651), xu_same (o := 0 + 651), xu_other (by decide)]
      rw [e]
      obtain q | q : sl = 0 ∨ sl = 1 := by omega
      · subst q; rw [up_n (by decide), up_s]
      · subst q; rw [up_s]
    · have e : σ2 831 = upd (upd (z2 831) 0 0) 1 0 := by
        rw [hσ2, xu_same (o := 824 + 7), xu_same (o := 824 + 7), xu_other (by decide), xset_other (by decide), xu_other (by decide)]
      rw [e]
      obtain q | q : sl = 0 ∨ sl = 1 := by omega
      · subst q; rw [up_n (by decide), up_s]
      · subst q; rw [up_s]
  · -- the text is wrong
    have tmz : yTm z n c := ⟨tm.1, by rw [zi _ (by decide)]; exact tm.2.1, fun i hi => by rw [zi _ (by decide)]; exact tm.2.2 i hi⟩
    obtain ⟨z2, g1, g2, g3, -⟩ := pM_text tmz
    refine ⟨1, z, 0, xu z2 824 0 1, ?_, ?_, by rw [xu_same, up_s], fun q => absurd q (by decide), h.ex ⟨fun i hi => ?_, ?_, ?_, ?_⟩⟩
    · unfold F_L_load F_X5_load
      rw [show F_X4_firstError (0 + 1) σ = _ from e1, xbI_s, xjn_s, if_pos hE]
      dsimp only
      rw [F5_dem03, xbT_3, xbH_3, if_pos (by decide)]
    · unfold F_X6_load
      rw [g1, xbI_s, xjn_s, if_pos hE]
      dsimp only
      rw [pR_ref1, xbI_s, if_neg (by decide)]
    · rw [xu_other (by omega), g2 i (by omega) (by omega), zi i (by omega)]
    · rw [xu_other (by decide), g2 1 (by decide) (by decide), e3]
    · rw [xu_same, up_n (by decide), g3 2 (by decide) (by decide), zi _ (by decide)]
    · rw [xu_same, up_n (by decide), g3 7 (by decide) (by decide), zi _ (by decide)]
