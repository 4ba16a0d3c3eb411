/-! CALLS THAT LOOK -/
theorem pR_inN {σ : xS} {x a b : Nat} (h1 : a ≤ x) (h2 : x ≤ b) (hb : b < 2 ^ 31) : F_X6_in (nI x).toInt64 (nI a).toInt64 (nI b).toInt64 σ = some (1, σ) := by
  rw [pR_in, if_neg]
  intro q
  rcases q with q | q
  · exact nI_nlt h1 (by omega) q
  · exact nI_nlt h2 (by omega) q
theorem pF_wiN {σ : xS} {x a b : Nat} (h1 : a ≤ x) (h2 : x ≤ b) (hb : b < 2 ^ 31) : F_X5_isWithin (nI x) (nI a) (nI b) σ = some (1, σ) := by
  rw [pF_within2, if_neg]
  intro q
  rcases q with q | q
  · exact nI_nlt h1 (by omega) q
  · exact nI_nlt h2 (by omega) q
section RL
variable {m t tr wt sz ms L w0 : Nat} {lo : Nat → Nat}
theorem pS_sum {σ : xS} {a w : Nat} (h : rOK (σ a) m t tr wt sz ms L lo w0) (hw : w < 39) (hS : rS w = 0) : F_X6_sum 187 a (nI w) σ = some (rS4 (σ a) w, σ) := by
  have e := pR_sum (σ := σ) (a := a) h hw hS
  rw [xset_self] at e
  exact e
theorem pS_of {σ : xS} {a k w : Nat} (hk : k < 4) (hw : w < 39) : F_X6_of 187 a (nI k) (nI w) σ = some (rRow (σ a) k w, σ) := by
  have e := pR_of (σ := σ) (a := a) (r := σ a) hk hw
  rw [xset_self] at e
  exact e
theorem pS_isW0 {σ : xS} {a : Nat} {k : Int32} (h : rOK (σ a) m t tr wt sz ms L lo w0) (hk : rBad m k) : F_X6_isWriter 187 a k σ = some (0, σ) := by
  have e := pR_isW0 (σ := σ) (a := a) h.1.1 h.1.2.2.2.2.2.2.2.1 h.m4 hk
  rw [xset_self] at e
  exact e
theorem pS_isW1 {σ : xS} {a j : Nat} (h : rOK (σ a) m t tr wt sz ms L lo w0) (hj : j < m) : F_X6_isWriter 187 a (nI j) σ = some (1, σ) := by
  have e := pR_isW1 (σ := σ) (a := a) h.1.1 hj h.m4
  rw [xset_self] at e
  exact e
end RL
theorem y_about {T W : Nat} {σ : xS} (h : yR T W σ) (x : Int32) : yC T W (F_L_about 0 x 832) (F_X6_about 824 x) σ := by
  obtain ⟨⟨m, t, tr, wt, sz, ms, L, w, h1, -, -, hQ⟩, -⟩ := id h
  have hQ : xQ3 σ (0 + 3) (σ 826) L := hQ
  rcases rng x 0 8 (by decide) (by decide) with ⟨i, -, hi, rfl⟩ | hx
  · have hI : ∀ s : xS, F_X6_in (nI i).toInt64 0 8 s = some (1, s) := fun s => pR_inN (a := 0) (b := 8) (Nat.zero_le _) hi (by decide)
    have hF : F_X5_isWithin (nI i) 0 8 σ = some (1, σ) := pF_wiN (a := 0) (b := 8) (Nat.zero_le _) hi (by decide)
    have h5 : ∀ v : Int32, rOK ((xu (xu σ 832 0 v) 824 0 0) (824 + 2)) m t tr wt sz ms L (rLo 0 m (t + 1)) w := fun v => by
      rw [xu_other (by decide), xu_other (by decide)]; exact h1
    have e5 : ∀ v : Int32, (xu (xu σ 832 0 v) 824 0 0) (824 + 2) = σ 826 := fun v => by rw [xu_other (by decide), xu_other (by decide)]
    have cl : ∀ v : Int32, F_X5_about 0 (nI i) σ = some (0, v, σ) → F_L_about 0 (nI i) 832 σ = some (0, xu σ 832 0 v) := fun v e => by
      unfold F_L_about
      rw [e, xbH_0, if_pos xin01, xlet_s, cl0]
    have lit : i = 0 ∨ i = 1 ∨ i = 2 ∨ i = 3 ∨ i = 4 ∨ i = 5 ∨ i = 6 ∨ i = 7 ∨ i = 8 := by omega
    rcases lit with e | e | e | e | e | e | e | e | e <;> subst e
    · refine yC_look (v := σ 826 0) h (cl _ ?_) ?_
      · unfold F_X5_about
        rw [hF, xbI_s, F5_dem1, xbT_0, if_pos (by decide), hQ.1.1]
      · unfold F_X6_about
        rw [hI, xbI_s, xjn_s, if_neg (by decide)]; dsimp only; rw [pR_ref0, xbI_s, if_pos rfl, if_neg (by decide), if_neg (by decide), if_neg (by decide), if_neg (by decide), if_neg (by decide), if_neg (by decide), if_pos (by decide), xlet_s, e5]
        rfl
    · refine yC_look (v := σ 826 1) h (cl _ ?_) ?_
      · unfold F_X5_about
        rw [hF, xbI_s, F5_dem1, xbT_0, if_neg (by decide), if_pos (by decide), hQ.1.2.1]
      · unfold F_X6_about
        rw [hI, xbI_s, xjn_s, if_neg (by decide)]; dsimp only; rw [pR_ref0, xbI_s, if_pos rfl, if_neg (by decide), if_neg (by decide), if_neg (by decide), if_neg (by decide), if_neg (by decide), if_neg (by decide), if_pos (by decide), xlet_s, e5]
        rfl
    · refine yC_look (v := σ 826 2) h (cl _ ?_) ?_
      · unfold F_X5_about
        rw [hF, xbI_s, F5_dem1, xbT_0, if_neg (by decide), if_neg (by decide), if_pos (by decide), hQ.2.1, h1.1.2.2.1]
      · unfold F_X6_about
        rw [hI, xbI_s, xjn_s, if_neg (by decide)]; dsimp only; rw [pR_ref0, xbI_s, if_pos rfl, if_neg (by decide), if_neg (by decide), if_neg (by decide), if_neg (by decide), if_neg (by decide), if_neg (by decide), if_pos (by decide), xlet_s, e5]
        rfl
    · refine yC_look (v := rS4 (σ 826) 0) h (cl _ ?_) ?_
      · unfold F_X5_about
        rw [hF, xbI_s, F5_dem1, xbT_0, if_neg (by decide), if_neg (by decide), if_neg (by decide), if_pos (by decide), show F_X3_sumOfWriters (0 + 3) 0 σ = _ from pT_sum (w := 0) h1 hQ (by decide), xbI_s]
        rfl
      · unfold F_X6_about
        rw [hI, xbI_s, xjn_s, if_neg (by decide)]; dsimp only; rw [pR_ref0, xbI_s, if_pos rfl, if_pos (by decide), show F_X6_sum 187 (824 + 2) 0 _ = _ from pS_sum (w := 0) (h5 _) (by decide) (by decide), xbI_s, e5]
    · refine yC_look (v := rS4 (σ 826) 6) h (cl _ ?_) ?_
      · unfold F_X5_about
        rw [hF, xbI_s, F5_dem1, xbT_0, if_neg (by decide), if_neg (by decide), if_neg (by decide), if_neg (by decide), if_pos (by decide), show F_X3_sumOfWriters (0 + 3) 1 σ = _ from pT_sum (w := 1) h1 hQ (by decide), xbI_s]
        rfl
      · unfold F_X6_about
        rw [hI, xbI_s, xjn_s, if_neg (by decide)]; dsimp only; rw [pR_ref0, xbI_s, if_pos rfl, if_neg (by decide), if_pos (by decide), show F_X6_sum 187 (824 + 2) 6 _ = _ from pS_sum (w := 6) (h5 _) (by decide) (by decide), xbI_s, e5]
    · refine yC_look (v := rS4 (σ 826) 3) h (cl _ ?_) ?_
      · unfold F_X5_about
        rw [hF, xbI_s, F5_dem1, xbT_0, if_neg (by decide), if_neg (by decide), if_neg (by decide), if_neg (by decide), if_neg (by decide), if_pos (by decide), show F_X3_sumOfWriters (0 + 3) 4 σ = _ from pT_sum (w := 4) h1 hQ (by decide), xbI_s]
        rfl
      · unfold F_X6_about
        rw [hI, xbI_s, xjn_s, if_neg (by decide)]; dsimp only; rw [pR_ref0, xbI_s, if_pos rfl, if_neg (by decide), if_neg (by decide), if_pos (by decide), show F_X6_sum 187 (824 + 2) 3 _ = _ from pS_sum (w := 3) (h5 _) (by decide) (by decide), xbI_s, e5]
    · refine yC_look (v := rS4 (σ 826) 12) h (cl _ ?_) ?_
      · unfold F_X5_about
        rw [hF, xbI_s, F5_dem1, xbT_0, if_neg (by decide), if_neg (by decide), if_neg (by decide), if_neg (by decide), if_neg (by decide), if_neg (by decide), if_pos (by decide), show F_X3_sumOfDesks (0 + 3) 4 σ = _ from pT_sumd (w := 4) hQ (by decide), xbI_s]
      · unfold F_X6_about
        rw [hI, xbI_s, xjn_s, if_neg (by decide)]; dsimp only; rw [pR_ref0, xbI_s, if_pos rfl, if_neg (by decide), if_neg (by decide), if_neg (by decide), if_pos (by decide), show F_X6_sum 187 (824 + 2) 12 _ = _ from pS_sum (w := 12) (h5 _) (by decide) (by decide), xbI_s, e5]
    · refine yC_look (v := rS4 (σ 826) 8) h (cl _ ?_) ?_
      · unfold F_X5_about
        rw [hF, xbI_s, F5_dem1, xbT_0, if_neg (by decide), if_neg (by decide), if_neg (by decide), if_neg (by decide), if_neg (by decide), if_neg (by decide), if_neg (by decide), if_pos (by decide), show F_X3_sumOfDesks (0 + 3) 0 σ = _ from pT_sumd (w := 0) hQ (by decide), xbI_s]
      · unfold F_X6_about
        rw [hI, xbI_s, xjn_s, if_neg (by decide)]; dsimp only; rw [pR_ref0, xbI_s, if_pos rfl, if_neg (by decide), if_neg (by decide), if_neg (by decide), if_neg (by decide), if_pos (by decide), show F_X6_sum 187 (824 + 2) 8 _ = _ from pS_sum (w := 8) (h5 _) (by decide) (by decide), xbI_s, e5]
    · refine yC_look (v := rS4 (σ 826) 4) h (cl _ ?_) ?_
      · unfold F_X5_about
        rw [hF, xbI_s, F5_dem1, xbT_0, if_neg (by decide), if_neg (by decide), if_neg (by decide), if_neg (by decide), if_neg (by decide), if_neg (by decide), if_neg (by decide), if_neg (by decide), show F_X3_sumOfWriters (0 + 3) 5 σ = _ from pT_sum (w := 5) h1 hQ (by decide), xbI_s]
        rfl
      · unfold F_X6_about
        rw [hI, xbI_s, xjn_s, if_neg (by decide)]; dsimp only; rw [pR_ref0, xbI_s, if_pos rfl, if_neg (by decide), if_neg (by decide), if_neg (by decide), if_neg (by decide), if_neg (by decide), if_pos (by decide), show F_X6_sum 187 (824 + 2) 4 _ = _ from pS_sum (w := 4) (h5 _) (by decide) (by decide), xbI_s, e5]
  · refine yC_thr (c := 1) (b := 0) h ?_ ?_ (by decide)
    · unfold F_L_about F_X5_about
      rw [pF_within2, if_pos (show x < 0 ∨ 8 < x from hx), xbI_s, F5_dem02, xbT_2, xbH_2, if_pos (by decide)]
    · unfold F_X6_about
      rw [show F_X6_in x.toInt64 0 8 σ = _ from pR_in (a := 0) (b := 8), if_pos (show x < 0 ∨ 8 < x from hx), xbI_s, xjn_s, if_pos rfl]; dsimp only; rw [pR_ref1, xbI_s, if_neg (by decide)]
theorem y_writer {T W : Nat} {σ : xS} (h : yR T W σ) (k x : Int32) : yC T W (F_L_writer 0 k x 832) (F_X6_writer 824 k x) σ := by
  obtain ⟨⟨m, t, tr, wt, sz, ms, L, w, h1, -, -, hQ⟩, -⟩ := id h
  have hQ : xQ3 σ (0 + 3) (σ 826) L := hQ
  have hm4 := h1.m4
  have h1' : rOK (σ (824 + 2)) m t tr wt sz ms L (rLo 0 m (t + 1)) w := h1
  rcases rIs m hm4 k with hk | ⟨j, hj, rfl⟩
  · refine yC_thr (c := 1) (b := 0) h ?_ ?_ (by decide)
    · unfold F_L_writer F_X5_writer
      rw [pF_isW0 (hQ.1.1.trans h1.1.1) hk, xbI_s, F5_ref1, xbT_1, xbH_1, if_pos (by decide)]
    · unfold F_X6_writer
      rw [pS_isW0 h1' hk, xbI_s, xjn_s, if_neg (by decide)]; dsimp only; rw [pR_ref1, xbI_s, if_neg (by decide)]
  · rcases rng x 0 6 (by decide) (by decide) with ⟨i, -, hi, rfl⟩ | hx
    · have hI : F_X6_in (nI i).toInt64 0 6 (xu σ 832 0 (rRow (σ 826) j (rOfW i))) = some (1, _) := pR_inN (a := 0) (b := 6) (Nat.zero_le _) hi (by decide)
      obtain ⟨o, n, q⟩ := hQ.1.2.2.2 j (by omega)
      refine yC_look (v := rRow (σ 826) j (rOfW i)) h ?_ ?_
      · unfold F_L_writer F_X5_writer
        rw [pF_isWriter0 (hQ.1.1.trans h1.1.1) hj hm4, xbI_s, F5_ref0, xbT_0, show F_X5_isWithin (nI i) 0 6 σ = _ from pF_wiN (a := 0) (b := 6) (Nat.zero_le _) hi (by decide), xbI_s, F5_dem1, xbT_0, if_pos (xin_nI (by omega) (by decide)), nI_clamp (by omega), pQ_writer q (h1.h01 j (by omega)) hi, xbI_s, xbH_0, if_pos xin01, xlet_s, cl0]
      · have hw : rOK ((xu σ 832 0 (rRow (σ 826) j (rOfW i))) (824 + 2)) m t tr wt sz ms L (rLo 0 m (t + 1)) w := by rw [xu_other (by decide)]; exact h1
        have e5 : (xu (xu σ 832 0 (rRow (σ 826) j (rOfW i))) 824 0 0) (824 + 2) = σ 826 := by rw [xu_other (by decide), xu_other (by decide)]
        have hof : ∀ w, w < 39 → F_X6_of 187 (824 + 2) (nI j) (nI w) (xu (xu σ 832 0 (rRow (σ 826) j (rOfW i))) 824 0 0) = some (rRow (σ 826) j w, xu (xu σ 832 0 (rRow (σ 826) j (rOfW i))) 824 0 0) := fun w hw => by
          have e := pS_of (σ := xu (xu σ 832 0 (rRow (σ 826) j (rOfW i))) 824 0 0) (a := 824 + 2) (k := j) (by omega) hw
          rw [e5] at e
          exact e
        unfold F_X6_writer
        rw [pS_isW1 hw hj, xbI_s, xjn_s, if_pos (by decide), hI, xbI_s, if_neg (by decide)]; dsimp only; rw [pR_ref0, xbI_s, if_pos rfl]
        by_cases i0 : i = 0
        · subst i0
          rw [if_neg (by decide), show F_X6_of 187 (824 + 2) (nI j) 0 _ = _ from hof 0 (by decide), xbI_s]
          rfl
        · rw [if_pos (show ¬ nI i = 0 from nI_ne0 (by omega) (by omega))]
          by_cases i1 : i = 1
          · subst i1
            rw [if_neg (by decide), show F_X6_of 187 (824 + 2) (nI j) 6 _ = _ from hof 6 (by decide), xbI_s]
            rfl
          · have e1 : ¬ nI i = 1 := fun q => i1 ((nI_eq (a := i) (b := 1) (by omega) (by decide)).mp q)
            have er : rOfW i = i - 1 := by unfold rOfW; rw [if_neg i0, if_neg i1]
            rw [if_pos e1, nI_s1 (by omega), hof (i - 1) (by omega), xbI_s, er]
    · refine yC_thr (c := 2) (b := 0) h ?_ ?_ (by decide)
      · unfold F_L_writer F_X5_writer
        rw [pF_isWriter0 (hQ.1.1.trans h1.1.1) hj hm4, xbI_s, F5_ref0, xbT_0, pF_within2, if_pos (show x < 0 ∨ 6 < x from hx), xbI_s, F5_dem02, xbT_2, xbH_2, if_neg (by decide), if_pos (by decide)]
      · unfold F_X6_writer
        rw [pS_isW1 h1' hj, xbI_s, xjn_s, if_pos (by decide), show F_X6_in x.toInt64 0 6 σ = _ from pR_in (a := 0) (b := 6), if_pos (show x < 0 ∨ 6 < x from hx), xbI_s, if_pos rfl]; dsimp only; rw [pR_ref2, xbI_s, if_neg (by decide)]
theorem y_desk {T W : Nat} {σ : xS} (h : yR T W σ) (k x : Int32) : yC T W (F_L_desk 0 k x 832) (F_X6_desk 824 k x) σ := by
  obtain ⟨⟨m, t, tr, wt, sz, ms, L, w, h1, -, -, hQ⟩, -⟩ := id h
  have hQ : xQ3 σ (0 + 3) (σ 826) L := hQ
  have hm4 := h1.m4
  have h1' : rOK (σ (824 + 2)) m t tr wt sz ms L (rLo 0 m (t + 1)) w := h1
  rcases rIs m hm4 k with hk | ⟨j, hj, rfl⟩
  · refine yC_thr (c := 1) (b := 0) h ?_ ?_ (by decide)
    · unfold F_L_desk F_X5_desk
      rw [pF_isW0 (hQ.1.1.trans h1.1.1) hk, xbI_s, F5_ref1, xbT_1, xbH_1, if_pos (by decide)]
    · unfold F_X6_desk
      rw [pS_isW0 h1' hk, xbI_s, xjn_s, if_neg (by decide)]; dsimp only; rw [pR_ref1, xbI_s, if_neg (by decide)]
  · rcases rng x 0 5 (by decide) (by decide) with ⟨i, -, hi, rfl⟩ | hx
    · have hI : F_X6_in (nI i).toInt64 0 5 (xu σ 832 0 (rRow (σ 826) j (8 + i))) = some (1, _) := pR_inN (a := 0) (b := 5) (Nat.zero_le _) hi (by decide)
      obtain ⟨o, n, q⟩ := hQ.1.2.2.2 j (by omega)
      refine yC_look (v := rRow (σ 826) j (8 + i)) h ?_ ?_
      · unfold F_L_desk F_X5_desk
        rw [pF_isWriter0 (hQ.1.1.trans h1.1.1) hj hm4, xbI_s, F5_ref0, xbT_0, show F_X5_isWithin (nI i) 0 5 σ = _ from pF_wiN (a := 0) (b := 5) (Nat.zero_le _) hi (by decide), xbI_s, F5_dem1, xbT_0, if_pos (xin_nI (by omega) (by decide)), nI_clamp (by omega), pQ_desk q hi, xbI_s, xbH_0, if_pos xin01, xlet_s, cl0]
      · have hw : rOK ((xu σ 832 0 (rRow (σ 826) j (8 + i))) (824 + 2)) m t tr wt sz ms L (rLo 0 m (t + 1)) w := by rw [xu_other (by decide)]; exact h1
        have e5 : (xu (xu σ 832 0 (rRow (σ 826) j (8 + i))) 824 0 0) (824 + 2) = σ 826 := by rw [xu_other (by decide), xu_other (by decide)]
        have hof := pS_of (σ := xu (xu σ 832 0 (rRow (σ 826) j (8 + i))) 824 0 0) (a := 824 + 2) (k := j) (w := 8 + i) (by omega) (by omega)
        rw [e5] at hof
        unfold F_X6_desk
        rw [pS_isW1 hw hj, xbI_s, xjn_s, if_pos (by decide), hI, xbI_s, if_neg (by decide)]; dsimp only; rw [pR_ref0, xbI_s, if_pos rfl, show (8 : Int32) + nI i = nI (8 + i) from nI_add 8 i, hof, xbI_s]
    · refine yC_thr (c := 2) (b := 0) h ?_ ?_ (by decide)
      · unfold F_L_desk F_X5_desk
        rw [pF_isWriter0 (hQ.1.1.trans h1.1.1) hj hm4, xbI_s, F5_ref0, xbT_0, pF_within2, if_pos (show x < 0 ∨ 5 < x from hx), xbI_s, F5_dem02, xbT_2, xbH_2, if_neg (by decide), if_pos (by decide)]
      · unfold F_X6_desk
        rw [pS_isW1 h1' hj, xbI_s, xjn_s, if_pos (by decide), show F_X6_in x.toInt64 0 5 σ = _ from pR_in (a := 0) (b := 5), if_pos (show x < 0 ∨ 5 < x from hx), xbI_s, if_pos rfl]; dsimp only; rw [pR_ref2, xbI_s, if_neg (by decide)]
theorem y_setting {T W : Nat} {σ : xS} (h : yR T W σ) (x : Int32) : yC T W (F_L_setting 0 x 832) (F_X6_setting 824 x) σ := by
  obtain ⟨⟨m, t, tr, wt, sz, ms, L, w, h1, -, -, hQ⟩, -⟩ := id h
  have hQ : xQ3 σ (0 + 3) (σ 826) L := hQ
  rcases rng x 0 3 (by decide) (by decide) with ⟨i, -, hi, rfl⟩ | hx
  · refine yC_look (v := σ 826 (3 + i)) h ?_ ?_
    · unfold F_L_setting F_X5_setting
      rw [show F_X5_isWithin (nI i) 0 3 σ = _ from pF_wiN (a := 0) (b := 3) (Nat.zero_le _) hi (by decide), xbI_s, F5_dem1, xbT_0, if_pos (xin_nI (by omega) (by decide)), nI_clamp (by omega), xlet_s, hQ.1.2.2.1 i (by omega), xbH_0, if_pos xin01, xlet_s, cl0]
    · unfold F_X6_setting
      rw [show F_X6_in (nI i).toInt64 0 3 _ = _ from pR_inN (a := 0) (b := 3) (Nat.zero_le _) hi (by decide), xbI_s, xjn_s, if_neg (by decide)]; dsimp only; rw [pR_ref0, xbI_s, if_pos rfl, show (3 : Int32) + nI i = nI (3 + i) from nI_add 3 i, if_pos (xin_nI (by omega) (by decide)), nI_clamp (by omega), xlet_s, xu_other (by decide), xu_other (by decide)]
  · refine yC_thr (c := 1) (b := 0) h ?_ ?_ (by decide)
    · unfold F_L_setting F_X5_setting
      rw [pF_within2, if_pos (show x < 0 ∨ 3 < x from hx), xbI_s, F5_dem02, xbT_2, xbH_2, if_pos (by decide)]
    · unfold F_X6_setting
      rw [show F_X6_in x.toInt64 0 3 σ = _ from pR_in (a := 0) (b := 3), if_pos (show x < 0 ∨ 3 < x from hx), xbI_s, xjn_s, if_pos rfl]; dsimp only; rw [pR_ref1, xbI_s, if_neg (by decide)]
