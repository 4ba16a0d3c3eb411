theorem y_plan {T W : Nat} {σ : xS} (h : yR T W σ) (hT : T < 90000) (hW : W < 2 ^ 24) (n k x : Int32) : yC (T + 99) (W + 8000) (F_L_plan 0 n k x 832) (F_X6_plan 824 n k x) σ := by
  obtain ⟨⟨m, t, tr, wt, sz, ms, L, w, h1, ht, hw, hQ⟩, -⟩ := id h
  have hQ : xQ3 σ (0 + 3) (σ 826) L := hQ
  have hm4 := h1.m4
  have hL8 := h1.L8
  have h1' : rOK (σ (824 + 2)) m t tr wt sz ms L (rLo 0 m (t + 1)) w := h1
  have eL : σ (824 + 2) 2 = nI L := h1.1.2.2.1
  rcases rIs m hm4 k with hk | ⟨j, hj, rfl⟩
  · refine (yC_thr (c := 1) (b := 0) h ?_ ?_ (by decide)).mono (by omega) (by omega)
    · unfold F_L_plan F_X5_plan
      rw [act_t1 (pT_fP0 (hQ.1.1.trans h1.1.1) hk), xbT_1, xbH_1, if_pos (by decide)]
    · unfold F_X6_plan
      rw [pS_isW0 h1' hk, xbI_s, xjn_s, if_neg (by decide)]; dsimp only; rw [pR_ref1, xbI_s, if_neg (by decide)]
  · rcases rng n 1 99 (by decide) (by decide) with ⟨i, hi1, hi, rfl⟩ | hn
    · have hI : ∀ s : xS, F_X6_in (nI i).toInt64 1 99 s = some (1, s) := fun s => pR_inN (a := 1) (b := 99) hi1 hi (by decide)
      rcases rng x 1 500 (by decide) (by decide) with ⟨y, hy1, hy, rfl⟩ | hx
      · have hN : ∀ s : xS, F_X6_isNote (nI y) s = some (1, s) := fun s => by
          rw [pR_isNote, if_neg]
          intro q
          rcases q with q | q
          · exact nI_nlt (a := y) (b := 1) hy1 (by omega) q
          · exact nI_nlt (a := 500) (b := y) hy (by decide) q
        by_cases h8 : 8 ≤ L
        · refine (yC_thr (c := 3) (b := 0) h ?_ ?_ (by decide)).mono (by omega) (by omega)
          · unfold F_L_plan F_X5_plan
            rw [act_t3 (by rw [pT_fP2 hQ hL8 h1.1.1 hj hm4 hi1 hi hy1 hy, if_pos h8]), xbT_3, xbH_3, if_neg (by decide), if_neg (by decide), if_pos (by decide)]
          · unfold F_X6_plan
            rw [pS_isW1 h1' hj, xbI_s, xjn_s, if_pos (by decide), hI, xbI_s, xjn_s, if_neg (by decide), hN, xbI_s, if_pos (by decide), if_pos xin_2, xlet_s, cl_2, eL, if_pos (show (8 : Int32) ≤ nI L from nI_le (a := 8) (b := L) h8 (by omega))]; dsimp only; rw [pR_ref3, xbI_s, if_neg (by decide)]
        · have ok := h1.plan (n := nI i) (by omega) hj hy1 hy
          refine y_act (kd := 2) (a := nI i) (b := nI j) (c := nI y) (v := nI (L + 1)) (r2 := rPlan (σ 826) L (nI i) (nI j) (nI y)) h (by omega) (by omega) (fun σ1 e => ?_) ?_ (fun z hz => ?_) (fun s z' e1 e2 e3 => ?_)
          · unfold F_L_plan F_X5_plan
            rw [e, xbT_0, xbH_0, if_pos xin01, xlet_s, cl0]
          · rw [pT_fP2 hQ hL8 h1.1.1 hj hm4 hi1 hi hy1 hy, if_neg h8]
          · obtain ⟨z2, e1, e2, e3⟩ := pT_attP ((show xQ3 σ 3 (σ 826) L from hQ).ex hz) (by omega) h1.1.1 hj hm4 hi1 hi hy1 hy
            exact ⟨z2, e1, e2, m, t, tr, wt, sz, ms, L + 1, w, ok, by omega, by omega, e3⟩
          · have h2 : rOK (s (824 + 2)) m t tr wt sz ms L (rLo 0 m (t + 1)) w := by rw [show s (824 + 2) = σ 826 from e1]; exact h1
            have h3 : rOK (z' (824 + 2)) m t tr wt sz ms L (rLo 0 m (t + 1)) w := by rw [show z' (824 + 2) = σ 826 from e3]; exact h1
            have e3' : z' (824 + 2) = σ 826 := e3
            have eL2 : s (824 + 2) 2 = nI L := h2.1.2.2.1
            unfold F_X6_plan
            rw [pS_isW1 h2 hj, xbI_s, xjn_s, if_pos (by decide), hI, xbI_s, xjn_s, if_neg (by decide), hN, xbI_s, if_pos (by decide), if_pos xin_2, xlet_s, cl_2, eL2, if_neg (show ¬ (8 : Int32) ≤ nI L from nI_ge (a := L) (b := 8) (by omega) (by decide))]; dsimp only; rw [pR_ref0, xbI_s, if_pos rfl, e2, xbV_s, pS_plan h3 (by omega), xbI_s, e3']
      · refine (yC_thr (c := 2) (b := 0) h ?_ ?_ (by decide)).mono (by omega) (by omega)
        · unfold F_L_plan F_X5_plan
          rw [act_t2 (pT_fP1 (hQ.1.1.trans h1.1.1) hj hm4 (Or.inr hx)), xbT_2, xbH_2, if_neg (by decide), if_pos (by decide)]
        · unfold F_X6_plan
          rw [pS_isW1 h1' hj, xbI_s, xjn_s, if_pos (by decide), hI, xbI_s, xjn_s, if_neg (by decide), pR_isNote, if_pos (show x < 1 ∨ 500 < x from hx), xbI_s, if_neg (by decide)]; dsimp only; rw [pR_ref2, xbI_s, if_neg (by decide)]
    · refine (yC_thr (c := 2) (b := 0) h ?_ ?_ (by decide)).mono (by omega) (by omega)
      · unfold F_L_plan F_X5_plan
        rw [act_t2 (pT_fP1 (hQ.1.1.trans h1.1.1) hj hm4 (Or.inl hn)), xbT_2, xbH_2, if_neg (by decide), if_pos (by decide)]
      · unfold F_X6_plan
        rw [pS_isW1 h1' hj, xbI_s, xjn_s, if_pos (by decide), show F_X6_in n.toInt64 1 99 σ = _ from pR_in (a := 1) (b := 99), if_pos (show n < 1 ∨ 99 < n from hn), xbI_s, xjn_s, if_pos rfl]; dsimp only; rw [pR_ref2, xbI_s, if_neg (by decide)]
theorem pT_fHF {σ : xS} {p m j : Nat} {kd c d : Int32} (h0 : σ p 0 = nI m) (hj : j < m) (hm : m ≤ 4) (hkd : kd = 3 ∨ kd = 4) : F_X3_faultOf p kd (nI j) c d σ = some (0, σ) := by
  unfold F_X3_faultOf
  rcases hkd with h | h <;> subst h
  · rw [if_neg (by decide), if_neg (by decide), if_neg (by decide), if_pos (by decide), pF_isWriter0 h0 hj hm, xbI_s]
  · rw [if_neg (by decide), if_neg (by decide), if_neg (by decide), if_pos (by decide), pF_isWriter0 h0 hj hm, xbI_s]
theorem y_hold {T W : Nat} {σ : xS} (h : yR T W σ) (hT : T < 90000) (hW : W < 2 ^ 24) (k b : Int32) (hb : b = 0 ∨ b = 1) : yC (T + 99) (W + 8000) (F_L_hold 0 k b 832) (F_X6_hold 824 k b) σ := by
  obtain ⟨⟨m, t, tr, wt, sz, ms, L, w, h1, ht, hw, hQ⟩, -⟩ := id h
  have hQ : xQ3 σ (0 + 3) (σ 826) L := hQ
  have hm4 := h1.m4
  have h1' : rOK (σ (824 + 2)) m t tr wt sz ms L (rLo 0 m (t + 1)) w := h1
  have unf : ∀ s : xS, F_X5_hold 0 k b s = xbT (F_X5_act 0 3 k b 0 s) (fun (zz2 : Int32) (σ1 : xS) => some (0, zz2, σ1)) := fun s => by
    unfold F_X5_hold
    rcases hb with hb | hb <;> subst hb
    · rw [if_pos rfl]
    · rw [if_neg (by decide)]
  rcases rIs m hm4 k with hk | ⟨j, hj, rfl⟩
  · refine (yC_thr (c := 1) (b := 0) h ?_ ?_ (by decide)).mono (by omega) (by omega)
    · unfold F_L_hold
      rw [unf, act_t1 (pT_att34 (hQ.1.1.trans h1.1.1) hk (Or.inl rfl)).1, xbT_1, xbH_1, if_pos (by decide)]
    · unfold F_X6_hold
      rw [pS_isW0 h1' hk, xbI_s, xjn_s, if_pos rfl]; dsimp only; rw [pR_ref1, xbI_s, if_neg (by decide)]
  · have ok := h1.hold (by omega) rLo_le1 hj hb
    refine y_act (kd := 3) (a := nI j) (b := b) (c := 0) (v := rRow (rHold (σ 826) j b) j 3 - rRow (σ 826) j 3) (r2 := rHold (σ 826) j b) h (by omega) (by omega) (fun σ1 e => ?_) (pT_fHF (hQ.1.1.trans h1.1.1) hj hm4 (Or.inl rfl)) (fun z hz => ?_) (fun s z' e1 e2 e3 => ?_)
    · unfold F_L_hold
      rw [unf, e, xbT_0, xbH_0, if_pos xin01, xlet_s, cl0]
    · obtain ⟨z2, e1, e2, e3⟩ := pT_attH (c := 0) (by omega) h1 ((show xQ3 σ 3 (σ 826) L from hQ).ex hz) hj hb
      exact ⟨z2, e1, e2, m, t, tr, wt, sz, ms, L, w + 6, ok, by omega, by omega, e3⟩
    · have h2 : rOK (s (824 + 2)) m t tr wt sz ms L (rLo 0 m (t + 1)) w := by rw [show s (824 + 2) = σ 826 from e1]; exact h1
      have h3 : rOK (z' (824 + 2)) m t tr wt sz ms L (rLo 0 m (t + 1)) w := by rw [show z' (824 + 2) = σ 826 from e3]; exact h1
      have e3' : z' (824 + 2) = σ 826 := e3
      unfold F_X6_hold
      rw [pS_isW1 h2 hj, xbI_s, xjn_s, if_neg (by decide)]; dsimp only; rw [pR_ref0, xbI_s, if_pos rfl, e2, xbV_s, pS_hold h3 hj hb, xbI_s, e3']
theorem y_flush {T W : Nat} {σ : xS} (h : yR T W σ) (hT : T < 90000) (hW : W < 2 ^ 24) (k : Int32) : yC (T + 99) (W + 8000) (F_L_flush 0 k 832) (F_X6_flush 824 k) σ := by
  obtain ⟨⟨m, t, tr, wt, sz, ms, L, w, h1, ht, hw, hQ⟩, -⟩ := id h
  have hQ : xQ3 σ (0 + 3) (σ 826) L := hQ
  have hm4 := h1.m4
  have h1' : rOK (σ (824 + 2)) m t tr wt sz ms L (rLo 0 m (t + 1)) w := h1
  rcases rIs m hm4 k with hk | ⟨j, hj, rfl⟩
  · refine (yC_thr (c := 1) (b := 0) h ?_ ?_ (by decide)).mono (by omega) (by omega)
    · unfold F_L_flush F_X5_flush
      rw [act_t1 (pT_att34 (hQ.1.1.trans h1.1.1) hk (Or.inr rfl)).1, xbT_1, xbH_1, if_pos (by decide)]
    · unfold F_X6_flush
      rw [pS_isW0 h1' hk, xbI_s, xjn_s, if_pos rfl]; dsimp only; rw [pR_ref1, xbI_s, if_neg (by decide)]
  · have ok := h1.flush (by omega) rLo_le1 hj
    refine y_act (kd := 4) (a := nI j) (b := 0) (c := 0) (v := rRow (rFlush (σ 826) j) j 3 - rRow (σ 826) j 3) (r2 := rFlush (σ 826) j) h (by omega) (by omega) (fun σ1 e => ?_) (pT_fHF (hQ.1.1.trans h1.1.1) hj hm4 (Or.inr rfl)) (fun z hz => ?_) (fun s z' e1 e2 e3 => ?_)
    · unfold F_L_flush F_X5_flush
      rw [e, xbT_0, xbH_0, if_pos xin01, xlet_s, cl0]
    · obtain ⟨z2, e1, e2, e3⟩ := pT_attF (c := 0) (d := 0) (by omega) h1 ((show xQ3 σ 3 (σ 826) L from hQ).ex hz) hj
      exact ⟨z2, e1, e2, m, t, tr, wt, sz, ms, L, w + 6, ok, by omega, by omega, e3⟩
    · have h2 : rOK (s (824 + 2)) m t tr wt sz ms L (rLo 0 m (t + 1)) w := by rw [show s (824 + 2) = σ 826 from e1]; exact h1
      have h3 : rOK (z' (824 + 2)) m t tr wt sz ms L (rLo 0 m (t + 1)) w := by rw [show z' (824 + 2) = σ 826 from e3]; exact h1
      have e3' : z' (824 + 2) = σ 826 := e3
      unfold F_X6_flush
      rw [pS_isW1 h2 hj, xbI_s, xjn_s, if_neg (by decide)]; dsimp only; rw [pR_ref0, xbI_s, if_pos rfl, e2, xbV_s, pS_flush h3 hj, xbI_s, e3']
theorem y_ticks {T W : Nat} {σ : xS} (h : yR T W σ) (hT : T < 90000) (hW : W < 2 ^ 24) (n : Int32) : yC (T + 99) (W + 8000) (F_L_ticks 0 n 832) (F_X6_ticks 824 n) σ := by
  obtain ⟨⟨m, t, tr, wt, sz, ms, L, w, h1, ht, hw, hQ⟩, -⟩ := id h
  have hQ : xQ3 σ (0 + 3) (σ 826) L := hQ
  rcases rng n 1 99 (by decide) (by decide) with ⟨i, hi1, hi, rfl⟩ | hn
  · have hI : ∀ s : xS, F_X6_in (nI i).toInt64 1 99 s = some (1, s) := fun s => pR_inN (a := 1) (b := 99) hi1 hi (by decide)
    have hf : F_X3_faultOf (0 + 3) 5 (nI i) 0 0 σ = some (0, σ) := by
      rw [pT_fT, if_neg]
      intro q
      rcases q with q | q
      · exact nI_nlt (a := i) (b := 1) hi1 (by omega) q
      · exact nI_nlt (a := 99) (b := i) hi (by decide) q
    obtain ⟨L2, hL2, ok⟩ := pK_ticks (Nat.le_refl m) i t L w (σ 826) (by omega) (by omega) h1
    refine y_act (kd := 5) (a := nI i) (b := 0) (c := 0) (v := rS4 (rTicks 0 m i (σ 826)) 8 - rS4 (σ 826) 8) (r2 := rTicks 0 m i (σ 826)) h (by omega) (by omega) (fun σ1 e => ?_) hf (fun z hz => ?_) (fun s z' e1 e2 e3 => ?_)
    · unfold F_L_ticks F_X5_ticks
      have e9 : ¬ (99999 : Int32) < σ (0 + 3) 1 + nI i := by
        rw [hQ.1.2.1, h1.1.2.1, nI_add]
        exact nI_nlt (a := 99999) (b := t + i) (by omega) (by decide)
      rw [hf, xbI_s, F5_ref0, xbT_0, xjn_s, if_neg e9]; dsimp only; rw [F5_dem1, xbT_0, e, xbT_0, xbH_0, if_pos xin01, xlet_s, cl0]
    · obtain ⟨z2, L3, e1, e2, e3, e4, e5⟩ := pT_attT (c := 0) (d := 0) (by omega) (by omega) h1 ((show xQ3 σ 3 (σ 826) L from hQ).ex hz) hi1 hi
      exact ⟨z2, e1, e2, m, t + i, tr, wt, sz, ms, L3, w + 72 * i, e5, by omega, by omega, e4⟩
    · have h2 : rOK (s (824 + 2)) m t tr wt sz ms L (rLo 0 m (t + 1)) w := by rw [show s (824 + 2) = σ 826 from e1]; exact h1
      have h3 : rOK (z' (824 + 2)) m t tr wt sz ms L (rLo 0 m (t + 1)) w := by rw [show z' (824 + 2) = σ 826 from e3]; exact h1
      have e3' : z' (824 + 2) = σ 826 := e3
      have e9 : s (824 + 2) 1 + nI i ≤ 99999 := by
        rw [h2.1.2.1, nI_add]
        exact nI_le (a := t + i) (b := 99999) (by omega) (by decide)
      unfold F_X6_ticks
      rw [hI, xbI_s, xjn_s, if_pos (by decide), if_pos xin_1, xlet_s, cl_1, if_pos e9]; dsimp only; rw [pR_ref0, xbI_s, if_pos rfl, e2, xbV_s, pS_ticks (by omega) (by omega) (by omega) h3, xbI_s, e3']
  · refine (yC_thr (c := 1) (b := 0) h ?_ ?_ (by decide)).mono (by omega) (by omega)
    · unfold F_L_ticks F_X5_ticks
      rw [pT_fT, if_pos (show n < 1 ∨ 99 < n from hn), xbI_s, F5_ref2, xbT_2, xbH_2, if_pos (by decide)]
    · unfold F_X6_ticks
      rw [show F_X6_in n.toInt64 1 99 σ = _ from pR_in (a := 1) (b := 99), if_pos (show n < 1 ∨ 99 < n from hn), xbI_s, xjn_s, if_neg (by decide)]; dsimp only; rw [pR_ref1, xbI_s, if_neg (by decide)]
theorem y_set {T W : Nat} {σ : xS} (h : yR T W σ) (hT : T < 90000) (hW : W < 2 ^ 24) (w v : Int32) : yC (T + 99) (W + 8000) (F_L_set 0 w v 832) (F_X6_set 824 w v) σ := by
  obtain ⟨⟨m, t, tr, wt, sz, ms, L, w0, h1, ht, hw, hQ⟩, -⟩ := id h
  have hQ : xQ3 σ (0 + 3) (σ 826) L := hQ
  have hL8 := h1.L8
  rcases rVal_or w v with ⟨i, j, hv, rfl, rfl⟩ | ⟨b1, b2⟩
  · obtain ⟨tr2, wt2, sz2, ms2, ok⟩ := h1.set hv
    have hw4 := hv.w4
    refine y_act (kd := 6) (a := nI i) (b := nI j) (c := 0) (v := σ 826 (3 + i)) (r2 := rSet (σ 826) i (nI j)) h (by omega) (by omega) (fun σ1 e => ?_) (pT_fS1 hv) (fun z hz => ?_) (fun s z' e1 e2 e3 => ?_)
    · unfold F_L_set F_X5_set
      rw [e, xbT_0, xbH_0, if_pos xin01, xlet_s, cl0]
    · obtain ⟨z2, e1, e2, e3⟩ := pT_attS (c := 0) hL8 hv ((show xQ3 σ 3 (σ 826) L from hQ).ex hz)
      exact ⟨z2, e1, e2, m, t, tr2, wt2, sz2, ms2, L, w0, ok, by omega, by omega, e3⟩
    · have e3' : z' (824 + 2) = σ 826 := e3
      have ex : xu z' (824 + 2) (3 + i) (nI j) = xset z' 826 (rSet (σ 826) i (nI j)) := by
        have q := xu_xset (σ := z') (a := 824 + 2) (k := 3 + i) (r := z' (824 + 2)) (v := nI j)
        rw [xset_self, e3'] at q
        exact q
      unfold F_X6_set
      rw [pR_isSet hv, xbI_s, xjn_s, if_neg (by decide)]; dsimp only; rw [pR_ref0, xbI_s, if_pos rfl, e2, xbV_s, show (3 : Int32) + nI i = nI (3 + i) from nI_add 3 i, if_pos (xin_nI (by omega) (by decide)), xlet_s, if_pos (xin_nI (by omega) (by decide)), nI_clamp (by omega), xlet_s, e3', ex]
  · refine (yC_thr (c := 1) (b := 0) h ?_ ?_ (by decide)).mono (by omega) (by omega)
    · unfold F_L_set F_X5_set
      rw [act_t2 (pT_fS b2), xbT_2, xbH_2, if_pos (by decide)]
    · unfold F_X6_set
      rw [b1, xbI_s, xjn_s, if_pos rfl]; dsimp only; rw [pR_ref1, xbI_s, if_neg (by decide)]
theorem y_post {T W : Nat} {σ : xS} (h : yR T W σ) (hT : T < 90000) (hW : W < 2 ^ 24) (n : Int32) : yC (T + 99) (W + 8000) (F_L_post 0 n 832) (F_X6_post 824 n) σ := by
  obtain ⟨⟨m, t, tr, wt, sz, ms, L, w, h1, ht, hw, hQ⟩, -⟩ := id h
  have hQ : xQ3 σ (0 + 3) (σ 826) L := hQ
  rcases rng n 1 4 (by decide) (by decide) with ⟨i, hi1, hi, rfl⟩ | hn
  · have hI : ∀ s : xS, F_X6_in (nI i).toInt64 1 4 s = some (1, s) := fun s => pR_inN (a := 1) (b := 4) hi1 hi (by decide)
    have hf : F_X3_faultOf (0 + 3) 0 (nI i) 0 0 σ = some (0, σ) := by
      rw [pT_fB, if_neg]
      intro q
      rcases q with q | q
      · exact nI_nlt (a := i) (b := 1) hi1 (by omega) q
      · exact nI_nlt (a := 4) (b := i) hi (by decide) q
    obtain ⟨c0, c1, c2, c3, c4, c5, c6, c7, c8, c9, c10, c11, c12, c13, c14, c15, c16⟩ := id h1.1
    have ok : rOK (mClear (σ 826) (nI i)) i 0 tr wt sz ms 0 (rLo 0 i (0 + 1)) 0 := rOK.clear ⟨c9, c10, c11, c12, c13, c14, c15⟩ c3 c4 c5 c6 hi1 hi
    refine y_act (kd := 0) (a := nI i) (b := 0) (c := 0) (v := nI i) (r2 := mClear (σ 826) (nI i)) h (by omega) (by omega) (fun σ1 e => ?_) hf (fun z hz => ?_) (fun s z' e1 e2 e3 => ?_)
    · unfold F_L_post F_X5_post
      rw [e, xbT_0, xbH_0, if_pos xin01, xlet_s, cl0]
    · obtain ⟨z2, e1, e2, e3⟩ := pT_attB (a := 0) (b := 0) ((show xQ3 σ 3 (σ 826) L from hQ).ex hz) hi1 hi
      exact ⟨z2, e1, e2, i, 0, tr, wt, sz, ms, 0, 0, ok, by omega, by omega, e3⟩
    · have e3' : z' (824 + 2) = σ 826 := e3
      unfold F_X6_post
      rw [hI, xbI_s, xjn_s, if_neg (by decide)]; dsimp only; rw [pR_ref0, xbI_s, if_pos rfl, e2, xbV_s, pF_X6_clear, xbV_s, e3']
  · refine (yC_thr (c := 1) (b := 0) h ?_ ?_ (by decide)).mono (by omega) (by omega)
    · unfold F_L_post F_X5_post
      rw [act_t2 (by rw [pT_fB, if_pos (show n < 1 ∨ 4 < n from hn)]), xbT_2, xbH_2, if_pos (by decide)]
    · unfold F_X6_post
      rw [show F_X6_in n.toInt64 1 4 σ = _ from pR_in (a := 1) (b := 4), if_pos (show n < 1 ∨ 4 < n from hn), xbI_s, xjn_s, if_pos rfl]; dsimp only; rw [pR_ref1, xbI_s, if_neg (by decide)]
