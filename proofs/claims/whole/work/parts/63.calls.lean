/-! CALLS THAT ACT -/
theorem yC.mono {T W T2 W2 : Nat} {FL FM : xS → Option (Int32 × xS)} {σ : xS} (h : yC T W FL FM σ) (hT : T ≤ T2) (hW : W ≤ W2) : yC T2 W2 FL FM σ := by
  obtain ⟨c, σ1, b, σ2, h1, h2, h3, h4, h5⟩ := h
  exact ⟨c, σ1, b, σ2, h1, h2, h3, h4, h5.mono hT hW⟩
theorem y_act {T W T2 W2 : Nat} {FL FM : xS → Option (Int32 × xS)} {σ : xS} {kd a b c v : Int32} {r2 : Nat → Int32} (h : yR T W σ) (hT : T ≤ T2) (hW : W ≤ W2)
    (hFL : ∀ σ1, F_X5_act 0 kd a b c σ = some (0, v, σ1) → FL σ = some (0, xu σ1 832 0 v))
    (hf : F_X3_faultOf (0 + 3) kd a b c σ = some (0, σ))
    (hatt : ∀ z, (∀ i, 3 ≤ i → i < 46 → z i = σ i) → ∃ z2, F_X3_attempt (0 + 3) kd a b c z = some (v, z2) ∧ xfr z z2 3 46 ∧ yS z2 3 r2 T2 W2)
    (hFM : ∀ s z', s 826 = σ 826 → F_X6_remember 824 (xu s 824 0 0) = some z' → z' 826 = σ 826 → FM s = some (v, xset z' 826 r2)) : yC T2 W2 FL FM σ := by
  obtain ⟨hS, hX, ⟨cc, x, h1, h2, h3, h4, h5, h6⟩, hK⟩ := id h
  obtain ⟨z, r1, r3, r4, r5, r6⟩ := pM_rem h1 h2 h3 h4 hS
  obtain ⟨z2, a1, a2, a3⟩ := hatt z (fun i p q => r3 i (by omega) (by omega))
  have cl : F_X5_act 0 kd a b c σ = some (0, v, z2) := by
    unfold F_X5_act
    rw [hf, xbI_s, F5_ref0, xbT_0, r1, xbV_s, a1, xbI_s]
  obtain ⟨s, hs⟩ : ∃ y, y = xu z2 832 0 v := ⟨_, rfl⟩
  have fs : ∀ i, i ≠ 832 → i ≠ 46 → ¬ (3 ≤ i ∧ i < 46) → ¬ (48 + 43 * x ≤ i ∧ i < 48 + 43 * x + 43) → s i = σ i := fun i p1 p2 p3 p4 => by
    rw [hs, xu_other p1, a2 i (by omega), r3 i p2 p4]
  obtain ⟨z', b1, b2, b3, b4, b5⟩ := pR_rem (σ := xu s 824 0 0) h1 (by rw [xu_same, up_n (by decide), fs 824 (by decide) (by decide) (by omega) (by omega), h5])
  have e826 : z' 826 = σ 826 := by rw [b2 _ (by decide) (by decide), xu_other (by decide), fs 826 (by decide) (by decide) (by omega) (by omega)]
  obtain ⟨σ2, hσ2⟩ : ∃ y, y = xset z' 826 r2 := ⟨_, rfl⟩
  have f2 : ∀ i, i ≠ 832 → i ≠ 46 → ¬ (3 ≤ i ∧ i < 46) → ¬ (48 + 43 * x ≤ i ∧ i < 48 + 43 * x + 43) → i ≠ 824 → i ≠ 826 → i ≠ 829 → σ2 i = σ i := fun i p1 p2 p3 p4 p5 p6 p7 => by
    rw [hσ2, xset_other p6, b2 i p5 p7, xu_other p5, fs i p1 p2 p3 p4]
  have f3 : ∀ i, i ≠ 832 → i ≠ 824 → i ≠ 826 → i ≠ 829 → σ2 i = z2 i := fun i p1 p5 p6 p7 => by
    rw [hσ2, xset_other p6, b2 i p5 p7, xu_other p5, hs, xu_other p1]
  have e824 : ∀ j, j ≠ 0 → j ≠ 7 → σ2 824 j = σ 824 j := fun j p q => by
    rw [hσ2, xset_other (by decide), b3 j q, xu_same, up_n p, fs 824 (by decide) (by decide) (by omega) (by omega)]
  refine ⟨0, s, v, σ2, by rw [hs]; exact hFL z2 cl, ?_, ?_, fun _ => ?_, ?_, hX.ex (f2 2 (by decide) (by decide) (by omega) (by omega) (by decide) (by decide) (by decide)) (f2 825 (by decide) (by decide) (by omega) (by omega) (by decide) (by decide) (by decide)) ?_ (e824 2 (by decide) (by decide)), ?_, (hK.mono hT hW).ex (fun i hi => f2 i (by omega) (by omega) (by omega) (by omega) (by omega) (by omega) (by omega))⟩
  · rw [hσ2]
    exact hFM s z' (fs 826 (by decide) (by decide) (by omega) (by omega)) b1 e826
  · rw [hσ2, xset_other (by decide), b3 0 (by decide), xu_same, up_s]
  · rw [hσ2, xset_other (by decide), b2 _ (by decide) (by decide), xu_other (by decide), hs, xu_same, up_s]
  · have e : σ2 826 = r2 := by rw [hσ2, xset_same]
    rw [e]
    exact a3.ex (fun i p q => f3 i (by omega) (by omega) (by omega) (by omega))
  · rw [f2 1 (by decide) (by decide) (by omega) (by omega) (by decide) (by decide) (by decide)]
  · refine yM_rem h1 h2 (fun j hj => (h6 j hj).mono hT hW) ?_ ?_ ?_ (fun i p q pq => f2 i (by omega) (by omega) (by omega) pq (by omega) (by omega) (by omega)) ?_ (fun j i hi hj => ?_)
    · rw [f3 46 (by decide) (by decide) (by decide) (by decide), a2 46 (by omega), r4]
    · rw [f3 46 (by decide) (by decide) (by decide) (by decide), a2 46 (by omega), r5]
    · rw [hσ2, xset_other (by decide), b4]
    · exact (r6.mono hT hW).ex (fun i p q => by rw [f3 i (by omega) (by omega) (by omega) (by omega), a2 i (by omega)])
    · have q1 : (xu s 824 0 0) 826 = σ 826 := by rw [xu_other (by decide), fs 826 (by decide) (by decide) (by omega) (by omega)]
      have q2 : (xu s 824 0 0) 829 = σ 829 := by rw [xu_other (by decide), fs 829 (by decide) (by decide) (by omega) (by omega)]
      rw [hσ2, xset_other (by decide), b5 j i hi hj, q1, q2]
theorem act_t1 {σ : xS} {kd a b c : Int32} (h : F_X3_faultOf (0 + 3) kd a b c σ = some (1, σ)) : F_X5_act 0 kd a b c σ = some (1, 0, σ) := by
  unfold F_X5_act
  rw [h, xbI_s, F5_ref1, xbT_1]
theorem act_t2 {σ : xS} {kd a b c : Int32} (h : F_X3_faultOf (0 + 3) kd a b c σ = some (2, σ)) : F_X5_act 0 kd a b c σ = some (2, 0, σ) := by
  unfold F_X5_act
  rw [h, xbI_s, F5_ref2, xbT_2]
theorem act_t3 {σ : xS} {kd a b c : Int32} (h : F_X3_faultOf (0 + 3) kd a b c σ = some (3, σ)) : F_X5_act 0 kd a b c σ = some (3, 0, σ) := by
  unfold F_X5_act
  rw [h, xbI_s, F5_ref3, xbT_3]
theorem pT_fW {σ : xS} {p : Nat} {k s c : Int32} : F_X3_faultOf p 1 k s c σ = xbI (F_X3_faultOfNote p k s σ) (fun (zz5 : Int32) (σ4 : xS) => some (zz5, σ4)) := by
  unfold F_X3_faultOf
  rw [if_neg (by decide), if_pos rfl]
section RG
variable {m t tr wt sz ms L w0 : Nat} {lo : Nat → Nat}
theorem pS_can {σ : xS} {a k : Nat} {s : Int32} (hk : k < 4) : F_X6_canWrite 187 a (nI k) s σ = some (if 9999 < rRow (σ a) k 0 + s then 0 else 1, σ) := by
  have e := pR_canWrite (σ := σ) (a := a) (r := σ a) (s := s) hk
  rw [xset_self] at e
  exact e
theorem pS_write {σ : xS} {a k : Nat} {s : Int32} (h : rOK (σ a) m t tr wt sz ms L lo w0) (hk : k < m) : F_X6_writeOn 187 a (nI k) s σ = some (rRow (rW (σ a) k s) k 3 - rRow (σ a) k 3, xset σ a (rW (σ a) k s)) := by
  have e := pR_writeOn (σ := σ) (a := a) (k := k) (r := σ a) (s := s) (by have := h.m4; omega) h.1 (h.2.2.1 k hk)
  rw [xset_self] at e
  exact e
theorem pS_hold {σ : xS} {a k : Nat} {b : Int32} (h : rOK (σ a) m t tr wt sz ms L lo w0) (hk : k < m) (hb : b = 0 ∨ b = 1) : F_X6_holdOn 187 a (nI k) b σ = some (rRow (rHold (σ a) k b) k 3 - rRow (σ a) k 3, xset σ a (rHold (σ a) k b)) := by
  have e := pR_holdOn (σ := σ) (a := a) hk h hb
  rw [xset_self] at e
  exact e
theorem pS_flush {σ : xS} {a k : Nat} (h : rOK (σ a) m t tr wt sz ms L lo w0) (hk : k < m) : F_X6_sends 187 a (nI k) 0 σ = some (rRow (rFlush (σ a) k) k 3 - rRow (σ a) k 3, xset σ a (rFlush (σ a) k)) := by
  have e := pR_flush (σ := σ) (a := a) hk h
  rw [xset_self] at e
  exact e
theorem pS_plan {σ : xS} {a : Nat} {n k s : Int32} (h : rOK (σ a) m t tr wt sz ms L lo w0) (hL : L < 8) : F_X6_planOn 187 a n k s σ = some (nI (L + 1), xset σ a (rPlan (σ a) L n k s)) := by
  have e := pR_planOn (σ := σ) (a := a) (n := n) (k := k) (s := s) h hL
  rw [xset_self] at e
  exact e
theorem pS_ticks {σ : xS} {a n : Nat} (hn : n < 900) (ht : t < 2 ^ 27) (hW : w0 < 2 ^ 27) (h : rOK (σ a) m t tr wt sz ms L (rLo 0 m (t + 1)) w0) : F_X6_ticksOn 187 a (nI n) σ = some (rS4 (rTicks 0 m n (σ a)) 8 - rS4 (σ a) 8, xset σ a (rTicks 0 m n (σ a))) := by
  have e := pR_ticksOn (σ := σ) (a := a) hn ht hW h
  rw [xset_self] at e
  exact e
end RG
theorem rLo_le1 {m t : Nat} : ∀ k, rLo 0 m (t + 1) k ≤ t + 1 := rLo_le
theorem y_write {T W : Nat} {σ : xS} (h : yR T W σ) (hT : T < 90000) (hW : W < 2 ^ 24) (k x : Int32) : yC (T + 99) (W + 8000) (F_L_write 0 k x 832) (F_X6_write 824 k x) σ := by
  obtain ⟨⟨m, t, tr, wt, sz, ms, L, w, h1, ht, hw, hQ⟩, -⟩ := id h
  have hQ : xQ3 σ (0 + 3) (σ 826) L := hQ
  have hm4 := h1.m4
  have h1' : rOK (σ (824 + 2)) m t tr wt sz ms L (rLo 0 m (t + 1)) w := h1
  rcases rIs m hm4 k with hk | ⟨j, hj, rfl⟩
  · refine (yC_thr (c := 1) (b := 0) h ?_ ?_ (by decide)).mono (by omega) (by omega)
    · unfold F_L_write F_X5_write
      rw [act_t1 (by rw [pT_fW, pT_fNote0 hQ.1 h1.1.1 hk, xbI_s]), xbT_1, xbH_1, if_pos (by decide)]
    · unfold F_X6_write
      rw [pS_isW0 h1' hk, xbI_s, xjn_s, if_neg (by decide)]; dsimp only; rw [pR_ref1, xbI_s, if_neg (by decide)]
  · rcases rng x 1 500 (by decide) (by decide) with ⟨y, hy1, hy, rfl⟩ | hx
    · have hN : ∀ s : xS, F_X6_isNote (nI y) s = some (1, s) := fun s => by
        rw [pR_isNote, if_neg]
        intro q
        rcases q with q | q
        · exact nI_nlt (a := y) (b := 1) hy1 (by omega) q
        · exact nI_nlt (a := 500) (b := y) hy (by decide) q
      by_cases hr : (9999 : Int32) < rRow (σ 826) j 0 + nI y
      · refine (yC_thr (c := 3) (b := 0) h ?_ ?_ (by decide)).mono (by omega) (by omega)
        · unfold F_L_write F_X5_write
          rw [act_t3 (by rw [pT_fW, pF_faultOfNote hQ.1 h1.1.1 hj hm4 hy1 hy, if_pos hr, xbI_s]), xbT_3, xbH_3, if_neg (by decide), if_neg (by decide), if_pos (by decide)]
        · unfold F_X6_write
          rw [pS_isW1 h1' hj, xbI_s, xjn_s, if_pos (by decide), hN, xbI_s, if_pos (by decide), pS_can (by omega), if_pos (show 9999 < rRow (σ (824 + 2)) j 0 + nI y from hr), xbI_s, if_pos rfl]; dsimp only; rw [pR_ref3, xbI_s, if_neg (by decide)]
      · have ok := h1.write (by omega) rLo_le1 hj hy hr
        refine y_act (kd := 1) (a := nI j) (b := nI y) (c := 0) (v := rRow (rW (σ 826) j (nI y)) j 3 - rRow (σ 826) j 3) (r2 := rW (σ 826) j (nI y)) h (by omega) (by omega) (fun σ1 e => ?_) ?_ (fun z hz => ?_) (fun s z' e1 e2 e3 => ?_)
        · unfold F_L_write F_X5_write
          rw [e, xbT_0, xbH_0, if_pos xin01, xlet_s, cl0]
        · rw [pT_fW, pF_faultOfNote hQ.1 h1.1.1 hj hm4 hy1 hy, if_neg hr, xbI_s]
        · obtain ⟨z2, e1, e2, e3⟩ := pT_attW (c := 0) (by omega) h1 ((show xQ3 σ 3 (σ 826) L from hQ).ex hz) hj hy1 hy hr
          exact ⟨z2, e1, e2, m, t, tr, wt, sz, ms, L, w + 6, ok, by omega, by omega, e3⟩
        · have h2 : rOK (s (824 + 2)) m t tr wt sz ms L (rLo 0 m (t + 1)) w := by rw [show s (824 + 2) = σ 826 from e1]; exact h1
          have h3 : rOK (z' (824 + 2)) m t tr wt sz ms L (rLo 0 m (t + 1)) w := by rw [show z' (824 + 2) = σ 826 from e3]; exact h1
          have e3' : z' (824 + 2) = σ 826 := e3
          unfold F_X6_write
          rw [pS_isW1 h2 hj, xbI_s, xjn_s, if_pos (by decide), hN, xbI_s, if_pos (by decide), pS_can (by omega), if_neg (by rw [show s (824 + 2) = σ 826 from e1]; exact hr), xbI_s, if_neg (by decide)]; dsimp only; rw [pR_ref0, xbI_s, if_pos rfl, e2, xbV_s, pS_write h3 hj, xbI_s, e3']
    · refine (yC_thr (c := 2) (b := 0) h ?_ ?_ (by decide)).mono (by omega) (by omega)
      · unfold F_L_write F_X5_write
        rw [act_t2 (by rw [pT_fW, pT_fNote1 hQ.1 h1.1.1 hj hm4 hx, xbI_s]), xbT_2, xbH_2, if_neg (by decide), if_pos (by decide)]
      · unfold F_X6_write
        rw [pS_isW1 h1' hj, xbI_s, xjn_s, if_pos (by decide), pR_isNote, if_pos (show x < 1 ∨ 500 < x from hx), xbI_s, if_neg (by decide)]; dsimp only; rw [pR_ref2, xbI_s, if_neg (by decide)]
