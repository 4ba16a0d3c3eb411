/-! CALLS THAT ACT -/

/-- remembering -/
theorem z_rem {σ : xS} {x T W : Nat} {r : Nat → Int32} {l : List (Nat → Int32)} (hP : zP r T W) (hQ : zQ σ (x + 3) r) (hM : zM σ x l) : ∃ z, F_X1_remember (x + 46) (x + 3) σ = some z ∧ xfr σ z (x + 46) (x + 650) ∧ zM z x ((r :: l).take 14) := by
  obtain ⟨y, h2, h1, h3, h4, h5⟩ := hM
  obtain ⟨c, hc⟩ : ∃ c, c = l.length := ⟨_, rfl⟩
  rw [← hc] at h1 h3
  obtain ⟨z, c1, c2, c3⟩ := zQ.copy (p := x + 46 + 2 + 43 * y) hP hQ (by omega)
  have z1 : z (x + 46) 1 = nI y := by rw [c2 _ (by omega), h4]
  have z2 : ∀ v, (xu z (x + 46) 1 v) (x + 46) 2 = nI c := fun v => by rw [xu_same, up_n (by decide), c2 _ (by omega), h3]
  have mod : (nI y + 1) - (nI y + 1) / 14 * 14 = nI ((y + 1) % 14) := by
    rw [nI_1, show (14 : Int32) = nI 14 from rfl, pk_rem (by omega) (by decide) (by decide)]
  obtain ⟨z3, hz3⟩ : ∃ s, s = xu (xu z (x + 46) 1 (nI ((y + 1) % 14))) (x + 46) 2 (nI (if c = 14 then 14 else c + 1)) := ⟨_, rfl⟩
  have fz : ∀ i, i ≠ x + 46 → z3 i = z i := fun i a => by rw [hz3, xu_other a, xu_other a]
  refine ⟨z3, ?_, ?_, (y + 1) % 14, by omega, ?_, ?_, ?_, ?_⟩
  · unfold F_X1_remember
    rw [xjn_s, h4, if_neg (nI_pos (by omega)), if_neg (nI_ge (a := y) (b := 14) (by omega) (by decide)), if_pos (xin_nI (by omega) (by decide)), nI_clamp (by omega), c1, xbV_s]
    dsimp only
    rw [z1, mod, xlet_s, z2, nI_1, hz3]
    by_cases e : c = 14
    · rw [if_pos e, e, if_pos (show (14 : Int32) < nI (14 + 1) by decide), xlet_s, xlet_s]
      rfl
    · rw [if_neg (show ¬ (14 : Int32) < nI (c + 1) from nI_nlt (a := 14) (b := c + 1) (by omega) (by decide)), xlet_s, xlet_s, if_neg e]
  · intro i hi
    rw [fz i (by omega), c2 i (by omega)]
  · rw [List.length_take]; omega
  · rw [hz3, xu_same, up_s, List.length_take, List.length_cons, ← hc]
    by_cases e : c = 14
    · rw [if_pos e, Nat.min_eq_left (by omega)]
    · rw [if_neg e, Nat.min_eq_right (by omega)]
  · rw [hz3, xu_same, up_n (by decide), xu_same, up_s]
  · intro j r2 hr
    rw [List.getElem?_take] at hr
    by_cases hj : j < 14
    · rw [if_pos hj] at hr
      cases j with
      | zero =>
        rw [List.getElem?_cons_zero] at hr
        obtain rfl := Option.some.inj hr
        rw [show ((y + 1) % 14 + 13 - 0) % 14 = y by omega]
        exact c3.ex (fun i a b => fz i (by omega))
      | succ j =>
        rw [List.getElem?_cons_succ] at hr
        have q := h5 j r2 hr
        rw [show ((y + 1) % 14 + 13 - (j + 1)) % 14 = (y + 13 - j) % 14 by omega]
        refine q.ex (fun i a b => ?_)
        rw [fz i (by omega), c2 i (by omega)]
    · rw [if_neg hj] at hr; cases hr
/-- the object behind an action -/
def zPu (A : zA) (r : Nat → Int32) : zA := (r, (A.1 :: A.2.1).take 14, A.2.2)
theorem zPu_P {A : zA} {T W T2 W2 : Nat} {r : Nat → Int32} (h : zAP A T W) (hT : T ≤ T2) (hW : W ≤ W2) (hr : zP r T2 W2) : zAP (zPu A r) T2 W2 := by
  refine ⟨hr, fun r2 h2 => ?_, fun s r2 h2 => (h.2.2 s r2 h2).mono hT hW⟩
  have h3 := List.mem_of_mem_take h2
  rcases List.mem_cons.mp h3 with e | e
  · rw [e]; exact h.1.mono hT hW
  · exact (h.2.1 r2 e).mono hT hW
section ZC
variable {A : zA} {T W : Nat}
theorem z_act {x : Nat} {kd a b c v : Int32} {r2 : Nat → Int32} (h : zAP A T W) (hf : ∀ σ, zQ σ (x + 3) A.1 → F_X3_faultOf (x + 3) kd a b c σ = some (0, σ)) (hatt : ∀ z, zQ z (x + 3) A.1 → ∃ z2, F_X3_attempt (x + 3) kd a b c z = some (v, z2) ∧ xfr z z2 (x + 3) (x + 3 + 43) ∧ zQ z2 (x + 3) r2) : zT x (F_X5_act x kd a b c) 0 v A (zPu A r2) := by
  intro σ hσ
  obtain ⟨hQ, hM, hK⟩ := hσ
  obtain ⟨z, r1, r3, r4⟩ := z_rem h.1 hQ hM
  obtain ⟨z2, a1, a2, a3⟩ := hatt z (hQ.ex (fun i p q => r3 i (by omega)))
  refine ⟨z2, ?_, fun i hi => ?_, a3, r4.ex (fun i p q => a2 i (by omega)), hK.ex ?_ (fun i p q => ?_)⟩
  · unfold F_X5_act
    rw [hf σ hQ, xbI_s, F5_ref0, xbT_0, r1, xbV_s, a1, xbI_s]
  · rw [a2 i (by omega), r3 i (by omega)]
  · rw [a2 _ (by omega), r3 _ (by omega)]
  · rw [a2 i (by omega), r3 i (by omega)]
theorem act_t1 {σ : xS} {x : Nat} {kd a b c : Int32} (h : F_X3_faultOf (x + 3) kd a b c σ = some (1, σ)) : F_X5_act x kd a b c σ = some (1, 0, σ) := by
  unfold F_X5_act
  rw [h, xbI_s, F5_ref1, xbT_1]
theorem act_t2 {σ : xS} {x : Nat} {kd a b c : Int32} (h : F_X3_faultOf (x + 3) kd a b c σ = some (2, σ)) : F_X5_act x kd a b c σ = some (2, 0, σ) := by
  unfold F_X5_act
  rw [h, xbI_s, F5_ref2, xbT_2]
theorem act_t3 {σ : xS} {x : Nat} {kd a b c : Int32} (h : F_X3_faultOf (x + 3) kd a b c σ = some (3, σ)) : F_X5_act x kd a b c σ = some (3, 0, σ) := by
  unfold F_X5_act
  rw [h, xbI_s, F5_ref3, xbT_3]
theorem zT_b0 {x : Nat} {F G : xS → Option xR} {v : Int32} {A2 : zA} (h : zT x F 0 v A A2) (hG : ∀ σ, G σ = xbT (F σ) (fun (z : Int32) (s : xS) => some (0, z, s))) : zT x G 0 v A A2 := by
  intro σ hσ
  obtain ⟨z, h1, h2, h3⟩ := h σ hσ
  exact ⟨z, by rw [hG, h1, xbT_0], h2, h3⟩
theorem z_write1 {x : Nat} {k s : Int32} (h : zAP A T W) (hk : rBad (mN (A.1 0)) k) : zT x (F_X5_write x k s) 1 0 A A := by
  obtain ⟨⟨m, t, tr, wt, sz, ms, L, w, h1, -, -, -⟩, -⟩ := h
  rw [h1.mm] at hk
  refine zT_look (fun σ hσ => ?_)
  have hQ : xQ3 σ (x + 3) A.1 L := hσ.1.to h1
  unfold F_X5_write
  rw [act_t1 (by rw [pT_fW, pT_fNote0 hQ.1 h1.1.1 hk, xbI_s]), xbT_1]
theorem z_write2 {x j : Nat} {s : Int32} (h : zAP A T W) (hj : j < mN (A.1 0)) (hs : s < 1 ∨ 500 < s) : zT x (F_X5_write x (nI j) s) 2 0 A A := by
  obtain ⟨⟨m, t, tr, wt, sz, ms, L, w, h1, -, -, -⟩, -⟩ := h
  have hm4 := h1.m4
  rw [h1.mm] at hj
  refine zT_look (fun σ hσ => ?_)
  have hQ : xQ3 σ (x + 3) A.1 L := hσ.1.to h1
  unfold F_X5_write
  rw [act_t2 (by rw [pT_fW, pT_fNote1 hQ.1 h1.1.1 hj hm4 hs, xbI_s]), xbT_2]
theorem z_write3 {x j y : Nat} (h : zAP A T W) (hj : j < mN (A.1 0)) (hy1 : 1 ≤ y) (hy : y ≤ 500) (hr : (9999 : Int32) < rRow A.1 j 0 + nI y) : zT x (F_X5_write x (nI j) (nI y)) 3 0 A A := by
  obtain ⟨⟨m, t, tr, wt, sz, ms, L, w, h1, -, -, -⟩, -⟩ := h
  have hm4 := h1.m4
  rw [h1.mm] at hj
  refine zT_look (fun σ hσ => ?_)
  have hQ : xQ3 σ (x + 3) A.1 L := hσ.1.to h1
  unfold F_X5_write
  rw [act_t3 (by rw [pT_fW, pF_faultOfNote hQ.1 h1.1.1 hj hm4 hy1 hy, if_pos hr, xbI_s]), xbT_3]
theorem zP.write {r : Nat → Int32} {j y : Nat} (h : zP r T W) (hT : T < 2 ^ 28) (hW : W < 2 ^ 28) (hj : j < mN (r 0)) (hy : y ≤ 500) (hr : ¬ (9999 : Int32) < rRow r j 0 + nI y) : zP (rW r j (nI y)) (T + 99) (W + 8000) := by
  obtain ⟨m, t, tr, wt, sz, ms, L, w, h1, hz, ht, hw⟩ := h
  have hL8 := h1.L8
  rw [h1.mm] at hj
  exact ⟨m, t, tr, wt, sz, ms, L, w + 6, h1.write (by omega) rLo_le1 hj hy hr, hz.X (by rw [h1.LL]; exact hL8) (hz.1.write (by omega) rLo_le1 (by omega) h1.1 h1.2.2 hj hy hr), by omega, by omega⟩
theorem z_write {x j y : Nat} (h : zAP A T W) (hT : T < 2 ^ 28) (hW : W < 2 ^ 28) (hj : j < mN (A.1 0)) (hy1 : 1 ≤ y) (hy : y ≤ 500) (hr : ¬ (9999 : Int32) < rRow A.1 j 0 + nI y) : zT x (F_X5_write x (nI j) (nI y)) 0 (rRow (rW A.1 j (nI y)) j 3 - rRow A.1 j 3) A (zPu A (rW A.1 j (nI y))) := by
  obtain ⟨m, t, tr, wt, sz, ms, L, w, h1, -, ht, hw⟩ := id h.1
  have hm4 := h1.m4
  rw [h1.mm] at hj
  have ok := h1.write (by omega) rLo_le1 hj hy hr
  refine zT_b0 (F := F_X5_act x 1 (nI j) (nI y) 0) (z_act h (fun σ hσ => ?_) (fun z hz => ?_)) (fun σ => by unfold F_X5_write; rfl)
  · rw [pT_fW, pF_faultOfNote (hσ.to h1).1 h1.1.1 hj hm4 hy1 hy, if_neg hr, xbI_s]
  · obtain ⟨z2, e1, e2, e3⟩ := pT_attW (c := 0) (by omega) h1 (hz.to h1) hj hy1 hy hr
    exact ⟨z2, e1, e2, zQ.of e3 ok⟩
theorem z_plan1 {x : Nat} {n k s : Int32} (h : zAP A T W) (hk : rBad (mN (A.1 0)) k) : zT x (F_X5_plan x n k s) 1 0 A A := by
  obtain ⟨⟨m, t, tr, wt, sz, ms, L, w, h1, -, -, -⟩, -⟩ := h
  rw [h1.mm] at hk
  refine zT_look (fun σ hσ => ?_)
  have hQ : xQ3 σ (x + 3) A.1 L := hσ.1.to h1
  unfold F_X5_plan
  rw [act_t1 (pT_fP0 (hQ.1.1.trans h1.1.1) hk), xbT_1]
theorem z_plan2 {x j : Nat} {n s : Int32} (h : zAP A T W) (hj : j < mN (A.1 0)) (hb : (n < 1 ∨ 99 < n) ∨ (s < 1 ∨ 500 < s)) : zT x (F_X5_plan x n (nI j) s) 2 0 A A := by
  obtain ⟨⟨m, t, tr, wt, sz, ms, L, w, h1, -, -, -⟩, -⟩ := h
  have hm4 := h1.m4
  rw [h1.mm] at hj
  refine zT_look (fun σ hσ => ?_)
  have hQ : xQ3 σ (x + 3) A.1 L := hσ.1.to h1
  unfold F_X5_plan
  rw [act_t2 (pT_fP1 (hQ.1.1.trans h1.1.1) hj hm4 hb), xbT_2]
theorem z_plan3 {x i j y : Nat} (h : zAP A T W) (hj : j < mN (A.1 0)) (hi1 : 1 ≤ i) (hi : i ≤ 99) (hy1 : 1 ≤ y) (hy : y ≤ 500) (h8 : 8 ≤ mN (A.1 2)) : zT x (F_X5_plan x (nI i) (nI j) (nI y)) 3 0 A A := by
  obtain ⟨⟨m, t, tr, wt, sz, ms, L, w, h1, -, -, -⟩, -⟩ := h
  have hm4 := h1.m4
  have hL8 := h1.L8
  rw [h1.mm] at hj
  rw [h1.LL] at h8
  refine zT_look (fun σ hσ => ?_)
  have hQ : xQ3 σ (x + 3) A.1 L := hσ.1.to h1
  unfold F_X5_plan
  rw [act_t3 (by rw [pT_fP2 hQ hL8 h1.1.1 hj hm4 hi1 hi hy1 hy, if_pos h8]), xbT_3]
theorem rPlan_2 {r : Nat → Int32} {L : Nat} {n k s : Int32} : rPlan r L n k s 2 = nI (L + 1) := up_s
theorem zP.plan {r : Nat → Int32} {i j y : Nat} (h : zP r T W) (hj : j < mN (r 0)) (hi1 : 1 ≤ i) (hi : i ≤ 99) (hy1 : 1 ≤ y) (hy : y ≤ 500) (h8 : mN (r 2) < 8) : zP (rPlan r (mN (r 2)) (nI i) (nI j) (nI y)) (T + 99) (W + 8000) := by
  obtain ⟨m, t, tr, wt, sz, ms, L, w, h1, hz, ht, hw⟩ := h
  rw [h1.mm] at hj
  have eL := h1.LL
  rw [eL] at h8 ⊢
  refine ⟨m, t, tr, wt, sz, ms, L + 1, w, h1.plan h8 hj hy1 hy, ⟨hz.1.cg (fun q hq => rPlan_n (by omega) (by omega)), fun q hq => ?_⟩, by omega, by omega⟩
  rw [rPlan_2, mN_nI (by omega)] at hq
  by_cases e : q = L
  · subst e
    refine ⟨t + i, ?_, by omega, by omega⟩
    unfold rPlan
    rw [up_n (by omega), up_n (by omega), up_n (by omega), up_s, h1.1.2.1, nI_add]
  · rw [rPlan_n (by omega) (by omega)]
    exact hz.2 q (by omega)
theorem z_plan {x i j y : Nat} (h : zAP A T W) (hj : j < mN (A.1 0)) (hi1 : 1 ≤ i) (hi : i ≤ 99) (hy1 : 1 ≤ y) (hy : y ≤ 500) (h8 : mN (A.1 2) < 8) : zT x (F_X5_plan x (nI i) (nI j) (nI y)) 0 (nI (mN (A.1 2) + 1)) A (zPu A (rPlan A.1 (mN (A.1 2)) (nI i) (nI j) (nI y))) := by
  obtain ⟨m, t, tr, wt, sz, ms, L, w, h1, -, ht, hw⟩ := id h.1
  have hm4 := h1.m4
  have hL8 := h1.L8
  rw [h1.mm] at hj
  rw [h1.LL] at h8 ⊢
  have ok := h1.plan (n := nI i) h8 hj hy1 hy
  refine zT_b0 (F := F_X5_act x 2 (nI i) (nI j) (nI y)) (z_act h (fun σ hσ => ?_) (fun z hz => ?_)) (fun σ => by unfold F_X5_plan; rfl)
  · rw [pT_fP2 (hσ.to h1) hL8 h1.1.1 hj hm4 hi1 hi hy1 hy, if_neg (by omega)]
  · obtain ⟨z2, e1, e2, e3⟩ := pT_attP (hz.to h1) h8 h1.1.1 hj hm4 hi1 hi hy1 hy
    exact ⟨z2, e1, e2, zQ.of e3 ok⟩
theorem hold_un {x : Nat} {k b : Int32} (hb : b = 0 ∨ b = 1) (s : xS) : F_X5_hold x k b s = xbT (F_X5_act x 3 k b 0 s) (fun (zz2 : Int32) (σ1 : xS) => some (0, zz2, σ1)) := by
  unfold F_X5_hold
  rcases hb with hb | hb <;> subst hb
  · rw [if_pos rfl]
  · rw [if_neg (by decide)]
theorem z_hold1 {x : Nat} {k b : Int32} (h : zAP A T W) (hk : rBad (mN (A.1 0)) k) (hb : b = 0 ∨ b = 1) : zT x (F_X5_hold x k b) 1 0 A A := by
  obtain ⟨⟨m, t, tr, wt, sz, ms, L, w, h1, -, -, -⟩, -⟩ := h
  rw [h1.mm] at hk
  refine zT_look (fun σ hσ => ?_)
  have hQ : xQ3 σ (x + 3) A.1 L := hσ.1.to h1
  rw [hold_un hb, act_t1 (pT_att34 (hQ.1.1.trans h1.1.1) hk (Or.inl rfl)).1, xbT_1]
theorem zP.hold {r : Nat → Int32} {j : Nat} {b : Int32} (h : zP r T W) (hT : T < 2 ^ 28) (hW : W < 2 ^ 28) (hj : j < mN (r 0)) (hb : b = 0 ∨ b = 1) : zP (rHold r j b) (T + 99) (W + 8000) := by
  obtain ⟨m, t, tr, wt, sz, ms, L, w, h1, hz, ht, hw⟩ := h
  have hL8 := h1.L8
  rw [h1.mm] at hj
  exact ⟨m, t, tr, wt, sz, ms, L, w + 6, h1.hold (by omega) rLo_le1 hj hb, hz.X (by rw [h1.LL]; exact hL8) (hz.1.hold (by omega) rLo_le1 (by omega) h1.1 h1.2.2 hj hb), by omega, by omega⟩
theorem z_hold {x j : Nat} {b : Int32} (h : zAP A T W) (hT : T < 2 ^ 28) (hW : W < 2 ^ 28) (hj : j < mN (A.1 0)) (hb : b = 0 ∨ b = 1) : zT x (F_X5_hold x (nI j) b) 0 (rRow (rHold A.1 j b) j 3 - rRow A.1 j 3) A (zPu A (rHold A.1 j b)) := by
  obtain ⟨m, t, tr, wt, sz, ms, L, w, h1, -, ht, hw⟩ := id h.1
  have hm4 := h1.m4
  rw [h1.mm] at hj
  have ok := h1.hold (by omega) rLo_le1 hj hb
  refine zT_b0 (F := F_X5_act x 3 (nI j) b 0) (z_act h (fun σ hσ => ?_) (fun z hz => ?_)) (fun σ => hold_un hb σ)
  · exact pT_fHF ((hσ.to h1).1.1.trans h1.1.1) hj hm4 (Or.inl rfl)
  · obtain ⟨z2, e1, e2, e3⟩ := pT_attH (c := 0) (by omega) h1 (hz.to h1) hj hb
    exact ⟨z2, e1, e2, zQ.of e3 ok⟩
theorem z_flush1 {x : Nat} {k : Int32} (h : zAP A T W) (hk : rBad (mN (A.1 0)) k) : zT x (F_X5_flush x k) 1 0 A A := by
  obtain ⟨⟨m, t, tr, wt, sz, ms, L, w, h1, -, -, -⟩, -⟩ := h
  rw [h1.mm] at hk
  refine zT_look (fun σ hσ => ?_)
  have hQ : xQ3 σ (x + 3) A.1 L := hσ.1.to h1
  unfold F_X5_flush
  rw [act_t1 (pT_att34 (hQ.1.1.trans h1.1.1) hk (Or.inr rfl)).1, xbT_1]
theorem zP.flush {r : Nat → Int32} {j : Nat} (h : zP r T W) (hT : T < 2 ^ 28) (hW : W < 2 ^ 28) (hj : j < mN (r 0)) : zP (rFlush r j) (T + 99) (W + 8000) := by
  obtain ⟨m, t, tr, wt, sz, ms, L, w, h1, hz, ht, hw⟩ := h
  have hL8 := h1.L8
  rw [h1.mm] at hj
  exact ⟨m, t, tr, wt, sz, ms, L, w + 6, h1.flush (by omega) rLo_le1 hj, hz.X (by rw [h1.LL]; exact hL8) (hz.1.flush (by omega) rLo_le1 (by omega) h1.1 h1.2.2 hj), by omega, by omega⟩
theorem z_flush {x j : Nat} (h : zAP A T W) (hT : T < 2 ^ 28) (hW : W < 2 ^ 28) (hj : j < mN (A.1 0)) : zT x (F_X5_flush x (nI j)) 0 (rRow (rFlush A.1 j) j 3 - rRow A.1 j 3) A (zPu A (rFlush A.1 j)) := by
  obtain ⟨m, t, tr, wt, sz, ms, L, w, h1, -, ht, hw⟩ := id h.1
  have hm4 := h1.m4
  rw [h1.mm] at hj
  have ok := h1.flush (by omega) rLo_le1 hj
  refine zT_b0 (F := F_X5_act x 4 (nI j) 0 0) (z_act h (fun σ hσ => ?_) (fun z hz => ?_)) (fun σ => by unfold F_X5_flush; rfl)
  · exact pT_fHF ((hσ.to h1).1.1.trans h1.1.1) hj hm4 (Or.inr rfl)
  · obtain ⟨z2, e1, e2, e3⟩ := pT_attF (c := 0) (d := 0) (by omega) h1 (hz.to h1) hj
    exact ⟨z2, e1, e2, zQ.of e3 ok⟩
theorem z_ticks2 {x : Nat} {n : Int32} (hn : n < 1 ∨ 99 < n) : zT x (F_X5_ticks x n) 2 0 A A := by
  refine zT_look (fun σ hσ => ?_)
  unfold F_X5_ticks
  rw [pT_fT, if_pos (show n < 1 ∨ 99 < n from hn), xbI_s, F5_ref2, xbT_2]
theorem zP.ticks {r : Nat → Int32} {i : Nat} (h : zP r T W) (hT : T < 2 ^ 27) (hW : W < 2 ^ 27) (hi : i ≤ 99) : zP (rTicks 0 (mN (r 0)) i r) (T + 99) (W + 8000) := by
  obtain ⟨m, t, tr, wt, sz, ms, L, w, h1, hz, ht, hw⟩ := h
  rw [h1.mm]
  obtain ⟨L2, hL2, ok⟩ := pK_ticks (Nat.le_refl m) i t L w r (by omega) (by omega) h1
  exact ⟨m, t + i, tr, wt, sz, ms, L2, w + 72 * i, ok, hz.ticks i t L w r (by omega) (by omega) h1, by omega, by omega⟩
theorem z_ticks {x i : Nat} (h : zAP A T W) (hT : T < 90000) (hW : W < 2 ^ 26) (hi1 : 1 ≤ i) (hi : i ≤ 99) : zT x (F_X5_ticks x (nI i)) 0 (rS4 (rTicks 0 (mN (A.1 0)) i A.1) 8 - rS4 A.1 8) A (zPu A (rTicks 0 (mN (A.1 0)) i A.1)) := by
  obtain ⟨m, t, tr, wt, sz, ms, L, w, h1, -, ht, hw⟩ := id h.1
  rw [h1.mm]
  obtain ⟨L2, hL2, ok⟩ := pK_ticks (Nat.le_refl m) i t L w A.1 (by omega) (by omega) h1
  have hf : ∀ (σ : xS), F_X3_faultOf (x + 3) 5 (nI i) 0 0 σ = some (0, σ) := fun σ => by
    rw [pT_fT, if_neg]
    intro q
    rcases q with q | q
    · exact nI_nlt (a := i) (b := 1) hi1 (by omega) q
    · exact nI_nlt (a := 99) (b := i) hi (by decide) q
  have base : zT x (F_X5_act x 5 (nI i) 0 0) 0 (rS4 (rTicks 0 m i A.1) 8 - rS4 A.1 8) A (zPu A (rTicks 0 m i A.1)) := by
    refine z_act h (fun σ hσ => hf σ) (fun z hz => ?_)
    obtain ⟨z2, L3, e1, e2, e3, e4, e5⟩ := pT_attT (c := 0) (d := 0) (by omega) (by omega) h1 (hz.to h1) hi1 hi
    exact ⟨z2, e1, e2, zQ.of e4 e5⟩
  intro σ hσ
  obtain ⟨z, b1, b2, b3⟩ := base σ hσ
  refine ⟨z, ?_, b2, b3⟩
  have hQ : xQ3 σ (x + 3) A.1 L := hσ.1.to h1
  have e9 : ¬ (99999 : Int32) < σ (x + 3) 1 + nI i := by
    rw [hQ.1.2.1, h1.1.2.1, nI_add]
    exact nI_nlt (a := 99999) (b := t + i) (by omega) (by decide)
  unfold F_X5_ticks
  rw [hf, xbI_s, F5_ref0, xbT_0, xjn_s, if_neg e9]; dsimp only; rw [F5_dem1, xbT_0, b1, xbT_0]
theorem z_set2 {x : Nat} {w v : Int32} (hb : ∀ p σ, F_X3_isValue p w v σ = some (0, σ)) : zT x (F_X5_set x w v) 2 0 A A := by
  refine zT_look (fun σ hσ => ?_)
  unfold F_X5_set
  rw [act_t2 (pT_fS hb), xbT_2]
theorem zP.set {r : Nat → Int32} {i j : Nat} (h : zP r T W) (hv : rVOK i j) : zP (rSet r i (nI j)) (T + 99) (W + 8000) := by
  obtain ⟨m, t, tr, wt, sz, ms, L, w, h1, hz, ht, hw⟩ := h
  obtain ⟨tr2, wt2, sz2, ms2, ok⟩ := h1.set hv
  have hw4 := hv.w4
  refine ⟨m, t, tr2, wt2, sz2, ms2, L, w, ok, ⟨hz.1.cg (fun q hq => up_n (by omega)), fun q hq => ?_⟩, by omega, by omega⟩
  have e2 : rSet r i (nI j) 2 = r 2 := up_n (by omega)
  rw [e2] at hq
  rw [show rSet r i (nI j) (7 + 3 * q) = r (7 + 3 * q) from up_n (by omega)]
  exact hz.2 q hq
theorem z_set {x i j : Nat} (h : zAP A T W) (hv : rVOK i j) : zT x (F_X5_set x (nI i) (nI j)) 0 (A.1 (3 + i)) A (zPu A (rSet A.1 i (nI j))) := by
  obtain ⟨m, t, tr, wt, sz, ms, L, w, h1, -, ht, hw⟩ := id h.1
  have hL8 := h1.L8
  obtain ⟨tr2, wt2, sz2, ms2, ok⟩ := h1.set hv
  refine zT_b0 (F := F_X5_act x 6 (nI i) (nI j) 0) (z_act h (fun σ hσ => pT_fS1 hv) (fun z hz => ?_)) (fun σ => by unfold F_X5_set; rfl)
  obtain ⟨z2, e1, e2, e3⟩ := pT_attS (c := 0) hL8 hv (hz.to h1)
  exact ⟨z2, e1, e2, zQ.of e3 ok⟩
theorem z_post2 {x : Nat} {n : Int32} (hn : n < 1 ∨ 4 < n) : zT x (F_X5_post x n) 2 0 A A := by
  refine zT_look (fun σ hσ => ?_)
  unfold F_X5_post
  rw [act_t2 (by rw [pT_fB, if_pos (show n < 1 ∨ 4 < n from hn)]), xbT_2]
theorem zP_clear {r : Nat → Int32} {m2 tr wt sz ms : Nat} (h : rOK (mClear r (nI m2)) m2 0 tr wt sz ms 0 (rLo 0 m2 (0 + 1)) 0) (hm : m2 ≤ 4) : zP (mClear r (nI m2)) 0 0 := by
  refine ⟨m2, 0, tr, wt, sz, ms, 0, 0, h, ⟨fun k hk => ?_, fun j hj => ?_⟩, Nat.le_refl _, Nat.le_refl _⟩
  · rw [mClear_row (by omega)]; exact rS_z
  · rw [h.LL] at hj; exact absurd hj (by omega)
theorem rOK.clr {r : Nat → Int32} {m t tr wt sz ms L w m2 : Nat} {lo : Nat → Nat} (h1 : rOK r m t tr wt sz ms L lo w) (hi1 : 1 ≤ m2) (hi : m2 ≤ 4) : rOK (mClear r (nI m2)) m2 0 tr wt sz ms 0 (rLo 0 m2 (0 + 1)) 0 := by
  obtain ⟨c0, c1, c2, c3, c4, c5, c6, c7, c8, c9, c10, c11, c12, c13, c14, c15, c16⟩ := id h1.1
  exact rOK.clear ⟨c9, c10, c11, c12, c13, c14, c15⟩ c3 c4 c5 c6 hi1 hi
theorem zP.post {r : Nat → Int32} {i : Nat} (h : zP r T W) (hi1 : 1 ≤ i) (hi : i ≤ 4) : zP (mClear r (nI i)) (T + 99) (W + 8000) := by
  obtain ⟨m, t, tr, wt, sz, ms, L, w, h1, hz, ht, hw⟩ := h
  exact (zP_clear (h1.clr hi1 hi) hi).mono (by omega) (by omega)
theorem z_post {x i : Nat} (h : zAP A T W) (hi1 : 1 ≤ i) (hi : i ≤ 4) : zT x (F_X5_post x (nI i)) 0 (nI i) A (zPu A (mClear A.1 (nI i))) := by
  obtain ⟨m, t, tr, wt, sz, ms, L, w, h1, -, ht, hw⟩ := id h.1
  refine zT_b0 (F := F_X5_act x 0 (nI i) 0 0) (z_act h (fun σ hσ => ?_) (fun z hz => ?_)) (fun σ => by unfold F_X5_post; rfl)
  · rw [pT_fB, if_neg]
    intro q
    rcases q with q | q
    · exact nI_nlt (a := i) (b := 1) hi1 (by omega) q
    · exact nI_nlt (a := 4) (b := i) hi (by decide) q
  · obtain ⟨z2, e1, e2, e3⟩ := pT_attB (a := 0) (b := 0) (hz.to h1) hi1 hi
    exact ⟨z2, e1, e2, zQ.of e3 (h1.clr hi1 hi)⟩
end ZC
