/-! A TICK OF ONE PAIR IN THE CLASS -/
theorem mComes_1 {t tt wait : Int32} : ∀ (q i : Nat) (u : Nat → Int32), mComes t tt wait q i u 1 = u 1 := by
  intro q
  induction q with
  | zero => intro i u; rfl
  | succ q ih =>
    intro i u
    rw [mComes]
    by_cases h : u (15 + 2 * i + 1) = t
    · rw [if_pos h, ih, mCame_n (Or.inl (by decide))]
    · rw [if_neg h]
theorem mTake_1 {told : Int32} : ∀ (f : Nat) (u : Nat → Int32), mTake told f u 1 = u 1 := by
  intro f
  induction f with
  | zero => intro u; rfl
  | succ f ih =>
    intro u
    rw [mTake]
    by_cases h1 : told ≤ u 5
    · rw [if_pos h1]
    rw [if_neg h1]
    by_cases h2 : u 6 ≤ 0
    · rw [if_pos h2]
    · rw [if_neg h2, ih, mDrop_lo (by decide) (by decide) (by decide)]
theorem mAL_1 {t : Int32} : ∀ (f : Nat) (z : Int32) (u : Nat → Int32), (mAL t f z u).2 1 = u 1 := by
  intro f
  induction f with
  | zero => intro z u; rfl
  | succ f ih =>
    intro z u
    rw [mAL]
    by_cases h1 : u 13 ≤ 0
    · rw [if_pos h1]
    rw [if_neg h1]
    by_cases h2 : u 27 = t
    · rw [if_neg (fun q => q h2), ih]
      unfold mAnsC
      rw [mTake_1, up_n (by decide), mShA_lo (by decide)]
    · rw [if_pos h2]
theorem mR2_1 {t tt : Int32} {u : Nat → Int32} : mR2 t tt u 1 = u 1 := by
  unfold mR2
  by_cases h : u 11 = t
  · rw [if_neg (fun q => q h), mAns_lo (by decide)]
  · rw [if_pos h]
theorem pS_tick {p k t r m sz W o n : Nat} {e zz : Int32} {V u : Nat → Int32} {σ : xS} {KK : Int32 → xS → Option (Int32 × xS)} {g : Nat} (hk : k < 4) (he : ¬ e ≤ nI k) (hQ : xQ2 σ (p + 7 + 9 * k) u o n) (hI : xI u t t W) (hu1 : u 1 = 0 ∨ u 1 = 1) (h1 : σ p 1 = nI t) (hV : σ (p + 1) = V) (hV0 : V 0 = nI r) (hV2 : V 2 = nI sz) (hV3 : V 3 = nI m) (hr0 : 1 ≤ r) (hr : r ≤ 9) (hm : m ≤ 6) (hs0 : 0 < sz) (hs : sz ≤ 99) (ht : t < 2 ^ 29) (hW : W < 2 ^ 29) :
    ∃ z o2 n2, L_X3_passTicks_33 p e KK (g + 1) zz (nI k) σ = L_X3_passTicks_33 p e KK g (zz + (mR1 (nI t) (nI (t + r)) (V 1) u 8 - u 8)) (nI (k + 1)) z ∧ xfr σ z (p + 7 + 9 * k) (p + 7 + 9 * k + 9) ∧ xQ2 z (p + 7 + 9 * k) (mRow (nI t) (nI (t + r)) (V 1) (V 2) (V 3) u) o2 n2 := by
  obtain ⟨b, hb⟩ : ∃ b, b = p + 7 + 9 * k := ⟨_, rfl⟩
  rw [← hb] at hQ ⊢
  have hst : p + 1 < b ∨ b + 9 ≤ p + 1 := by omega
  obtain ⟨o', n', c, a, d, x, T, F, k1, k2, k3⟩ := id hI
  obtain rfl : o' = o := (nI_eq (by have := k1.2.2.2.2.2.2.1; omega) (by have := hQ.2.2.2.1; omega)).mp (k1.1.symm.trans hQ.2.1)
  obtain rfl : n' = n := (nI_eq (by have := k1.cap; have := k1.2.2.2.2.2.2.2.2.1; have := k1.2.2.2.2.2.2.2.2.2.1; omega) (by have := hQ.2.2.2.2.1; omega)).mp (k1.2.1.symm.trans hQ.2.2.1)
  obtain ⟨z1, n1, e1, f1, q1⟩ := pP_recv (V := V) hQ hst hV hV0 hr ht (by omega) k1 k2 k3
  have i1 : xI (mR1 (nI t) (nI (t + r)) (V 1) u) t (t + 1) W := by
    have ho := k1.2.2.2.2.2.2.1
    have hac := k1.2.2.2.2.2.2.2.1
    have hca := k1.2.2.2.2.2.2.2.2.1
    have haw := k1.2.2.2.2.2.2.2.2.2.1
    unfold mR1
    rw [show u 9 - u 5 = nI (c - a) by rw [k1.2.2.1, k1.2.2.2.1, pk_sub hac], k1.1, mN_nI (by omega), mN_nI (by omega)]
    exact pI_comes hr ht _ (c - a) n' c d T u k1 k2 k3 (by omega) (by omega)
  have u11 : mR1 (nI t) (nI (t + r)) (V 1) u 1 = u 1 := mComes_1 _ _ _
  obtain ⟨u1, hu⟩ : ∃ y, y = mR1 (nI t) (nI (t + r)) (V 1) u := ⟨_, rfl⟩
  have i2 := pI_R2 (r := r) hr ht i1
  rw [← hu] at i1 i2 q1 u11
  have hp1 : z1 p 1 = nI t := by rw [f1 p (by omega), h1]
  have hpV : z1 (p + 1) = V := by rw [f1 _ hst, hV]
  -- the answer that waited
  have st2 : ∃ z2 n2, xfr σ z2 b (b + 9) ∧ xQ2 z2 b (mR2 (nI t) (nI (t + r)) u1) o' n2 ∧ ∀ K : xS → Option (Int32 × xS), (if ¬ (z1 b 12) = (z1 p 1) then (K z1) else (if xin (0 : Int32) 4 = true then xbV (F_X2_sendAnswer b (z1 p 1) (z1 (p + 1) (0 : Int32).toNatClampNeg) z1) (fun (σ41 : xS) => K σ41) else none)) = K z2 := by
    have h12 : z1 b 12 = u1 11 := q1.1.2.2.2.2.2.2.2.2.2.1
    by_cases h : u1 11 = nI t
    · obtain ⟨o3, n3, c3, a3, d3, x3, T3, F3, g1, g2, g3⟩ := id i1
      have hd : 1 ≤ d3 := g1.2.2.2.2.2.2.2.2.2.2.2.2.2.2.2.resolve_left (fun q => nI_nm1 (t := t) (by omega) (h.symm.trans q))
      have hn6 := (g1.ans (tt := nI (t + r)) hd).1
      obtain rfl : n3 = n1 := (nI_eq (by omega) (by have := q1.2.2.2.2.1; omega)).mp (g1.2.1.symm.trans q1.2.2.1)
      obtain ⟨z2, e2, f2, q2⟩ := pP_answer (now := nI t) (trav := nI r) q1 hn6 (by rw [nI_add]; exact g3.coh (by omega))
      rw [nI_add] at q2
      refine ⟨z2, n3 + 1, f1.trans f2, ?_, fun K => ?_⟩
      · unfold mR2; rw [if_neg (fun q => q h)]; exact q2
      · rw [h12, hp1, if_neg (fun q => q h), if_pos i02, cl_0, hpV, hV0, e2]
        rfl
    · refine ⟨z1, n1, f1, ?_, fun K => ?_⟩
      · unfold mR2; rw [if_pos h]; exact q1
      · rw [h12, hp1, if_pos h]
  obtain ⟨z2, n2, f2, q2, s2⟩ := st2
  obtain ⟨u2, hu2⟩ : ∃ y, y = mR2 (nI t) (nI (t + r)) u1 := ⟨_, rfl⟩
  have u21 : mR2 (nI t) (nI (t + r)) u1 1 = u 1 := mR2_1.trans u11
  rw [← hu2] at i2 q2 u21
  obtain ⟨o3, n3, c3, a3, d3, x3, T3, F3, g1, g2, g3⟩ := id i2
  obtain rfl : o3 = o' := (nI_eq (by have := g1.2.2.2.2.2.2.1; omega) (by have := q2.2.2.2.1; omega)).mp (g1.1.symm.trans q2.2.1)
  obtain rfl : n3 = n2 := (nI_eq (by have := g1.cap; have := g1.2.2.2.2.2.2.2.2.1; have := g1.2.2.2.2.2.2.2.2.2.1; omega) (by have := q2.2.2.2.2.1; omega)).mp (g1.2.1.symm.trans q2.2.2.1)
  obtain ⟨z3, o4, n4, e3, f3, q3⟩ := pP_recvAns q2 ht (by omega) g1 g2 g3
  have hmn : mN (u2 13) = n3 := by rw [g1.2.1, mN_nI (by have := q2.2.2.2.2.1; omega)]
  have i3 : xI (mAL (nI t) n3 0 u2).2 t (t + 1) W := (pL_X6_answers (σ := fun _ _ => nI t) (ar := 0) (k := 0) (KK := fun _ _ => none) (by decide) rfl (by omega) ht n3 1000 o3 a3 0 T3 F3 u2 g1 g2 g3 (by have := q2.2.2.2.2.1; omega)).2
  have u31 : (mAL (nI t) n3 0 u2).2 1 = u 1 := (mAL_1 _ _ _).trans u21
  -- sending behind answers
  have st4 : ∃ z4 o5 n5, xfr σ z4 b (b + 9) ∧ xQ2 z4 b (mR3 (nI t) (nI (t + r)) (V 2) (V 3) u2) o5 n5 ∧ ∀ K : xS → Option (Int32 × xS), (if (mAL (nI t) n3 0 u2).1 = 0 then (K z3) else (xbI (F_X2_sendLetters b (z3 p 1) 4 (p + 1) (z3 b 3) z3) (fun (zz37 : Int32) (σ36 : xS) => K σ36))) = K z4 := by
    have f23 := f2.trans f3
    unfold mR3
    rw [hmn]
    by_cases h : (mAL (nI t) n3 0 u2).1 = 0
    · rw [if_pos h]
      exact ⟨z3, o4, n4, f23, q3, fun K => by rw [if_pos h]⟩
    · rw [if_neg h]
      obtain ⟨o6, n6, c6, a6, d6, x6, T6, F6, j1, j2, j3⟩ := id i3
      obtain rfl : o6 = o4 := (nI_eq (by have := j1.2.2.2.2.2.2.1; omega) (by have := q3.2.2.2.1; omega)).mp (j1.1.symm.trans q3.2.1)
      have hzV : z3 (p + 1) = V := by rw [f23 _ hst, hV]
      have hzp : z3 p 1 = nI t := by rw [f23 p (by omega), h1]
      have hz3 : z3 b 3 = (if (mAL (nI t) n3 0 u2).2 1 = 1 then 1 else 0) := by
        rw [q3.1.2.1, u31]
        rcases hu1 with h | h
        · rw [h]; rfl
        · rw [h]; rfl
      obtain ⟨z4, o5, x5, e5, f5, q5, -, -, -⟩ := pP_send (now := nI t) (h := z3 b 3) (m := m) (sz := sz) q3 hst (by rw [hzV, hV2]) (by rw [hzV, hV3]) hm hs0 hs j1.2.2.2.2.2.1 j1.2.2.2.2.2.2.2.2.2.2.1 (by rw [hzV, hV0, nI_add]; exact j2.coh (by omega))
      rw [hzV, hV0, nI_add, hz3] at q5
      refine ⟨z4, o5, n4, f23.trans f5, q5, fun K => ?_⟩
      rw [if_neg h, hzp, e5]
      rfl
  obtain ⟨z4, o5, n5, f4, q4, s4⟩ := st4
  have h42 : z4 b 2 = mR3 (nI t) (nI (t + r)) (V 2) (V 3) u2 0 := q4.1.1
  have hz1b : ∀ y, z1 y = z1 y := fun _ => rfl
  have eRow : mRow (nI t) (nI (t + r)) (V 1) (V 2) (V 3) u = mR4 (mR3 (nI t) (nI (t + r)) (V 2) (V 3) u2) := by rw [hu2, hu]; rfl
  have e2p : z2 p 1 = nI t := by rw [f2 p (by omega), h1]
  have head : L_X3_passTicks_33 p e KK (g + 1) zz (nI k) σ = if z4 b 2 ≤ 0 then L_X3_passTicks_33 p e KK g (zz + (mR1 (nI t) (nI (t + r)) (V 1) u 8 - u 8)) (nI (k + 1)) z4 else L_X3_passTicks_33 p e KK g (zz + (mR1 (nI t) (nI (t + r)) (V 1) u 8 - u 8)) (nI (k + 1)) (xu z4 b 7 (z4 b 7 + 1)) := by
    rw [L_X3_passTicks_33, if_neg he, if_neg (show ¬ (4 : Int32) ≤ nI k from nI_ge (a := k) (b := 4) (by omega) (by decide)), if_pos (xin_nI (by omega) (by decide)), nI_clamp (by omega), ← hb, h1, e1]
    simp only [xbI_s, xlet_s, xjn_s]
    refine (s2 (fun σ27 => xbI (F_X2_receiveAnswers b (σ27 p 1) σ27) (fun (zz29 : Int32) (σ28 : xS) => if zz29 = 0 then (if σ28 b 2 ≤ 0 then L_X3_passTicks_33 p e KK g (zz + (mR1 (nI t) (nI (t + r)) (V 1) u 8 - u 8)) (nI k + 1) σ28 else L_X3_passTicks_33 p e KK g (zz + (mR1 (nI t) (nI (t + r)) (V 1) u 8 - u 8)) (nI k + 1) (xu σ28 b 7 (σ28 b 7 + 1))) else (xbI (F_X2_sendLetters b (σ28 p 1) 4 (p + 1) (σ28 b 3) σ28) (fun (zz37 : Int32) (σ36 : xS) => if σ36 b 2 ≤ 0 then L_X3_passTicks_33 p e KK g (zz + (mR1 (nI t) (nI (t + r)) (V 1) u 8 - u 8)) (nI k + 1) σ36 else L_X3_passTicks_33 p e KK g (zz + (mR1 (nI t) (nI (t + r)) (V 1) u 8 - u 8)) (nI k + 1) (xu σ36 b 7 (σ36 b 7 + 1))))))).trans ?_
    try dsimp only
    rw [e2p, e3]
    simp only [xbI_s]
    refine (s4 (fun σ30 => if σ30 b 2 ≤ 0 then L_X3_passTicks_33 p e KK g (zz + (mR1 (nI t) (nI (t + r)) (V 1) u 8 - u 8)) (nI k + 1) σ30 else L_X3_passTicks_33 p e KK g (zz + (mR1 (nI t) (nI (t + r)) (V 1) u 8 - u 8)) (nI k + 1) (xu σ30 b 7 (σ30 b 7 + 1)))).trans ?_
    try dsimp only
    rw [nI_1]
  rw [head, eRow]
  by_cases h : mR3 (nI t) (nI (t + r)) (V 2) (V 3) u2 0 ≤ 0
  · rw [h42, if_pos h]
    refine ⟨z4, o5, n5, rfl, f4, ?_⟩
    unfold mR4
    rw [if_pos h]
    rw [show upd (mR3 (nI t) (nI (t + r)) (V 2) (V 3) u2) 4 (mR3 (nI t) (nI (t + r)) (V 2) (V 3) u2 4 + 0) = mR3 (nI t) (nI (t + r)) (V 2) (V 3) u2 from ?_]
    · exact q4
    · funext j
      by_cases hj : j = 4
      · subst hj; rw [up_s, Int32.add_zero]
      · rw [up_n hj]
  · rw [h42, if_neg h]
    refine ⟨_, o5, n5, rfl, f4.trans (xfr_xu (Nat.le_refl _) (by omega)), ?_⟩
    unfold mR4
    rw [if_neg h]
    obtain ⟨m1, m2, m3, m4, m5, ⟨y1, m6⟩, ⟨y2, m7⟩⟩ := q4
    obtain ⟨s1, s2, s3, s4, s5, s6, s7, s8, s9, s10, s11⟩ := m1
    refine ⟨?_, by rw [up_n (by decide), m2], by rw [up_n (by decide), m3], m4, m5, ⟨y1, (m6.ex (fun y p q => xu_other (by omega))).cg (fun j hj => ⟨up_n (by omega), rfl, up_n (by omega)⟩)⟩, ⟨y2, (m7.ex (fun y p q => xu_other (by omega))).cg (fun j hj => ⟨up_n (by omega), rfl, up_n (by omega)⟩)⟩⟩
    unfold xS2
    rw [xu_same]
    exact ⟨by rw [up_n (by decide), up_n (by decide), s1], by rw [up_n (by decide), up_n (by decide), s2], by rw [up_n (by decide), up_n (by decide), s3], by rw [up_n (by decide), up_n (by decide), s4], by rw [up_s, up_s, s5], by rw [up_n (by decide), up_n (by decide), s6], by rw [up_n (by decide), up_n (by decide), s7], by rw [up_n (by decide), up_n (by decide), s8], by rw [up_n (by decide), up_n (by decide), s9], by rw [up_n (by decide), up_n (by decide), s10], by rw [up_n (by decide), up_n (by decide), s11]⟩
