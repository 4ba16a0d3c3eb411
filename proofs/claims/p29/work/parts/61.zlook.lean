/-! CALLS THAT LOOK -/
def abV (r : Nat → Int32) (i : Nat) : Int32 := if i = 0 then r 0 else if i = 1 then r 1 else if i = 2 then r 2 else if i = 3 then rS4 r 0 else if i = 4 then rS4 r 6 else if i = 5 then rS4 r 3 else if i = 6 then rS4 r 12 else if i = 7 then rS4 r 8 else rS4 r 4
section ZL
variable {A : zA} {T W : Nat}
theorem z_about {x i : Nat} (h : zAP A T W) (hi : i ≤ 8) : zT x (F_X5_about x (nI i)) 0 (abV A.1 i) A A := by
  obtain ⟨⟨m, t, tr, wt, sz, ms, L, w, h1, -, -, -⟩, -⟩ := h
  refine zT_look (fun σ hσ => ?_)
  have hQ : xQ3 σ (x + 3) A.1 L := hσ.1.to h1
  unfold F_X5_about
  rw [show F_X5_isWithin (nI i) 0 8 σ = _ from pF_wiN (a := 0) (b := 8) (Nat.zero_le _) hi (by decide), xbI_s, F5_dem1, xbT_0]
  have lit : i = 0 ∨ i = 1 ∨ i = 2 ∨ i = 3 ∨ i = 4 ∨ i = 5 ∨ i = 6 ∨ i = 7 ∨ i = 8 := by omega
  rcases lit with e | e | e | e | e | e | e | e | e <;> subst e
  · rw [if_pos (by decide), hQ.1.1]; rfl
  · rw [if_neg (by decide), if_pos (by decide), hQ.1.2.1]; rfl
  · rw [if_neg (by decide), if_neg (by decide), if_pos (by decide), hQ.2.1, ← h1.1.2.2.1]; rfl
  · rw [if_neg (by decide), if_neg (by decide), if_neg (by decide), if_pos (by decide), show F_X3_sumOfWriters (x + 3) 0 σ = _ from pT_sum (w := 0) h1 hQ (by decide), xbI_s]; rfl
  · rw [if_neg (by decide), if_neg (by decide), if_neg (by decide), if_neg (by decide), if_pos (by decide), show F_X3_sumOfWriters (x + 3) 1 σ = _ from pT_sum (w := 1) h1 hQ (by decide), xbI_s]; rfl
  · rw [if_neg (by decide), if_neg (by decide), if_neg (by decide), if_neg (by decide), if_neg (by decide), if_pos (by decide), show F_X3_sumOfWriters (x + 3) 4 σ = _ from pT_sum (w := 4) h1 hQ (by decide), xbI_s]; rfl
  · rw [if_neg (by decide), if_neg (by decide), if_neg (by decide), if_neg (by decide), if_neg (by decide), if_neg (by decide), if_pos (by decide), show F_X3_sumOfDesks (x + 3) 4 σ = _ from pT_sumd (w := 4) hQ (by decide), xbI_s]; rfl
  · rw [if_neg (by decide), if_neg (by decide), if_neg (by decide), if_neg (by decide), if_neg (by decide), if_neg (by decide), if_neg (by decide), if_pos (by decide), show F_X3_sumOfDesks (x + 3) 0 σ = _ from pT_sumd (w := 0) hQ (by decide), xbI_s]; rfl
  · rw [if_neg (by decide), if_neg (by decide), if_neg (by decide), if_neg (by decide), if_neg (by decide), if_neg (by decide), if_neg (by decide), if_neg (by decide), show F_X3_sumOfWriters (x + 3) 5 σ = _ from pT_sum (w := 5) h1 hQ (by decide), xbI_s]; rfl
theorem z_about2 {x : Nat} {c : Int32} (hc : c < 0 ∨ 8 < c) : zT x (F_X5_about x c) 2 0 A A := by
  refine zT_look (fun σ hσ => ?_)
  unfold F_X5_about
  rw [pF_within2, if_pos (show c < 0 ∨ 8 < c from hc), xbI_s, F5_dem02, xbT_2]
theorem z_writer1 {x : Nat} {k w : Int32} (h : zAP A T W) (hk : rBad (mN (A.1 0)) k) : zT x (F_X5_writer x k w) 1 0 A A := by
  obtain ⟨⟨m, t, tr, wt, sz, ms, L, w, h1, -, -, -⟩, -⟩ := h
  rw [h1.mm] at hk
  refine zT_look (fun σ hσ => ?_)
  have hQ : xQ3 σ (x + 3) A.1 L := hσ.1.to h1
  unfold F_X5_writer
  rw [pF_isW0 (hQ.1.1.trans h1.1.1) hk, xbI_s, F5_ref1, xbT_1]
theorem z_writer2 {x j : Nat} {w : Int32} (h : zAP A T W) (hj : j < mN (A.1 0)) (hw : w < 0 ∨ 6 < w) : zT x (F_X5_writer x (nI j) w) 2 0 A A := by
  obtain ⟨⟨m, t, tr, wt, sz, ms, L, w, h1, -, -, -⟩, -⟩ := h
  have hm4 := h1.m4
  rw [h1.mm] at hj
  refine zT_look (fun σ hσ => ?_)
  have hQ : xQ3 σ (x + 3) A.1 L := hσ.1.to h1
  unfold F_X5_writer
  rw [pF_isWriter0 (hQ.1.1.trans h1.1.1) hj hm4, xbI_s, F5_ref0, xbT_0, pF_within2, if_pos hw, xbI_s, F5_dem02, xbT_2]
theorem z_writer {x j i : Nat} (h : zAP A T W) (hj : j < mN (A.1 0)) (hi : i ≤ 6) : zT x (F_X5_writer x (nI j) (nI i)) 0 (rRow A.1 j (rOfW i)) A A := by
  obtain ⟨⟨m, t, tr, wt, sz, ms, L, w, h1, -, -, -⟩, -⟩ := h
  have hm4 := h1.m4
  rw [h1.mm] at hj
  refine zT_look (fun σ hσ => ?_)
  have hQ : xQ3 σ (x + 3) A.1 L := hσ.1.to h1
  obtain ⟨o, n, q⟩ := hQ.1.2.2.2 j (by omega)
  unfold F_X5_writer
  rw [pF_isWriter0 (hQ.1.1.trans h1.1.1) hj hm4, xbI_s, F5_ref0, xbT_0, show F_X5_isWithin (nI i) 0 6 σ = _ from pF_wiN (a := 0) (b := 6) (Nat.zero_le _) hi (by decide), xbI_s, F5_dem1, xbT_0, if_pos (xin_nI (by omega) (by decide)), nI_clamp (by omega), pQ_writer q (h1.h01 j (by omega)) hi, xbI_s]
theorem z_desk1 {x : Nat} {k w : Int32} (h : zAP A T W) (hk : rBad (mN (A.1 0)) k) : zT x (F_X5_desk x k w) 1 0 A A := by
  obtain ⟨⟨m, t, tr, wt, sz, ms, L, w, h1, -, -, -⟩, -⟩ := h
  rw [h1.mm] at hk
  refine zT_look (fun σ hσ => ?_)
  have hQ : xQ3 σ (x + 3) A.1 L := hσ.1.to h1
  unfold F_X5_desk
  rw [pF_isW0 (hQ.1.1.trans h1.1.1) hk, xbI_s, F5_ref1, xbT_1]
theorem z_desk2 {x j : Nat} {w : Int32} (h : zAP A T W) (hj : j < mN (A.1 0)) (hw : w < 0 ∨ 5 < w) : zT x (F_X5_desk x (nI j) w) 2 0 A A := by
  obtain ⟨⟨m, t, tr, wt, sz, ms, L, w, h1, -, -, -⟩, -⟩ := h
  have hm4 := h1.m4
  rw [h1.mm] at hj
  refine zT_look (fun σ hσ => ?_)
  have hQ : xQ3 σ (x + 3) A.1 L := hσ.1.to h1
  unfold F_X5_desk
  rw [pF_isWriter0 (hQ.1.1.trans h1.1.1) hj hm4, xbI_s, F5_ref0, xbT_0, pF_within2, if_pos hw, xbI_s, F5_dem02, xbT_2]
theorem z_desk {x j i : Nat} (h : zAP A T W) (hj : j < mN (A.1 0)) (hi : i ≤ 5) : zT x (F_X5_desk x (nI j) (nI i)) 0 (rRow A.1 j (8 + i)) A A := by
  obtain ⟨⟨m, t, tr, wt, sz, ms, L, w, h1, -, -, -⟩, -⟩ := h
  have hm4 := h1.m4
  rw [h1.mm] at hj
  refine zT_look (fun σ hσ => ?_)
  have hQ : xQ3 σ (x + 3) A.1 L := hσ.1.to h1
  obtain ⟨o, n, q⟩ := hQ.1.2.2.2 j (by omega)
  unfold F_X5_desk
  rw [pF_isWriter0 (hQ.1.1.trans h1.1.1) hj hm4, xbI_s, F5_ref0, xbT_0, show F_X5_isWithin (nI i) 0 5 σ = _ from pF_wiN (a := 0) (b := 5) (Nat.zero_le _) hi (by decide), xbI_s, F5_dem1, xbT_0, if_pos (xin_nI (by omega) (by decide)), nI_clamp (by omega), pQ_desk q hi, xbI_s]
theorem z_letter1 {x : Nat} {k i w : Int32} (h : zAP A T W) (hk : rBad (mN (A.1 0)) k) : zT x (F_X5_letter x k i w) 1 0 A A := by
  obtain ⟨⟨m, t, tr, wt, sz, ms, L, w, h1, -, -, -⟩, -⟩ := h
  rw [h1.mm] at hk
  refine zT_look (fun σ hσ => ?_)
  have hQ : xQ3 σ (x + 3) A.1 L := hσ.1.to h1
  unfold F_X5_letter
  rw [pF_isW0 (hQ.1.1.trans h1.1.1) hk, xbI_s, F5_ref1, xbT_1]
theorem z_letter1i {x j : Nat} {i w : Int32} (h : zAP A T W) (hj : j < mN (A.1 0)) (hi : i < 0 ∨ nI (mN (rRow A.1 j 6)) ≤ i) : zT x (F_X5_letter x (nI j) i w) 1 0 A A := by
  obtain ⟨⟨m, t, tr, wt, sz, ms, L, w, h1, -, -, -⟩, -⟩ := h
  have hm4 := h1.m4
  rw [h1.mm] at hj
  refine zT_look (fun σ hσ => ?_)
  have hQ : xQ3 σ (x + 3) A.1 L := hσ.1.to h1
  obtain ⟨o, n, q⟩ := hQ.1.2.2.2 j (by omega)
  obtain ⟨wv, q6⟩ := q.2.2.2.2.2.1
  have ho := q.2.2.2.1
  rw [q.2.1, mN_nI (by omega)] at hi
  have hcn : σ (x + 3 + 7 + 9 * j + 1) 3 = nI o := q6.1
  unfold F_X5_letter
  rw [pF_isWriter0 (hQ.1.1.trans h1.1.1) hj hm4, xbI_s, F5_ref0, xbT_0, if_pos (xin_nI (by omega) (by decide)), nI_clamp (by omega), hcn, pF_within2, if_pos (rIx0 (by omega) hi), xbI_s, F5_dem01, xbT_1]
theorem z_letter2 {x j i : Nat} {w : Int32} (h : zAP A T W) (hj : j < mN (A.1 0)) (hi : i < mN (rRow A.1 j 6)) (hw : w < 0 ∨ 1 < w) : zT x (F_X5_letter x (nI j) (nI i) w) 2 0 A A := by
  obtain ⟨⟨m, t, tr, wt, sz, ms, L, w, h1, -, -, -⟩, -⟩ := h
  have hm4 := h1.m4
  rw [h1.mm] at hj
  refine zT_look (fun σ hσ => ?_)
  have hQ : xQ3 σ (x + 3) A.1 L := hσ.1.to h1
  obtain ⟨o, n, q⟩ := hQ.1.2.2.2 j (by omega)
  obtain ⟨wv, q6⟩ := q.2.2.2.2.2.1
  have ho := q.2.2.2.1
  rw [q.2.1, mN_nI (by omega)] at hi
  have hcn : σ (x + 3 + 7 + 9 * j + 1) 3 = nI o := q6.1
  unfold F_X5_letter
  rw [pF_isWriter0 (hQ.1.1.trans h1.1.1) hj hm4, xbI_s, F5_ref0, xbT_0, if_pos (xin_nI (by omega) (by decide)), nI_clamp (by omega), hcn, pF_within2, if_neg (rIx1 hi (by omega)), xbI_s, F5_dem1, xbT_0, pF_within2, if_pos hw, xbI_s, F5_dem02, xbT_2]
theorem z_letter {x j i y : Nat} (h : zAP A T W) (hj : j < mN (A.1 0)) (hi : i < mN (rRow A.1 j 6)) (hy : y ≤ 1) : zT x (F_X5_letter x (nI j) (nI i) (nI y)) 0 (rRow A.1 j (15 + 2 * i + y)) A A := by
  obtain ⟨⟨m, t, tr, wt, sz, ms, L, w, h1, -, -, -⟩, -⟩ := h
  have hm4 := h1.m4
  rw [h1.mm] at hj
  refine zT_look (fun σ hσ => ?_)
  have hQ : xQ3 σ (x + 3) A.1 L := hσ.1.to h1
  obtain ⟨o, n, q⟩ := hQ.1.2.2.2 j (by omega)
  obtain ⟨wv, q6⟩ := q.2.2.2.2.2.1
  have ho := q.2.2.2.1
  rw [q.2.1, mN_nI (by omega)] at hi
  have hcn : σ (x + 3 + 7 + 9 * j + 1) 3 = nI o := q6.1
  unfold F_X5_letter
  rw [pF_isWriter0 (hQ.1.1.trans h1.1.1) hj hm4, xbI_s, F5_ref0, xbT_0, if_pos (xin_nI (by omega) (by decide)), nI_clamp (by omega), hcn, pF_within2, if_neg (rIx1 hi (by omega)), xbI_s, F5_dem1, xbT_0, show F_X5_isWithin (nI y) 0 1 σ = _ from pF_wiN (a := 0) (b := 1) (Nat.zero_le _) hy (by decide), xbI_s, F5_dem1, xbT_0]
  obtain e | e : y = 0 ∨ y = 1 := by omega
  · subst e
    rw [if_neg (by decide), pD_number (c := 6) q6 hi ho (by decide), xbI_s]
    rfl
  · subst e
    rw [if_pos (by decide), pD_time (c := 6) q6 hi ho (by decide), xbI_s]
theorem z_planned1 {x : Nat} {i w : Int32} (h : zAP A T W) (hi : i < 0 ∨ nI (mN (A.1 2)) ≤ i) : zT x (F_X5_planned x i w) 1 0 A A := by
  obtain ⟨⟨m, t, tr, wt, sz, ms, L, w, h1, -, -, -⟩, -⟩ := h
  have hL8 := h1.L8
  rw [h1.LL] at hi
  refine zT_look (fun σ hσ => ?_)
  have hQ : xQ3 σ (x + 3) A.1 L := hσ.1.to h1
  unfold F_X5_planned
  rw [hQ.2.1, pF_within2, if_pos (rIx0 hL8 hi), xbI_s, F5_dem01, xbT_1]
theorem z_planned2 {x i : Nat} {w : Int32} (h : zAP A T W) (hi : i < mN (A.1 2)) (hw : w < 0 ∨ 2 < w) : zT x (F_X5_planned x (nI i) w) 2 0 A A := by
  obtain ⟨⟨m, t, tr, wt, sz, ms, L, w, h1, -, -, -⟩, -⟩ := h
  have hL8 := h1.L8
  rw [h1.LL] at hi
  refine zT_look (fun σ hσ => ?_)
  have hQ : xQ3 σ (x + 3) A.1 L := hσ.1.to h1
  unfold F_X5_planned
  rw [hQ.2.1, pF_within2, if_neg (rIx1 hi hL8), xbI_s, F5_dem1, xbT_0, pF_within2, if_pos hw, xbI_s, F5_dem02, xbT_2]
theorem z_planned {x i y : Nat} (h : zAP A T W) (hi : i < mN (A.1 2)) (hy : y ≤ 2) : zT x (F_X5_planned x (nI i) (nI y)) 0 (A.1 (7 + 3 * i + y)) A A := by
  obtain ⟨⟨m, t, tr, wt, sz, ms, L, w, h1, -, -, -⟩, -⟩ := h
  have hL8 := h1.L8
  rw [h1.LL] at hi
  refine zT_look (fun σ hσ => ?_)
  have hQ : xQ3 σ (x + 3) A.1 L := hσ.1.to h1
  unfold F_X5_planned
  rw [hQ.2.1, pF_within2, if_neg (rIx1 hi hL8), xbI_s, F5_dem1, xbT_0, show F_X5_isWithin (nI y) 0 2 σ = _ from pF_wiN (a := 0) (b := 2) (Nat.zero_le _) hy (by decide), xbI_s, F5_dem1, xbT_0]
  obtain e | e | e : y = 0 ∨ y = 1 ∨ y = 2 := by omega
  · subst e
    rw [if_pos (by decide), pD_time (c := 8) hQ.2 hi hL8 (by decide), xbI_s]
    rfl
  · subst e
    rw [if_neg (by decide), if_pos (by decide), pD_writer (c := 8) hQ.2 hi hL8 (by decide), xbI_s]
  · subst e
    rw [if_neg (by decide), if_neg (by decide), pD_number (c := 8) hQ.2 hi hL8 (by decide), xbI_s]
theorem z_setting {x i : Nat} (h : zAP A T W) (hi : i ≤ 3) : zT x (F_X5_setting x (nI i)) 0 (A.1 (3 + i)) A A := by
  obtain ⟨⟨m, t, tr, wt, sz, ms, L, w, h1, -, -, -⟩, -⟩ := h
  refine zT_look (fun σ hσ => ?_)
  have hQ : xQ3 σ (x + 3) A.1 L := hσ.1.to h1
  unfold F_X5_setting
  rw [show F_X5_isWithin (nI i) 0 3 σ = _ from pF_wiN (a := 0) (b := 3) (Nat.zero_le _) hi (by decide), xbI_s, F5_dem1, xbT_0, if_pos (xin_nI (by omega) (by decide)), nI_clamp (by omega), xlet_s, hQ.1.2.2.1 i (by omega)]
theorem z_setting2 {x : Nat} {c : Int32} (hc : c < 0 ∨ 3 < c) : zT x (F_X5_setting x c) 2 0 A A := by
  refine zT_look (fun σ hσ => ?_)
  unfold F_X5_setting
  rw [pF_within2, if_pos (show c < 0 ∨ 3 < c from hc), xbI_s, F5_dem02, xbT_2]
/-- one answer for every such object -/
def zE (F : Nat → xS → Option xR) (es : List Nat) (A A2 : zA) : Prop := ∃ e v, e ∈ es ∧ ∀ x, zT x (F x) e v A A2
theorem zm_b (h : zAP A T W) : 1 ≤ mN (A.1 0) ∧ mN (A.1 0) ≤ 4 ∧ A.1 0 = nI (mN (A.1 0)) ∧ mN (A.1 2) ≤ 8 ∧ A.1 2 = nI (mN (A.1 2)) := by
  obtain ⟨⟨m, t, tr, wt, sz, ms, L, w, h1, -, -, -⟩, -⟩ := h
  obtain ⟨b1, b2, b3, b4, b5, b6, b7, b8, b9, b10⟩ := h1.1.b
  rw [h1.mm, h1.LL]
  exact ⟨b1, b2, h1.1.1, b10, h1.1.2.2.1⟩
theorem z_aboutE (h : zAP A T W) (c : Int32) : zE (fun x => F_X5_about x c) [0, 2] A A := by
  rcases rng c 0 8 (by decide) (by decide) with ⟨i, -, hi, rfl⟩ | hc
  · exact ⟨0, _, by simp, fun x => z_about h hi⟩
  · exact ⟨2, 0, by simp, fun x => z_about2 hc⟩
theorem z_settingE (h : zAP A T W) (c : Int32) : zE (fun x => F_X5_setting x c) [0, 2] A A := by
  rcases rng c 0 3 (by decide) (by decide) with ⟨i, -, hi, rfl⟩ | hc
  · exact ⟨0, _, by simp, fun x => z_setting h hi⟩
  · exact ⟨2, 0, by simp, fun x => z_setting2 hc⟩
theorem z_writerE (h : zAP A T W) (k c : Int32) : zE (fun x => F_X5_writer x k c) [0, 1, 2] A A := by
  rcases rIs (mN (A.1 0)) (zm_b h).2.1 k with hk | ⟨j, hj, rfl⟩
  · exact ⟨1, 0, by simp, fun x => z_writer1 h hk⟩
  rcases rng c 0 6 (by decide) (by decide) with ⟨i, -, hi, rfl⟩ | hc
  · exact ⟨0, _, by simp, fun x => z_writer h hj hi⟩
  · exact ⟨2, 0, by simp, fun x => z_writer2 h hj hc⟩
theorem z_deskE (h : zAP A T W) (k c : Int32) : zE (fun x => F_X5_desk x k c) [0, 1, 2] A A := by
  rcases rIs (mN (A.1 0)) (zm_b h).2.1 k with hk | ⟨j, hj, rfl⟩
  · exact ⟨1, 0, by simp, fun x => z_desk1 h hk⟩
  rcases rng c 0 5 (by decide) (by decide) with ⟨i, -, hi, rfl⟩ | hc
  · exact ⟨0, _, by simp, fun x => z_desk h hj hi⟩
  · exact ⟨2, 0, by simp, fun x => z_desk2 h hj hc⟩
theorem mN_lt (x : Int32) : mN x < 2 ^ 31 := by
  by_cases h : x < 0
  · have e : x.toInt < 0 := Int32.lt_iff_toInt_lt.mp h
    show x.toInt.toNat < 2 ^ 31
    omega
  · obtain ⟨j, hj, rfl⟩ := nI_of h
    rw [mN_nI hj]; exact hj
theorem z_letterE (h : zAP A T W) (k i c : Int32) : zE (fun x => F_X5_letter x k i c) [0, 1, 2] A A := by
  rcases rIs (mN (A.1 0)) (zm_b h).2.1 k with hk | ⟨j, hj, rfl⟩
  · exact ⟨1, 0, by simp, fun x => z_letter1 h hk⟩
  rcases pk_ix i (mN_lt (rRow A.1 j 6)) with hi0 | hi0 | ⟨i, hi, rfl⟩
  · exact ⟨1, 0, by simp, fun x => z_letter1i h hj (Or.inl hi0)⟩
  · exact ⟨1, 0, by simp, fun x => z_letter1i h hj (Or.inr hi0)⟩
  rcases rng c 0 1 (by decide) (by decide) with ⟨y, -, hy, rfl⟩ | hc
  · exact ⟨0, _, by simp, fun x => z_letter h hj hi hy⟩
  · exact ⟨2, 0, by simp, fun x => z_letter2 h hj hi hc⟩
theorem z_plannedE (h : zAP A T W) (i c : Int32) : zE (fun x => F_X5_planned x i c) [0, 1, 2] A A := by
  rcases pk_ix i (mN_lt (A.1 2)) with hi0 | hi0 | ⟨i, hi, rfl⟩
  · exact ⟨1, 0, by simp, fun x => z_planned1 h (Or.inl hi0)⟩
  · exact ⟨1, 0, by simp, fun x => z_planned1 h (Or.inr hi0)⟩
  rcases rng c 0 2 (by decide) (by decide) with ⟨y, -, hy, rfl⟩ | hc
  · exact ⟨0, _, by simp, fun x => z_planned h hi hy⟩
  · exact ⟨2, 0, by simp, fun x => z_planned2 h hi hc⟩
end ZL
