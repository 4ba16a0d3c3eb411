/-! CALLS THAT ARE REFUSED BY THEIR ARGUMENTS -/
theorem hi9 {a k q : Nat} {y : Int32} (hy : y = nI q) (ha : a < k) (hk : k + q < 2 ^ 31) : nI a < nI k + y := by
  rw [hy, nI_add]
  exact nI_lt (by omega) hk
theorem zz_m1 (a : Int32) : (-1 : Int32) - a = 0 - (a + 1) := by grind
theorem zz_ng (a : Int32) : -a = 0 - a := by grind
theorem lo9 {q : Nat} {y : Int32} (hy : y = nI q) (hq : q < 2 ^ 20) : (-1 : Int32) - y < 0 := by
  rw [hy, zz_m1, nI_1]
  exact pk_sneg (a := 0) (b := q + 1) (by omega) (by omega)
theorem ng9 {q : Nat} {y : Int32} (hy : y = nI q) (hq : q < 2 ^ 20) : -y < 1 := by
  subst hy
  rcases Nat.eq_zero_or_pos q with e | e
  · subst e; decide
  · rw [zz_ng]
    exact Int32.lt_trans (pk_sneg (a := 0) (b := q) (by omega) e) (by decide)
theorem z_isv {i0 lo hi p : Nat} {v : Int32} {σ : xS} (hr : ∀ j, rVOK i0 j → lo ≤ j ∧ j ≤ hi) (hh : hi < 2 ^ 31) (hi0 : i0 < 2 ^ 31) (hv : v < nI lo ∨ nI hi < v) : F_X3_isValue p (nI i0) v σ = some (0, σ) := by
  rcases rVal_or (nI i0) v with ⟨i, j, h1, h2, h3⟩ | ⟨-, h⟩
  · exfalso
    have hw := h1.w4
    obtain rfl : i0 = i := (nI_eq hi0 (by omega)).mp h2
    obtain ⟨a, b⟩ := hr j h1
    subst h3
    rcases hv with q | q
    · exact nI_nlt a (by omega) q
    · exact nI_nlt b (by omega) q
  · exact h p σ
set_option maxHeartbeats 4000000 in
theorem z_refuses {A : zA} {T W X x : Nat} (h : zAP A T W) (hX : X < 100000) : zL x (F_L_refuses x (nI X)) 1 A A := by
  obtain ⟨hm1, hm4, hm, hL8, hL⟩ := zm_b h
  obtain ⟨m, hmm⟩ : ∃ m, m = mN (A.1 0) := ⟨_, rfl⟩
  obtain ⟨L, hLL⟩ : ∃ L, L = mN (A.1 2) := ⟨_, rfl⟩
  obtain ⟨oo, hoo⟩ : ∃ oo, oo = mN (rRow A.1 0 6) := ⟨_, rfl⟩
  have h0m : 0 < mN (A.1 0) := hm1
  have ho : rRow A.1 0 6 = nI oo ∧ oo ≤ 6 := by
    obtain ⟨⟨m', t, tr, wt, sz, ms, L', w, h1, -, -, -⟩, -⟩ := h
    rw [h1.mm] at h0m
    obtain ⟨q, e, hq⟩ := (h1.2.2.1 0 h0m).o6
    rw [hoo, e, mN_nI (by omega)]
    exact ⟨rfl, hq⟩
  rw [← hmm] at hm hm1 hm4
  rw [← hLL] at hL hL8
  have rm : ∀ (d : Nat), 0 < d → d < 2 ^ 31 → nI X - nI X / nI d * nI d = nI (X % d) := fun d h0 hd => pk_rem (by omega) h0 hd
  have e9 : nI X - nI X / 9 * 9 = nI (X % 9) := rm 9 (by decide) (by decide)
  have e50 : nI X - nI X / 50 * 50 = nI (X % 50) := rm 50 (by decide) (by decide)
  have e99 : nI X - nI X / 99 * 99 = nI (X % 99) := rm 99 (by decide) (by decide)
  have e4 : nI X - nI X / 4 * 4 = nI (X % 4) := rm 4 (by decide) (by decide)
  have em : nI X - nI X / nI m * nI m = nI (X % m) := rm m (by omega) (by omega)
  have hkm : X % m < mN (A.1 0) := by rw [← hmm]; exact Nat.mod_lt _ (by omega)
  have b9 : X % 9 < 9 := Nat.mod_lt _ (by decide)
  have b50 : X % 50 < 50 := Nat.mod_lt _ (by decide)
  have b99 : X % 99 < 99 := Nat.mod_lt _ (by decide)
  have b4 : X % 4 < 4 := Nat.mod_lt _ (by decide)
  have hm0 : ¬ nI m = 0 := nI_ne0 (by omega) (by omega)
  have e7 : (100000 : Int64) + (nI X).toInt64 = lN (100000 + X) := by
    rw [nI_l (by omega)]
    exact lN_add 100000 X
  have h7 : ¬ (lg_cmp (100000 + (nI X).toInt64) 0) < 0 := by
    rw [lg_cmp_lt, e7]
    exact fun q => absurd ((pk_lLT (a := 100000 + X) (b := 0) (by omega) (by decide)).mp q) (by omega)
  have h8 : 0 ≤ lg_cmp (100000 + (nI X).toInt64) (1 * 100000) := by
    rw [lg_cmp_ge, e7]
    exact (pk_lLE (a := 100000) (b := 100000 + X) (by decide) (by omega)).mpr (by omega)
  have c0 : zL x (F_L_call x 2 0 0 0) (A.1 0) A A := zc_2 (z_about (i := 0) h (by omega)) (Or.inl rfl)
  have c2 : zL x (F_L_call x 2 2 0 0) (A.1 2) A A := zc_2 (z_about (i := 2) h (by omega)) (Or.inl rfl)
  have c1 : zL x (F_L_call x 3 0 1 0) (rRow A.1 0 6) A A := zc_3 (z_writer (j := 0) (i := 1) h h0m (by omega)) (Or.inl rfl)
  rw [hm] at c0
  rw [hL] at c2
  rw [ho.1] at c1
  refine zL_of (fun σ hσ => ?_)
  have hf : xfr σ σ x (x + 824) := xfr.refl
  unfold F_L_refuses
  refine zs c0 hσ hf (fun z hσ hf => ?_)
  refine zj (P := fun v => rBad (mN (A.1 0)) v) (G := zW x σ 1 A) (fun _ => Or.inr ?_) (fun _ => Or.inl (lo9 e99 (by omega))) (fun no hno => ?_)
  · rw [← hmm, e99, nI_add]; exact nI_le (by omega) (by omega)
  refine zj (P := fun v => v < 1 ∨ 500 < v) (G := zW x σ 1 A) (fun _ => Or.inr (hi9 (a := 500) (k := 501) e99 (by decide) (by omega))) (fun _ => Or.inl (ng9 e99 (by omega))) (fun bad hbad => ?_)
  refine zj (P := fun v => v < 0 ∨ 255 < v) (G := zW x σ 1 A) (fun _ => Or.inr (hi9 (a := 255) (k := 256) e9 (by decide) (by omega))) (fun _ => Or.inl (lo9 e9 (by omega))) (fun v11 h11 => ?_)
  refine zsr (zc_0 (z_append2 h11) (Or.inr (Or.inl rfl))) rfl hσ hf (fun z hσ hf => ?_)
  refine zsr (zc_2 (z_about2 (Or.inr (hi9 (a := 8) (k := 9) e50 (by decide) (by omega)))) (Or.inr rfl)) rfl hσ hf (fun z hσ hf => ?_)
  refine zsr (zc_3 (z_writer1 h hno) (Or.inr (Or.inl rfl))) rfl hσ hf (fun z hσ hf => ?_)
  rw [if_pos hm0, em]
  refine zsr (zc_3 (z_writer2 h hkm (Or.inr (hi9 (a := 6) (k := 7) e9 (by decide) (by omega)))) (Or.inr (Or.inr rfl))) rfl hσ hf (fun z hσ hf => ?_)
  refine zsr (zc_4 (z_desk1 h hno) (Or.inr (Or.inl rfl))) rfl hσ hf (fun z hσ hf => ?_)
  rw [if_pos hm0]
  refine zsr (zc_4 (z_desk2 h hkm (Or.inr (hi9 (a := 5) (k := 6) e9 (by decide) (by omega)))) (Or.inr (Or.inr rfl))) rfl hσ hf (fun z hσ hf => ?_)
  refine zsr (zc_5 (z_letter1 h hno) (Or.inr (Or.inl rfl))) rfl hσ hf (fun z hσ hf => ?_)
  refine zs c1 hσ hf (fun z hσ hf => ?_)
  refine zsr (zc_5 (z_letter1i (j := 0) h h0m (Or.inr (by rw [← hoo, e9, nI_add]; exact nI_le (by omega) (by omega)))) (Or.inr (Or.inl rfl))) rfl hσ hf (fun z hσ hf => ?_)
  refine zs c2 hσ hf (fun z hσ hf => ?_)
  refine zsr (zc_6 (z_planned1 h (Or.inr (by rw [← hLL, e9, nI_add]; exact nI_le (by omega) (by omega)))) (Or.inr (Or.inl rfl))) rfl hσ hf (fun z hσ hf => ?_)
  refine zsr (zc_7 (z_setting2 (Or.inr (hi9 (a := 3) (k := 4) e9 (by decide) (by omega)))) (Or.inr rfl)) rfl hσ hf (fun z hσ hf => ?_)
  refine zj (P := fun v => v < 1 ∨ 4 < v) (G := zW x σ 1 A) (fun _ => Or.inr (hi9 (a := 4) (k := 5) e9 (by decide) (by omega))) (fun _ => Or.inl (ng9 e9 (by omega))) (fun v hv => ?_)
  refine zsr (zc_8 (z_post2 hv) (Or.inr rfl)) rfl hσ hf (fun z hσ hf => ?_)
  refine zsr (zc_9 (z_write1 h hno) (Or.inr (Or.inl rfl))) rfl hσ hf (fun z hσ hf => ?_)
  rw [if_pos hm0]
  refine zsr (zc_9 (z_write2 h hkm hbad) (Or.inr (Or.inr (Or.inl rfl)))) rfl hσ hf (fun z hσ hf => ?_)
  refine zsr (zc_10 (z_plan1 h hno) (Or.inr (Or.inl rfl))) rfl hσ hf (fun z hσ hf => ?_)
  refine zj (P := fun v => v < 1 ∨ 99 < v) (G := zW x σ 1 A) (fun _ => Or.inr (hi9 (a := 99) (k := 100) e9 (by decide) (by omega))) (fun _ => Or.inl (by decide)) (fun v hv => ?_)
  refine zsr (zc_10 (z_plan2 (j := 0) h h0m (Or.inl hv)) (Or.inr (Or.inr (Or.inl rfl)))) rfl hσ hf (fun z hσ hf => ?_)
  refine zsr (zc_10 (z_plan2 (j := 0) h h0m (Or.inr hbad)) (Or.inr (Or.inr (Or.inl rfl)))) rfl hσ hf (fun z hσ hf => ?_)
  refine zsr (zc_holds (z_hold1 h hno (Or.inr rfl)) (Or.inr rfl)) rfl hσ hf (fun z hσ hf => ?_)
  refine zsr (zc_11 (z_flush1 h hno) (Or.inr rfl)) rfl hσ hf (fun z hσ hf => ?_)
  refine zj (P := fun v => v < 1 ∨ 99 < v) (G := zW x σ 1 A) (fun _ => Or.inr (hi9 (a := 99) (k := 100) e9 (by decide) (by omega))) (fun _ => Or.inl (by decide)) (fun v hv => ?_)
  refine zsr (zc_12 (z_ticks2 hv) (Or.inr (Or.inl rfl))) rfl hσ hf (fun z hσ hf => ?_)
  refine zj (P := fun v => v < 1 ∨ 9 < v) (G := zW x σ 1 A) (fun _ => Or.inr (hi9 (a := 9) (k := 10) e9 (by decide) (by omega))) (fun _ => Or.inl (by decide)) (fun v hv => ?_)
  refine zsr (zc_13 (z_set2 (fun p s => z_isv (i0 := 0) (lo := 1) (hi := 9) (fun j hj => by unfold rVOK at hj; omega) (by decide) (by decide) hv)) (Or.inr rfl)) rfl hσ hf (fun z hσ hf => ?_)
  refine zsr (zc_13 (z_set2 (fun p s => z_isv (i0 := 1) (lo := 0) (hi := 20) (fun j hj => by unfold rVOK at hj; omega) (by decide) (by decide) (Or.inr (hi9 (a := 20) (k := 21) e9 (by decide) (by omega))))) (Or.inr rfl)) rfl hσ hf (fun z hσ hf => ?_)
  refine zj (P := fun v => v < 4 ∨ 99 < v) (G := zW x σ 1 A) (fun _ => Or.inr (hi9 (a := 99) (k := 100) e9 (by decide) (by omega))) (fun _ => Or.inl (by rw [e4]; exact nI_lt (b := 4) (by omega) (by decide))) (fun v hv => ?_)
  refine zsr (zc_13 (z_set2 (fun p s => z_isv (i0 := 2) (lo := 4) (hi := 99) (fun j hj => by unfold rVOK at hj; omega) (by decide) (by decide) hv)) (Or.inr rfl)) rfl hσ hf (fun z hσ hf => ?_)
  refine zj (P := fun v => v < 1 ∨ 6 < v) (G := zW x σ 1 A) (fun _ => Or.inr (hi9 (a := 6) (k := 7) e9 (by decide) (by omega))) (fun _ => Or.inl (by decide)) (fun v hv => ?_)
  refine zsr (zc_13 (z_set2 (fun p s => z_isv (i0 := 3) (lo := 1) (hi := 6) (fun j hj => by unfold rVOK at hj; omega) (by decide) (by decide) hv)) (Or.inr rfl)) rfl hσ hf (fun z hσ hf => ?_)
  refine zsr (zc_13 (z_set2 (fun p s => by rw [show (4 : Int32) + (nI X - nI X / 9 * 9) = nI (4 + X % 9) by rw [e9]; exact nI_add 4 (X % 9)]; exact z_isv (i0 := 4 + X % 9) (lo := 6) (hi := 0) (fun j hj => by unfold rVOK at hj; omega) (by decide) (by omega) (Or.inl (by decide)))) (Or.inr rfl)) rfl hσ hf (fun z hσ hf => ?_)
  refine zsr (zc_15 (z_done1 h hno) (Or.inr rfl)) rfl hσ hf (fun z hσ hf => ?_)
  refine zsr (zc_16 (z_there1 h hno) (Or.inr (Or.inl rfl))) rfl hσ hf (fun z hσ hf => ?_)
  rw [if_pos hm0]
  refine zsr (zc_16 (z_there2 h hkm hbad) (Or.inr (Or.inr rfl))) rfl hσ hf (fun z hσ hf => ?_)
  refine zsr (zc_17 (z_if1 h hno) (Or.inr (Or.inl rfl))) rfl hσ hf (fun z hσ hf => ?_)
  refine zsr (zc_17 (z_if2 (j := 0) h h0m (Or.inr (hi9 (a := 3) (k := 4) e9 (by decide) (by omega)))) (Or.inr (Or.inr rfl))) rfl hσ hf (fun z hσ hf => ?_)
  refine zsr (zc_18 (z_best1 h hno) (Or.inr (Or.inl rfl))) rfl hσ hf (fun z hσ hf => ?_)
  refine zj (P := fun v => v < 1 ∨ 2 < v) (G := zW x σ 1 A) (fun _ => Or.inr (hi9 (a := 2) (k := 3) e9 (by decide) (by omega))) (fun _ => Or.inl (by decide)) (fun v hv => ?_)
  refine zsr (zc_18 (z_best2 (j := 0) h h0m hv) (Or.inr (Or.inr rfl))) rfl hσ hf (fun z hσ hf => ?_)
  refine zsr (zc_19 (z_save1 (Or.inr (hi9 (a := 1) (k := 2) e50 (by decide) (by omega)))) (Or.inr rfl)) rfl hσ hf (fun z hσ hf => ?_)
  refine zsr (zc_20 (z_restore1 (Or.inl (lo9 e9 (by omega)))) (Or.inr (Or.inl rfl))) rfl hσ hf (fun z hσ hf => ?_)
  refine zsr (zc_doScript (z_script0) (Or.inr rfl)) rfl hσ hf (fun z hσ hf => ?_)
  refine zsr (zc_doScript (z_script1 h7 h8) (Or.inr rfl)) rfl hσ hf (fun z hσ hf => ?_)
  refine zsr (zc_doSimulate (z_sim2 (Or.inr (hi9 (a := 60) (k := 61) e9 (by decide) (by omega)))) (Or.inr rfl)) rfl hσ hf (fun z hσ hf => ?_)
  exact zW_end hσ hf
