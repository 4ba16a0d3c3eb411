/-! THE LAW'S ACT -/
section ZX
variable {A : zA} {T W : Nat}
def zAE (T W : Nat) (A : zA) (F : Nat → xS → Option (Int32 × xS)) : Prop := ∃ v A2, zAP A2 (T + 99) (W + 8000) ∧ ∀ x, zL x (F x) v A A2
theorem za_same {F : Nat → xS → Option (Int32 × xS)} {v : Int32} (h : zAP A T W) (hF : ∀ x, zL x (F x) v A A) : zAE T W A F := ⟨v, A, h.mono (by omega) (by omega), hF⟩
theorem za_write {j y : Nat} (h : zAP A T W) (hT : T < 2 ^ 28) (hW : W < 2 ^ 28) (hj : j < mN (A.1 0)) (hy1 : 1 ≤ y) (hy : y ≤ 500) : zAE T W A (fun x => F_L_call x 9 (nI j) (nI y) 0) := by
  by_cases hr : (9999 : Int32) < rRow A.1 j 0 + nI y
  · exact za_same h (fun x => zc_9 (z_write3 h hj hy1 hy hr) (Or.inr (Or.inr (Or.inr rfl))))
  · exact ⟨_, _, zPu_P h (by omega) (by omega) (h.1.write hT hW hj hy hr), fun x => zc_9 (z_write h hT hW hj hy1 hy hr) (Or.inl rfl)⟩
theorem za_plan {i j y : Nat} (h : zAP A T W) (hj : j < mN (A.1 0)) (hi1 : 1 ≤ i) (hi : i ≤ 99) (hy1 : 1 ≤ y) (hy : y ≤ 500) : zAE T W A (fun x => F_L_call x 10 (nI i) (nI j) (nI y)) := by
  by_cases h8 : mN (A.1 2) < 8
  · exact ⟨_, _, zPu_P h (by omega) (by omega) (h.1.plan hj hi1 hi hy1 hy h8), fun x => zc_10 (z_plan h hj hi1 hi hy1 hy h8) (Or.inl rfl)⟩
  · exact za_same h (fun x => zc_10 (z_plan3 h hj hi1 hi hy1 hy (by omega)) (Or.inr (Or.inr (Or.inr rfl))))
theorem za_hold {j : Nat} {b : Int32} (h : zAP A T W) (hT : T < 2 ^ 28) (hW : W < 2 ^ 28) (hj : j < mN (A.1 0)) (hb : b = 0 ∨ b = 1) : zAE T W A (fun x => F_L_holds x (nI j) b) :=
  ⟨_, _, zPu_P h (by omega) (by omega) (h.1.hold hT hW hj hb), fun x => zc_holds (z_hold h hT hW hj hb) (Or.inl rfl)⟩
theorem za_flush {j : Nat} (h : zAP A T W) (hT : T < 2 ^ 28) (hW : W < 2 ^ 28) (hj : j < mN (A.1 0)) : zAE T W A (fun x => F_L_call x 11 (nI j) 0 0) :=
  ⟨_, _, zPu_P h (by omega) (by omega) (h.1.flush hT hW hj), fun x => zc_11 (z_flush h hT hW hj) (Or.inl rfl)⟩
theorem za_set {w v : Int32} (h : zAP A T W) : zAE T W A (fun x => F_L_call x 13 w v 0) := by
  rcases rVal_or w v with ⟨i, j, hv, rfl, rfl⟩ | ⟨-, b2⟩
  · exact ⟨_, _, zPu_P h (by omega) (by omega) (h.1.set hv), fun x => zc_13 (z_set h hv) (Or.inl rfl)⟩
  · exact za_same h (fun x => zc_13 (z_set2 b2) (Or.inr rfl))
theorem za_post {i : Nat} (h : zAP A T W) (hi1 : 1 ≤ i) (hi : i ≤ 4) : zAE T W A (fun x => F_L_call x 8 (nI i) 0 0) :=
  ⟨_, _, zPu_P h (by omega) (by omega) (h.1.post hi1 hi), fun x => zc_8 (z_post h hi1 hi) (Or.inl rfl)⟩
theorem za_ticks {i : Nat} (h : zAP A T W) (hT : T < 90000) (hW : W < 2 ^ 26) (hi1 : 1 ≤ i) (hi : i ≤ 99) : zAE T W A (fun x => F_L_call x 12 (nI i) 0 0) :=
  ⟨_, _, zPu_P h (by omega) (by omega) (h.1.ticks (by omega) (by omega) hi), fun x => zc_12 (z_ticks h hT hW hi1 hi) (Or.inl rfl)⟩
theorem za_undo (h : zAP A T W) : zAE T W A (fun x => F_L_call x 14 0 0 0) := by
  obtain ⟨l, hl⟩ : ∃ l, l = A.2.1 := ⟨_, rfl⟩
  cases l with
  | nil => exact za_same h (fun x => zc_14 (z_undo3 hl.symm) (Or.inr rfl))
  | cons r l => exact ⟨_, _, (zAP_undo h hl.symm).mono (by omega) (by omega), fun x => zc_14 (z_undo h hl.symm) (Or.inl rfl)⟩
theorem za_save {s : Nat} (h : zAP A T W) (hs : s ≤ 1) : zAE T W A (fun x => F_L_call x 19 (nI s) 0 0) :=
  ⟨_, _, (zAP_save h).mono (by omega) (by omega), fun x => zc_19 (z_save h hs) (Or.inl rfl)⟩
theorem za_restore {s : Nat} (h : zAP A T W) (hs : s ≤ 1) : zAE T W A (fun x => F_L_call x 20 (nI s) 0 0) := by
  obtain ⟨o, ho⟩ : ∃ o, o = A.2.2 s := ⟨_, rfl⟩
  cases o with
  | none => exact za_same h (fun x => zc_20 (z_restore3 hs ho.symm) (Or.inr (Or.inr rfl)))
  | some r => exact ⟨_, _, (zAP_restore h ho.symm).mono (by omega) (by omega), fun x => zc_20 (z_restore h hs ho.symm) (Or.inl rfl)⟩
theorem zt {x : Nat} {σ0 σ : xS} {v : Int32} {A2 : zA} {F : xS → Option (Int32 × xS)} (h : zL x F v A A2) (hσ : zAM σ x A) (hf : xfr σ0 σ x (x + 824)) : zW x σ0 v A2 (xbI (F σ) (fun (zz : Int32) (s : xS) => some (zz, s))) := zs h hσ hf (fun z h1 h2 => zW_end h1 h2)
/-- the law's act, before it is decided which -/
theorem z_act0 {X x : Nat} {v : Int32} {A2 : zA} (h : zAP A T W) (hX : X < 2 ^ 31) (hk : ∀ σ0 σ : xS, zAM σ x A → xfr σ0 σ x (x + 824) → zW x σ0 v A2 ((fun (pp2 zz1 zz5 : Int32) (σ2 : xS) => if pp2 = 0 then (if ¬ (zz1 - zz1 / 5 * 5) = 0 then (xbI (F_L_call x 9 zz5 (1 + ((zz1 / 4) - (zz1 / 4) / 300 * 300)) 0 σ2) (fun (zz7 : Int32) (σ6 : xS) => some (zz7, σ6)))
 else (xbI (F_L_call x 8 (1 + ((zz1 / 5) - (zz1 / 5) / 4 * 4)) 0 0 σ2) (fun (zz9 : Int32) (σ8 : xS) => some (zz9, σ8))))
 else (if pp2 = 1 ∨ pp2 = 2 ∨ pp2 = 3 ∨ pp2 = 4 then (xbI (F_L_call x 9 zz5 (1 + ((zz1 / 4) - (zz1 / 4) / 50 * 50)) 0 σ2) (fun (zz12 : Int32) (σ11 : xS) => some (zz12, σ11)))
 else (if pp2 = 5 ∨ pp2 = 6 then (xbI (F_L_call x 10 (1 + ((zz1 / 4) - (zz1 / 4) / 25 * 25)) zz5 (1 + ((zz1 / 100) - (zz1 / 100) / 60 * 60)) σ2) (fun (zz15 : Int32) (σ14 : xS) => some (zz15, σ14)))
 else (if pp2 = 7 then (if ¬ ((zz1 / 4) - (zz1 / 4) / 2 * 2) = 1 then (xbI (F_L_holds x zz5 0 σ2) (fun (zz18 : Int32) (σ17 : xS) => some (zz18, σ17)))
 else (xbI (F_L_holds x zz5 1 σ2) (fun (zz20 : Int32) (σ19 : xS) => some (zz20, σ19))))
 else (if pp2 = 8 then (xbI (F_L_call x 11 zz5 0 0 σ2) (fun (zz23 : Int32) (σ22 : xS) => some (zz23, σ22)))
 else (if pp2 = 9 ∨ pp2 = 10 then (xbI (F_L_call x 13 (zz1 - zz1 / 4 * 4) ((zz1 / 4) - (zz1 / 4) / 22 * 22) 0 σ2) (fun (zz26 : Int32) (σ25 : xS) => some (zz26, σ25)))
 else (if pp2 = 11 then (xbI (F_L_call x 2 1 0 0 σ2) (fun (zz29 : Int32) (σ28 : xS) => if 3 ≤ zz29 then (xbI (F_L_call x 14 0 0 0 σ28) (fun (zz31 : Int32) (σ30 : xS) => some (zz31, σ30)))
 else (some ((-1 : Int32), σ28))))
 else (if pp2 = 12 then (if ¬ (zz1 - zz1 / 2 * 2) = 0 then (xbI (F_L_call x 20 ((zz1 / 2) - (zz1 / 2) / 2 * 2) 0 0 σ2) (fun (zz34 : Int32) (σ33 : xS) => some (zz34, σ33)))
 else (xbI (F_L_call x 19 ((zz1 / 2) - (zz1 / 2) / 2 * 2) 0 0 σ2) (fun (zz36 : Int32) (σ35 : xS) => some (zz36, σ35))))
 else (xbI (F_L_call x 12 (1 + (zz1 - zz1 / 12 * 12)) 0 0 σ2) (fun (zz39 : Int32) (σ38 : xS) => some (zz39, σ38))))))))))) (nI (X % 16)) (nI (X / 16)) (nI (X / 16 % mN (A.1 0))) σ)) : zL x (F_L_act x (nI X)) v A A2 := by
  obtain ⟨hm1, hm4, hm, hL8, hL⟩ := zm_b h
  have eY : nI X / 16 = nI (X / 16) := pk_div (d := 16) (by omega) (by decide) (by decide)
  have e16 : nI X - nI (X / 16) * 16 = nI (X % 16) := by rw [← eY]; exact pk_rem (d := 16) (by omega) (by decide) (by decide)
  have c0 : zL x (F_L_call x 2 0 0 0) (A.1 0) A A := zc_2 (z_about (i := 0) h (by omega)) (Or.inl rfl)
  rw [hm] at c0
  refine zL_of (fun σ hσ => ?_)
  have q := hk
  unfold F_L_act
  rw [xlet_s, eY]
  refine zs c0 hσ xfr.refl (fun z hσ hf => ?_)
  rw [if_pos (show ¬ nI (mN (A.1 0)) = 0 from nI_ne0 (by omega) (by omega)), xlet_s, show nI (X / 16) - nI (X / 16) / nI (mN (A.1 0)) * nI (mN (A.1 0)) = nI (X / 16 % mN (A.1 0)) from pk_rem (by omega) (by omega) (by omega), e16]
  exact hk σ z hσ hf
theorem z_acts {X : Nat} (h : zAP A T W) (hT : T < 90000) (hW : W < 2 ^ 26) (hX : X < 2 ^ 31) : zAE T W A (fun x => F_L_act x (nI X)) := by
  obtain ⟨hm1, hm4, hm, hL8, hL⟩ := zm_b h
  obtain ⟨Y, hY⟩ : ∃ Y, Y = X / 16 := ⟨_, rfl⟩
  obtain ⟨q, hq⟩ : ∃ q, q = X % 16 := ⟨_, rfl⟩
  have hY2 : Y < 2 ^ 28 := by omega
  have hq2 : q < 16 := by omega
  have hk : Y % mN (A.1 0) < mN (A.1 0) := Nat.mod_lt _ (by omega)
  have dv : ∀ (a d : Nat), a < 2 ^ 31 → 0 < d → d < 2 ^ 31 → nI a / nI d = nI (a / d) := fun a d ha h0 hd => pk_div ha h0 hd
  have rm : ∀ (a d : Nat), a < 2 ^ 31 → 0 < d → d < 2 ^ 31 → nI a - nI a / nI d * nI d = nI (a % d) := fun a d ha h0 hd => pk_rem ha h0 hd
  have p1 : ∀ a : Nat, (1 : Int32) + nI a = nI (1 + a) := fun a => nI_add 1 a
  have d4 : nI Y / 4 = nI (Y / 4) := dv Y 4 (by omega) (by decide) (by decide)
  have d5 : nI Y / 5 = nI (Y / 5) := dv Y 5 (by omega) (by decide) (by decide)
  have d2 : nI Y / 2 = nI (Y / 2) := dv Y 2 (by omega) (by decide) (by decide)
  have d100 : nI Y / 100 = nI (Y / 100) := dv Y 100 (by omega) (by decide) (by decide)
  have nq : ∀ v, v < 16 → (nI q = nI v ↔ q = v) := fun v hv => nI_eq (by omega) (by omega)
  have fin : ∀ F : Nat → xS → Option (Int32 × xS), zAE T W A F → (∀ x v A2, zL x (F x) v A A2 → zL x (F_L_act x (nI X)) v A A2) → zAE T W A (fun x => F_L_act x (nI X)) := fun F hF hh => by
    obtain ⟨v, A2, a1, a2⟩ := hF
    exact ⟨v, A2, a1, fun x => hh x v A2 (a2 x)⟩
  by_cases c0 : q = 0
  · by_cases c5 : Y % 5 = 0
    · refine fin (fun x => F_L_call x 8 (nI (1 + Y / 5 % 4)) 0 0) (za_post h (by omega) (by omega)) (fun x v A2 hl => z_act0 h hX (fun σ0 σ hσ hf => ?_))
      rw [← hY, ← hq]
      dsimp only
      rw [if_pos (show nI q = 0 from (nq 0 (by decide)).mpr c0), if_neg (show ¬ ¬ nI Y - nI Y / 5 * 5 = 0 from fun p => p (by rw [show nI Y - nI Y / 5 * 5 = nI (Y % 5) from rm Y 5 (by omega) (by decide) (by decide), c5]; rfl)), d5, show nI (Y / 5) - nI (Y / 5) / 4 * 4 = nI (Y / 5 % 4) from rm (Y / 5) 4 (by omega) (by decide) (by decide), p1]
      exact zt hl hσ hf
    · refine fin (fun x => F_L_call x 9 (nI (Y % mN (A.1 0))) (nI (1 + Y / 4 % 300)) 0) (za_write h (by omega) (by omega) hk (by omega) (by omega)) (fun x v A2 hl => z_act0 h hX (fun σ0 σ hσ hf => ?_))
      rw [← hY, ← hq]
      dsimp only
      rw [if_pos (show nI q = 0 from (nq 0 (by decide)).mpr c0), if_pos (show ¬ nI Y - nI Y / 5 * 5 = 0 by rw [show nI Y - nI Y / 5 * 5 = nI (Y % 5) from rm Y 5 (by omega) (by decide) (by decide)]; exact nI_ne0 (by omega) (by omega)), d4, show nI (Y / 4) - nI (Y / 4) / 300 * 300 = nI (Y / 4 % 300) from rm (Y / 4) 300 (by omega) (by decide) (by decide), p1]
      exact zt hl hσ hf
  have n0 : ¬ nI q = 0 := fun p => c0 ((nq 0 (by decide)).mp p)
  by_cases c1 : q ≤ 4
  · refine fin (fun x => F_L_call x 9 (nI (Y % mN (A.1 0))) (nI (1 + Y / 4 % 50)) 0) (za_write h (by omega) (by omega) hk (by omega) (by omega)) (fun x v A2 hl => z_act0 h hX (fun σ0 σ hσ hf => ?_))
    have hc : nI q = 1 ∨ nI q = 2 ∨ nI q = 3 ∨ nI q = 4 := by
      obtain e | e | e | e : q = 1 ∨ q = 2 ∨ q = 3 ∨ q = 4 := by omega
      · exact Or.inl ((nq 1 (by decide)).mpr e)
      · exact Or.inr (Or.inl ((nq 2 (by decide)).mpr e))
      · exact Or.inr (Or.inr (Or.inl ((nq 3 (by decide)).mpr e)))
      · exact Or.inr (Or.inr (Or.inr ((nq 4 (by decide)).mpr e)))
    rw [← hY, ← hq]
    dsimp only
    rw [if_neg n0, if_pos hc, d4, show nI (Y / 4) - nI (Y / 4) / 50 * 50 = nI (Y / 4 % 50) from rm (Y / 4) 50 (by omega) (by decide) (by decide), p1]
    exact zt hl hσ hf
  have n1 : ¬ (nI q = 1 ∨ nI q = 2 ∨ nI q = 3 ∨ nI q = 4) := fun p => by
    rcases p with p | p | p | p
    · have := (nq 1 (by decide)).mp p; omega
    · have := (nq 2 (by decide)).mp p; omega
    · have := (nq 3 (by decide)).mp p; omega
    · have := (nq 4 (by decide)).mp p; omega
  by_cases c2 : q ≤ 6
  · refine fin (fun x => F_L_call x 10 (nI (1 + Y / 4 % 25)) (nI (Y % mN (A.1 0))) (nI (1 + Y / 100 % 60))) (za_plan h hk (by omega) (by omega) (by omega) (by omega)) (fun x v A2 hl => z_act0 h hX (fun σ0 σ hσ hf => ?_))
    have hc : nI q = 5 ∨ nI q = 6 := by
      obtain e | e : q = 5 ∨ q = 6 := by omega
      · exact Or.inl ((nq 5 (by decide)).mpr e)
      · exact Or.inr ((nq 6 (by decide)).mpr e)
    rw [← hY, ← hq]
    dsimp only
    rw [if_neg n0, if_neg n1, if_pos hc, d4, d100, show nI (Y / 4) - nI (Y / 4) / 25 * 25 = nI (Y / 4 % 25) from rm (Y / 4) 25 (by omega) (by decide) (by decide), show nI (Y / 100) - nI (Y / 100) / 60 * 60 = nI (Y / 100 % 60) from rm (Y / 100) 60 (by omega) (by decide) (by decide), p1, p1]
    exact zt hl hσ hf
  have n2 : ¬ (nI q = 5 ∨ nI q = 6) := fun p => by
    rcases p with p | p
    · have := (nq 5 (by decide)).mp p; omega
    · have := (nq 6 (by decide)).mp p; omega
  have m2 : nI (Y / 4) - nI (Y / 4) / 2 * 2 = nI (Y / 4 % 2) := rm (Y / 4) 2 (by omega) (by decide) (by decide)
  by_cases c3 : q = 7
  · by_cases c7 : Y / 4 % 2 = 1
    · refine fin (fun x => F_L_holds x (nI (Y % mN (A.1 0))) 1) (za_hold h (by omega) (by omega) hk (Or.inr rfl)) (fun x v A2 hl => z_act0 h hX (fun σ0 σ hσ hf => ?_))
      rw [← hY, ← hq]
      dsimp only
      rw [if_neg n0, if_neg n1, if_neg n2, if_pos (show nI q = 7 from (nq 7 (by decide)).mpr c3), d4, m2, if_neg (show ¬ ¬ nI (Y / 4 % 2) = 1 from fun p => p (by rw [c7]; rfl))]
      exact zt hl hσ hf
    · refine fin (fun x => F_L_holds x (nI (Y % mN (A.1 0))) 0) (za_hold h (by omega) (by omega) hk (Or.inl rfl)) (fun x v A2 hl => z_act0 h hX (fun σ0 σ hσ hf => ?_))
      rw [← hY, ← hq]
      dsimp only
      rw [if_neg n0, if_neg n1, if_neg n2, if_pos (show nI q = 7 from (nq 7 (by decide)).mpr c3), d4, m2, if_pos (show ¬ nI (Y / 4 % 2) = 1 from fun p => c7 ((nI_eq (b := 1) (by omega) (by decide)).mp p))]
      exact zt hl hσ hf
  have n3 : ¬ nI q = 7 := fun p => c3 ((nq 7 (by decide)).mp p)
  by_cases c4 : q = 8
  · refine fin (fun x => F_L_call x 11 (nI (Y % mN (A.1 0))) 0 0) (za_flush h (by omega) (by omega) hk) (fun x v A2 hl => z_act0 h hX (fun σ0 σ hσ hf => ?_))
    rw [← hY, ← hq]
    dsimp only
    rw [if_neg n0, if_neg n1, if_neg n2, if_neg n3, if_pos (show nI q = 8 from (nq 8 (by decide)).mpr c4)]
    exact zt hl hσ hf
  have n4 : ¬ nI q = 8 := fun p => c4 ((nq 8 (by decide)).mp p)
  by_cases c5 : q ≤ 10
  · refine fin (fun x => F_L_call x 13 (nI (Y % 4)) (nI (Y / 4 % 22)) 0) (za_set h) (fun x v A2 hl => z_act0 h hX (fun σ0 σ hσ hf => ?_))
    have hc : nI q = 9 ∨ nI q = 10 := by
      obtain e | e : q = 9 ∨ q = 10 := by omega
      · exact Or.inl ((nq 9 (by decide)).mpr e)
      · exact Or.inr ((nq 10 (by decide)).mpr e)
    rw [← hY, ← hq]
    dsimp only
    rw [if_neg n0, if_neg n1, if_neg n2, if_neg n3, if_neg n4, if_pos hc, show nI Y - nI Y / 4 * 4 = nI (Y % 4) from rm Y 4 (by omega) (by decide) (by decide), d4, show nI (Y / 4) - nI (Y / 4) / 22 * 22 = nI (Y / 4 % 22) from rm (Y / 4) 22 (by omega) (by decide) (by decide)]
    exact zt hl hσ hf
  have n5 : ¬ (nI q = 9 ∨ nI q = 10) := fun p => by
    rcases p with p | p
    · have := (nq 9 (by decide)).mp p; omega
    · have := (nq 10 (by decide)).mp p; omega
  by_cases c6 : q = 11
  · have ca : ∀ x, zL x (F_L_call x 2 1 0 0) (A.1 1) A A := fun x => zc_2 (z_about (i := 1) h (by omega)) (Or.inl rfl)
    by_cases c3' : (3 : Int32) ≤ A.1 1
    · refine fin (fun x => F_L_call x 14 0 0 0) (za_undo h) (fun x v A2 hl => z_act0 h hX (fun σ0 σ hσ hf => ?_))
      rw [← hY, ← hq]
      dsimp only
      rw [if_neg n0, if_neg n1, if_neg n2, if_neg n3, if_neg n4, if_neg n5, if_pos (show nI q = 11 from (nq 11 (by decide)).mpr c6)]
      refine zs (ca x) hσ hf (fun z hσ hf => ?_)
      rw [if_pos c3']
      exact zt hl hσ hf
    · refine za_same (v := -1) h (fun x => z_act0 h hX (fun σ0 σ hσ hf => ?_))
      rw [← hY, ← hq]
      dsimp only
      rw [if_neg n0, if_neg n1, if_neg n2, if_neg n3, if_neg n4, if_neg n5, if_pos (show nI q = 11 from (nq 11 (by decide)).mpr c6)]
      refine zs (ca x) hσ hf (fun z hσ hf => ?_)
      rw [if_neg c3']
      exact zW_end hσ hf
  have n6 : ¬ nI q = 11 := fun p => c6 ((nq 11 (by decide)).mp p)
  have m3 : nI (Y / 2) - nI (Y / 2) / 2 * 2 = nI (Y / 2 % 2) := rm (Y / 2) 2 (by omega) (by decide) (by decide)
  have m4 : nI Y - nI (Y / 2) * 2 = nI (Y % 2) := by rw [← d2]; exact rm Y 2 (by omega) (by decide) (by decide)
  by_cases c7 : q = 12
  · by_cases c8 : Y % 2 = 0
    · refine fin (fun x => F_L_call x 19 (nI (Y / 2 % 2)) 0 0) (za_save h (by omega)) (fun x v A2 hl => z_act0 h hX (fun σ0 σ hσ hf => ?_))
      rw [← hY, ← hq]
      dsimp only
      rw [if_neg n0, if_neg n1, if_neg n2, if_neg n3, if_neg n4, if_neg n5, if_neg n6, if_pos (show nI q = 12 from (nq 12 (by decide)).mpr c7), d2, m3, m4, if_neg (show ¬ ¬ nI (Y % 2) = 0 from fun p => p (by rw [c8]; rfl))]
      exact zt hl hσ hf
    · refine fin (fun x => F_L_call x 20 (nI (Y / 2 % 2)) 0 0) (za_restore h (by omega)) (fun x v A2 hl => z_act0 h hX (fun σ0 σ hσ hf => ?_))
      rw [← hY, ← hq]
      dsimp only
      rw [if_neg n0, if_neg n1, if_neg n2, if_neg n3, if_neg n4, if_neg n5, if_neg n6, if_pos (show nI q = 12 from (nq 12 (by decide)).mpr c7), d2, m3, m4, if_pos (show ¬ nI (Y % 2) = 0 from nI_ne0 (by omega) (by omega))]
      exact zt hl hσ hf
  have n7 : ¬ nI q = 12 := fun p => c7 ((nq 12 (by decide)).mp p)
  refine fin (fun x => F_L_call x 12 (nI (1 + Y % 12)) 0 0) (za_ticks h hT hW (by omega) (by omega)) (fun x v A2 hl => z_act0 h hX (fun σ0 σ hσ hf => ?_))
  rw [← hY, ← hq]
  dsimp only
  rw [if_neg n0, if_neg n1, if_neg n2, if_neg n3, if_neg n4, if_neg n5, if_neg n6, if_neg n7, show nI Y - nI Y / 12 * 12 = nI (Y % 12) from rm Y 12 (by omega) (by decide) (by decide), p1]
  exact zt hl hσ hf
end ZX
