/-! restore, undo, remembering -/
theorem y_restore {T W : Nat} {σ : xS} (h : yR T W σ) (x : Int32) : yC T W (F_L_restore 0 x 832) (F_X6_restore 824 x) σ := by
  obtain ⟨hS, hX, hM, hK⟩ := id h
  rcases rng x 0 1 (by decide) (by decide) with ⟨s, -, hs, rfl⟩ | hx
  · have hF : F_X5_isWithin (nI s) 0 1 σ = some (1, σ) := pF_wiN (a := 0) (b := 1) (Nat.zero_le _) hs (by decide)
    have hI : ∀ s2 : xS, F_X6_in (nI s).toInt64 0 1 s2 = some (1, s2) := fun s2 => pR_inN (a := 0) (b := 1) (Nat.zero_le _) hs (by decide)
    rcases hK s (by omega) with ⟨g1, g2⟩ | ⟨g1, g2, g3⟩
    · have g1 : σ (0 + 651) s = 0 := g1
      have g2 : σ (824 + 7) s = 0 := g2
      refine yC_thr (c := 2) (b := 0) h ?_ ?_ (by decide)
      · unfold F_L_restore F_X5_restore
        rw [hF, xbI_s, F5_dem1, xbT_0, if_pos (xin_nI (by omega) (by decide)), nI_clamp (by omega), g1, xlet_s, F5_dem03, xbT_3, xbH_3, if_neg (by decide), if_pos (by decide)]
      · unfold F_X6_restore
        rw [hI, xbI_s, xjn_s, if_pos (by decide), if_pos (xin_nI (by omega) (by decide)), nI_clamp (by omega), g2, xlet_s, if_neg (by decide)]; dsimp only; rw [pR_ref2, xbI_s, if_neg (by decide)]
    · have g1 : σ (0 + 651) s = 1 := g1
      obtain ⟨z, c1, c2, c3⟩ := (show yS σ (0 + 738 + 43 * s) (fun i => σ 830 (187 * s + i)) T W from g3).copy (p := 0 + 3) (by omega)
      obtain ⟨σ1, hσ1⟩ : ∃ y, y = xu (xu z (0 + 46) 2 0) 832 0 (σ 830 (187 * s + 1)) := ⟨_, rfl⟩
      have zt : (xu z (0 + 46) 2 0) (0 + 3) 1 = σ 830 (187 * s + 1) := by
        rw [xu_other (by decide)]
        obtain ⟨m, t, tr, wt, sz, ms, L, w, h1, -, -, hQ⟩ := c3
        exact hQ.1.2.1
      have cl : F_L_restore 0 (nI s) 832 σ = some (0, σ1) := by
        unfold F_L_restore F_X5_restore F_X1_forgetAll
        rw [hF, xbI_s, F5_dem1, xbT_0, if_pos (xin_nI (by omega) (by decide)), nI_clamp (by omega), g1, xlet_s, F5_dem1, xbT_0, if_pos (xin_nI (by omega) (by decide)), c1, xbV_s, xlet_s, xbV_s, zt, xbH_0, if_pos xin01, xlet_s, cl0, hσ1]
      have fr1 : ∀ i, i ≠ 46 → i ≠ 832 → ¬ (3 ≤ i ∧ i < 46) → σ1 i = σ i := fun i a b c => by
        rw [hσ1, xu_other b, xu_other (show i ≠ 0 + 46 by omega), c2 i (by omega)]
      have cp := pR_copy (σ := xu σ1 824 0 0) (n1 := 374) (a1 := 824 + 6) (n3 := 187) (a3 := 824 + 2) (x := 187 * s) (y := 0) (by omega) (by omega) (by omega) (by omega) (by decide)
      have a1 : (xu σ1 824 0 0) (824 + 2) = σ 826 := by rw [xu_other (by decide), fr1 826 (by decide) (by decide) (by omega)]
      have a3 : (xu σ1 824 0 0) (824 + 6) = σ 830 := by rw [xu_other (by decide), fr1 830 (by decide) (by decide) (by omega)]
      rw [a1, a3] at cp
      obtain ⟨σ2, hσ2⟩ : ∃ y, y = xu (xset (xu σ1 824 0 0) (824 + 2) (rCp (σ 830) (σ 826) (187 * s) 0 187)) 824 7 0 := ⟨_, rfl⟩
      have fr2 : ∀ i, i ≠ 46 → i ≠ 832 → i ≠ 824 → i ≠ 826 → ¬ (3 ≤ i ∧ i < 46) → σ2 i = σ i := fun i a b c d f => by
        rw [hσ2, xu_other c, xset_other (show i ≠ 824 + 2 by omega), xu_other c, fr1 i a b f]
      have e826 : ∀ i, i < 187 → σ2 826 i = σ 830 (187 * s + i) := fun i hi => by
        rw [hσ2, xu_other (by decide), xset_same (a := 824 + 2)]
        unfold rCp
        rw [if_pos (by omega), Nat.sub_zero]
      have e824 : ∀ j, j ≠ 0 → j ≠ 7 → σ2 824 j = σ 824 j := fun j a b => by
        rw [hσ2, xu_same, up_n b, xset_other (by decide), xu_same, up_n a, fr1 824 (by decide) (by decide) (by omega)]
      refine ⟨0, σ1, σ 830 (187 * s + 1), σ2, cl, ?_, ?_, fun _ => ?_, ?_, hX.ex (fr2 2 (by decide) (by decide) (by decide) (by decide) (by omega)) (fr2 825 (by decide) (by decide) (by decide) (by decide) (by omega)) ?_ (e824 2 (by decide) (by decide)), ?_, hK.ex (fun i hi => fr2 i (by omega) (by omega) (by omega) (by omega) (by omega))⟩
      · have e5 : σ2 (824 + 2) 1 = σ 830 (187 * s + 1) := e826 1 (by decide)
        have g2 : σ1 (824 + 7) s = 1 := by rw [fr1 _ (by decide) (by decide) (by omega)]; exact g2
        unfold F_X6_restore
        rw [hI, xbI_s, xjn_s, if_pos (by decide), if_pos (xin_nI (by omega) (by decide)), nI_clamp (by omega), g2, xlet_s, if_pos (by decide)]; dsimp only; rw [pR_ref0, xbI_s, if_pos rfl, show (187 : Int32) * nI s = nI (187 * s) from pk_mul 187 s, show F_X6_copyState 374 (824 + 6) (nI (187 * s)) 187 (824 + 2) 0 (xu σ1 824 0 0) = _ from cp, xbV_s, xlet_s, ← hσ2, if_pos xin_1, xlet_s, cl_1, e5]
      · rw [hσ2, xu_same, up_n (by decide), xset_other (by decide), xu_same, up_s]
      · rw [hσ2, xu_other (by decide), xset_other (by decide), xu_other (by decide), hσ1, xu_same, up_s]
      · refine (c3.ex (σ2 := σ2) (fun i a b => ?_)).c187 e826
        rw [hσ2, xu_other (by omega), xset_other (by omega), xu_other (by omega), hσ1, xu_other (by omega), xu_other (by omega)]
      · rw [fr2 1 (by decide) (by decide) (by decide) (by decide) (by omega)]
      · obtain ⟨c, x, h1, h2, h3, h4, h5, h6⟩ := hM
        refine ⟨0, x, by omega, h2, ?_, ?_, ?_, fun j hj => absurd hj (by omega)⟩
        · rw [hσ2, xu_other (by decide), xset_other (by decide), xu_other (by decide), hσ1, xu_other (by decide), xu_same (o := 0 + 46), up_s]; rfl
        · rw [hσ2, xu_other (by decide), xset_other (by decide), xu_other (by decide), hσ1, xu_other (by decide), xu_same (o := 0 + 46), up_n (by decide), c2 _ (by omega)]; exact h4
        · rw [hσ2, xu_same, up_s]; rfl
  · refine yC_thr (c := 1) (b := 0) h ?_ ?_ (by decide)
    · unfold F_L_restore F_X5_restore
      rw [pF_within2, if_pos (show x < 0 ∨ 1 < x from hx), xbI_s, F5_dem01, xbT_1, xbH_1, if_pos (by decide)]
    · unfold F_X6_restore
      rw [show F_X6_in x.toInt64 0 1 σ = _ from pR_in (a := 0) (b := 1), if_pos (show x < 0 ∨ 1 < x from hx), xbI_s, xjn_s, if_neg (by decide)]; dsimp only; rw [pR_ref1, xbI_s, if_neg (by decide)]
theorem y_undo {T W : Nat} {σ : xS} (h : yR T W σ) : yC T W (F_L_undo 0 832) (F_X6_undo 824) σ := by
  obtain ⟨hS, hX, ⟨c, x, h1, h2, h3, h4, h5, h6⟩, hK⟩ := id h
  have h3 : σ (0 + 46) 2 = nI c := h3
  have h4 : σ (0 + 46) 1 = nI x := h4
  by_cases c0 : c = 0
  · subst c0
    refine yC_thr (c := 1) (b := 0) h ?_ ?_ (by decide)
    · unfold F_L_undo F_X5_undo
      rw [xjn_s, h3, if_pos (by decide)]; dsimp only; rw [F5_dem03, xbT_3, xbH_3, if_pos (by decide)]
    · unfold F_X6_undo
      rw [xjn_s, h5, if_neg (by decide)]; dsimp only; rw [pR_ref1, xbI_s, if_neg (by decide)]
  · obtain ⟨x2, hx2⟩ : ∃ y, y = (x + 13) % 14 := ⟨_, rfl⟩
    have ix : (x + 14 - c + (c - 1)) % 14 = x2 := by omega
    have g3 := h6 (c - 1) (by omega)
    rw [ix] at g3
    obtain ⟨σa, hσa⟩ : ∃ y, y = xu (xu σ (0 + 46) 1 (nI x2)) (0 + 46) 2 (nI (c - 1)) := ⟨_, rfl⟩
    have fra : ∀ i, i ≠ 46 → σa i = σ i := fun i a => by rw [hσa, xu_other (show i ≠ 0 + 46 by omega), xu_other (show i ≠ 0 + 46 by omega)]
    have sa1 : σa (0 + 46) 1 = nI x2 := by rw [hσa, xu_same, up_n (by decide), xu_same, up_s]
    obtain ⟨z, c1, c2, c3⟩ := (show yS σa (0 + 46 + 2 + 43 * x2) (fun i => σ 829 (187 * (c - 1) + i)) T W from g3.ex (fun i a b => fra i (by omega))).copy (p := 0 + 3) (by omega)
    have zc : z (0 + 46) 2 = nI (c - 1) := by rw [c2 _ (by omega), hσa, xu_same, up_s]
    obtain ⟨σ1, hσ1⟩ : ∃ y, y = xu z 832 0 (nI (c - 1)) := ⟨_, rfl⟩
    have mod : (nI x + 14 - 1) - (nI x + 14 - 1) / 14 * 14 = nI x2 := by
      rw [show nI x + 14 = nI (x + 14) from nI_add x 14, nI_s1 (by omega), show x + 14 - 1 = x + 13 by omega, show (14 : Int32) = nI 14 from rfl, pk_rem (by omega) (by decide) (by decide), hx2]
    have cl : F_L_undo 0 832 σ = some (0, σ1) := by
      have e1 : ∀ v, (xu σ (0 + 46) 1 v) (0 + 46) 2 = nI c := fun v => by rw [xu_same, up_n (by decide), h3]
      unfold F_L_undo F_X5_undo F_X1_takeBack
      rw [xjn_s, h3, if_neg (nI_nle (by omega) (by omega))]; dsimp only; rw [F5_dem1, xbT_0, h3, if_neg (nI_nle (by omega) (by omega)), h4, mod, xlet_s, e1, nI_s1 (by omega), xlet_s, ← hσa, sa1, if_neg (nI_pos (by omega)), if_neg (nI_ge (a := x2) (b := 14) (by omega) (by decide)), if_pos (xin_nI (by omega) (by decide)), nI_clamp (by omega), c1, xbV_s, xbV_s, zc, xbH_0, if_pos xin01, xlet_s, cl0, hσ1]
    have fr1 : ∀ i, i ≠ 46 → i ≠ 832 → ¬ (3 ≤ i ∧ i < 46) → σ1 i = σ i := fun i a b c => by
      rw [hσ1, xu_other b, c2 i (by omega), fra i a]
    obtain ⟨σb, hσb⟩ : ∃ y, y = xu (xu σ1 824 0 0) 824 7 (nI (c - 1)) := ⟨_, rfl⟩
    have frb : ∀ i, i ≠ 824 → σb i = σ1 i := fun i a => by rw [hσb, xu_other a, xu_other a]
    have cp := pR_copy (σ := σb) (n1 := 2618) (a1 := 824 + 5) (n3 := 187) (a3 := 824 + 2) (x := 187 * (c - 1)) (y := 0) (by omega) (by omega) (by omega) (by omega) (by decide)
    have a1 : σb (824 + 2) = σ 826 := by rw [frb _ (by decide), fr1 826 (by decide) (by decide) (by omega)]
    have a3 : σb (824 + 5) = σ 829 := by rw [frb _ (by decide), fr1 829 (by decide) (by decide) (by omega)]
    rw [a1, a3] at cp
    obtain ⟨σ2, hσ2⟩ : ∃ y, y = xset σb (824 + 2) (rCp (σ 829) (σ 826) (187 * (c - 1)) 0 187) := ⟨_, rfl⟩
    have fr2 : ∀ i, i ≠ 46 → i ≠ 832 → i ≠ 824 → i ≠ 826 → ¬ (3 ≤ i ∧ i < 46) → σ2 i = σ i := fun i a b c d f => by
      rw [hσ2, xset_other (show i ≠ 824 + 2 by omega), frb i c, fr1 i a b f]
    have e826 : ∀ i, i < 187 → σ2 826 i = σ 829 (187 * (c - 1) + i) := fun i hi => by
      rw [hσ2, xset_same (a := 824 + 2)]
      unfold rCp
      rw [if_pos (by omega), Nat.sub_zero]
    have e7 : σ2 824 7 = nI (c - 1) := by rw [hσ2, xset_other (by decide), hσb, xu_same, up_s]
    refine ⟨0, σ1, nI (c - 1), σ2, cl, ?_, ?_, fun _ => ?_, ?_, hX.ex (fr2 2 (by decide) (by decide) (by decide) (by decide) (by omega)) (fr2 825 (by decide) (by decide) (by decide) (by decide) (by omega)) ?_ ?_, ?_, hK.ex (fun i hi => fr2 i (by omega) (by omega) (by omega) (by omega) (by omega))⟩
    · have e9 : σ1 824 7 = nI c := by rw [fr1 824 (by decide) (by decide) (by omega), h5]
      have e10 : (xu σ1 824 0 0) 824 7 = nI c := by rw [xu_same, up_n (by decide), e9]
      have e8 : σb 824 7 = nI (c - 1) := by rw [hσb, xu_same, up_s]
      unfold F_X6_undo
      rw [xjn_s, e9, if_pos (nI_ne0 (by omega) (by omega))]; dsimp only; rw [pR_ref0, xbI_s, if_pos rfl, e10, nI_s1 (by omega), xlet_s, ← hσb, e8, show (187 : Int32) * nI (c - 1) = nI (187 * (c - 1)) from pk_mul 187 (c - 1), show F_X6_copyState 2618 (824 + 5) (nI (187 * (c - 1))) 187 (824 + 2) 0 σb = _ from cp, xbV_s, ← hσ2, e7]
    · rw [hσ2, xset_other (by decide), hσb, xu_same, up_n (by decide), xu_same, up_s]
    · rw [hσ2, xset_other (by decide), frb _ (by decide), hσ1, xu_same, up_s]
    · refine (c3.ex (σ2 := σ2) (fun i a b => ?_)).c187 e826
      rw [hσ2, xset_other (by omega), frb i (by omega), hσ1, xu_other (by omega)]
    · rw [fr2 1 (by decide) (by decide) (by decide) (by decide) (by omega)]
    · rw [hσ2, xset_other (by decide), hσb, xu_same, up_n (by decide), xu_same, up_n (by decide), fr1 824 (by decide) (by decide) (by omega)]
    · have f46 : σ2 46 = σa 46 := by rw [hσ2, xset_other (by decide), frb _ (by decide), hσ1, xu_other (by decide), c2 _ (by omega)]
      refine ⟨c - 1, x2, by omega, by omega, ?_, ?_, e7, fun j hj => ?_⟩
      · rw [f46]; rw [hσa]; rw [xu_same (o := 0 + 46), up_s]
      · rw [f46]; exact sa1
      · have ij : (x2 + 14 - (c - 1) + j) % 14 = (x + 14 - c + j) % 14 := by omega
        rw [ij, fr2 829 (by decide) (by decide) (by decide) (by decide) (by omega)]
        exact (h6 j (by omega)).ex (fun i a b => fr2 i (by omega) (by omega) (by omega) (by omega) (by omega))
/-! remembering -/
theorem pM_rem {σ : xS} {c x T W : Nat} {r : Nat → Int32} (h1 : c ≤ 14) (h2 : x < 14) (h3 : σ 46 2 = nI c) (h4 : σ 46 1 = nI x) (hS : yS σ 3 r T W) : ∃ z, F_X1_remember (0 + 46) (0 + 3) σ = some z ∧ (∀ i, i ≠ 46 → ¬ (48 + 43 * x ≤ i ∧ i < 48 + 43 * x + 43) → z i = σ i) ∧ z 46 1 = nI ((x + 1) % 14) ∧ z 46 2 = nI (if c = 14 then 14 else c + 1) ∧ yS z (48 + 43 * x) r T W := by
  have h3 : σ (0 + 46) 2 = nI c := h3
  have h4 : σ (0 + 46) 1 = nI x := h4
  obtain ⟨z, c1, c2, c3⟩ := (show yS σ (0 + 3) r T W from hS).copy (p := 0 + 46 + 2 + 43 * x) (by omega)
  have z1 : z (0 + 46) 1 = nI x := by rw [c2 _ (by omega), h4]
  have z2 : ∀ v, (xu z (0 + 46) 1 v) (0 + 46) 2 = nI c := fun v => by rw [xu_same, up_n (by decide), c2 _ (by omega), h3]
  have mod : (nI x + 1) - (nI x + 1) / 14 * 14 = nI ((x + 1) % 14) := by
    rw [nI_1, show (14 : Int32) = nI 14 from rfl, pk_rem (by omega) (by decide) (by decide)]
  refine ⟨xu (xu z (0 + 46) 1 (nI ((x + 1) % 14))) (0 + 46) 2 (nI (if c = 14 then 14 else c + 1)), ?_, fun i a b => ?_, ?_, ?_, c3.ex (fun i a b => ?_)⟩
  · unfold F_X1_remember
    rw [xjn_s, h4, if_neg (nI_pos (by omega)), if_neg (nI_ge (a := x) (b := 14) (by omega) (by decide)), if_pos (xin_nI (by omega) (by decide)), nI_clamp (by omega), c1, xbV_s]
    dsimp only
    rw [z1, mod, xlet_s, z2, nI_1]
    by_cases e : c = 14
    · subst e
      rw [if_pos (show (14 : Int32) < nI (14 + 1) by decide), xlet_s, xlet_s]
      rfl
    · rw [if_neg (show ¬ (14 : Int32) < nI (c + 1) from nI_nlt (a := 14) (b := c + 1) (by omega) (by decide)), xlet_s, xlet_s, if_neg e]
  · rw [xu_other (show i ≠ 0 + 46 by omega), xu_other (show i ≠ 0 + 46 by omega), c2 i (by omega)]
  · rw [xu_same (o := 0 + 46), up_n (by decide), xu_same (o := 0 + 46), up_s]
  · rw [xu_same (o := 0 + 46), up_s]
  · rw [xu_other (show i ≠ 0 + 46 by omega), xu_other (show i ≠ 0 + 46 by omega)]
def rSf (f : Nat → Int32) (j : Nat) : Nat → Int32 := fun i => if i < j then f (i + 187) else f i
theorem pL_X6_rem {σ : xS} {KK : xS → Option xS} {f : Nat → Int32} : ∀ (d j fuel : Nat), j + d = 2431 → d < fuel → L_X6_remember_11 824 KK fuel (nI j) (xset σ 829 (rSf f j)) = KK (xset σ 829 (rSf f 2431)) := by
  intro d
  induction d with
  | zero =>
    intro j fuel hj hf
    obtain ⟨g, rfl⟩ : ∃ g, fuel = g + 1 := ⟨fuel - 1, by omega⟩
    obtain rfl : j = 2431 := by omega
    rw [L_X6_remember_11, if_pos (by decide)]
  | succ d ih =>
    intro j fuel hj hf
    obtain ⟨g, rfl⟩ : ∃ g, fuel = g + 1 := ⟨fuel - 1, by omega⟩
    have e1 : (xset σ 829 (rSf f j)) (824 + 5) (j + 187) = f (j + 187) := by
      rw [xset_same (a := 824 + 5)]
      unfold rSf
      rw [if_neg (by omega)]
    have e2 : xu (xset σ 829 (rSf f j)) (824 + 5) j (f (j + 187)) = xset σ 829 (rSf f (j + 1)) := by
      refine (xu_xset (a := 829)).trans ?_
      refine congrArg (xset σ 829) (funext fun i => ?_)
      unfold rSf upd
      by_cases h : i = j
      · subst h; rw [if_pos rfl, if_pos (by omega)]
      · rw [if_neg h]
        dsimp only
        by_cases h2 : i < j
        · rw [if_pos h2, if_pos (by omega)]
        · rw [if_neg h2, if_neg (by omega)]
    rw [L_X6_remember_11, if_neg (show ¬ (2431 : Int32) ≤ nI j from nI_ge (a := j) (b := 2431) (by omega) (by decide)), show nI j + 187 = nI (j + 187) from nI_add j 187, if_pos (xin_nI (by omega) (by decide)), xlet_s, if_pos (xin_nI (by omega) (by decide)), xlet_s, xlet_s, nI_clamp (by omega), nI_clamp (by omega), e1, e2, nI_1]
    exact ih (j + 1) g (by omega) (by omega)
theorem pR_rem {σ : xS} {c : Nat} (h1 : c ≤ 14) (h5 : σ 824 7 = nI c) : ∃ z, F_X6_remember 824 σ = some z ∧ (∀ i, i ≠ 824 → i ≠ 829 → z i = σ i) ∧ (∀ j, j ≠ 7 → z 824 j = σ 824 j) ∧ z 824 7 = nI (if c = 14 then 14 else c + 1) ∧ ∀ j i, i < 187 → j < (if c = 14 then 14 else c + 1) → z 829 (187 * j + i) = if j = (if c = 14 then 14 else c + 1) - 1 then σ 826 i else if c = 14 then σ 829 (187 * (j + 1) + i) else σ 829 (187 * j + i) := by
  have fin : ∀ (s : xS) (a : Nat), a < 14 → s 824 7 = nI a → xbV (F_X6_copyState 187 (824 + 2) 0 2618 (824 + 5) (187 * (s 824 7)) s) (fun (σ2 : xS) => xlet (xu σ2 824 7 ((σ2 824 7) + 1)) (fun (σ3 : xS) => some σ3)) = some (xu (xset s (824 + 5) (rCp (s (824 + 2)) (s (824 + 5)) 0 (187 * a) 187)) 824 7 (nI (a + 1))) := by
    intro s a ha hs
    have cp := pR_copy (σ := s) (n1 := 187) (a1 := 824 + 2) (n3 := 2618) (a3 := 824 + 5) (x := 0) (y := 187 * a) (by omega) (by omega) (by omega) (by omega) (by decide)
    have e7 : (xset s (824 + 5) (rCp (s (824 + 2)) (s (824 + 5)) 0 (187 * a) 187)) 824 7 = nI a := by rw [xset_other (by decide), hs]
    rw [hs, show (187 : Int32) * nI a = nI (187 * a) from pk_mul 187 a, show F_X6_copyState 187 (824 + 2) 0 2618 (824 + 5) (nI (187 * a)) s = _ from cp, xbV_s, e7, nI_1, xlet_s]
  unfold F_X6_remember
  rw [xjn_s, h5]
  by_cases e : c = 14
  · subst e
    obtain ⟨s, hs⟩ : ∃ y, y = xu (xset σ 829 (rSf (σ 829) 2431)) 824 7 (nI 13) := ⟨_, rfl⟩
    have s7 : s 824 7 = nI 13 := by rw [hs, xu_same, up_s]
    have lp := pL_X6_rem (σ := σ) (f := σ 829) (KK := fun (σ6 : xS) => xlet (xu σ6 824 7 ((σ6 824 7) - 1)) (fun (σ7 : xS) => xbV (F_X6_copyState 187 (824 + 2) 0 2618 (824 + 5) (187 * (σ7 824 7)) σ7) (fun (σ2 : xS) => xlet (xu σ2 824 7 ((σ2 824 7) + 1)) (fun (σ3 : xS) => some σ3)))) 2431 0 3000 (by omega) (by omega)
    have e0 : xset σ 829 (rSf (σ 829) 0) = σ := by
      rw [show rSf (σ 829) 0 = σ 829 from funext fun i => if_neg (by omega), xset_self]
    have e7 : (xset σ 829 (rSf (σ 829) 2431)) 824 7 - 1 = nI 13 := by rw [xset_other (by decide), h5]; rfl
    rw [e0] at lp
    try dsimp only at lp
    rw [e7, xlet_s, ← hs, fin s 13 (by decide) s7] at lp
    rw [if_neg (by decide)]
    refine ⟨_, lp, fun i a b => ?_, fun j hj => ?_, ?_, fun j i hi hj => ?_⟩
    · rw [xu_other a, xset_other (show i ≠ 824 + 5 by omega), hs, xu_other a, xset_other b]
    · rw [xu_same, up_n hj, xset_other (by decide), hs, xu_same, up_n hj, xset_other (by decide)]
    · rw [xu_same, up_s]; rfl
    · rw [if_pos rfl] at hj
      rw [if_pos rfl, if_pos rfl, xu_other (by decide), xset_same (a := 824 + 5)]
      have a2 : s (824 + 2) = σ 826 := by rw [hs, xu_other (by decide), xset_other (by decide)]
      have a5 : s (824 + 5) = rSf (σ 829) 2431 := by rw [hs, xu_other (by decide), xset_same (a := 824 + 5)]
      rw [a2, a5]
      unfold rCp
      by_cases q : j = 14 - 1
      · rw [if_pos q, if_pos (by omega)]
        exact congrArg (σ 826) (by omega)
      · rw [if_neg q, if_neg (by omega)]
        unfold rSf
        rw [if_pos (by omega)]
        exact congrArg (σ 829) (by omega)
  · have ne : ¬ nI c = 14 := fun q => e ((nI_eq (a := c) (b := 14) (by omega) (by decide)).mp q)
    rw [if_pos ne]
    refine ⟨_, fin σ c (by omega) h5, fun i a b => ?_, fun j hj => ?_, ?_, fun j i hi hj => ?_⟩
    · rw [xu_other a, xset_other (show i ≠ 824 + 5 by omega)]
    · rw [xu_same, up_n hj, xset_other (by decide)]
    · rw [xu_same, up_s, if_neg e]
    · rw [if_neg e] at hj
      rw [if_neg e, if_neg e, xu_other (by decide), xset_same (a := 824 + 5)]
      unfold rCp
      by_cases q : j = c + 1 - 1
      · rw [if_pos q, if_pos (by omega)]
        exact congrArg (σ 826) (by omega)
      · rw [if_neg q, if_neg (by omega)]
/-- both have remembered -/
theorem yM_rem {σ σ2 : xS} {T W c x : Nat} (h1 : c ≤ 14) (h2 : x < 14) (h6 : ∀ j, j < c → yS σ (48 + 43 * ((x + 14 - c + j) % 14)) (fun i => σ 829 (187 * j + i)) T W)
    (k1 : σ2 46 1 = nI ((x + 1) % 14)) (k2 : σ2 46 2 = nI (if c = 14 then 14 else c + 1)) (k3 : σ2 824 7 = nI (if c = 14 then 14 else c + 1)) (k4 : ∀ i, 48 ≤ i → i < 650 → ¬ (48 + 43 * x ≤ i ∧ i < 48 + 43 * x + 43) → σ2 i = σ i) (k5 : yS σ2 (48 + 43 * x) (σ 826) T W) (k6 : ∀ j i, i < 187 → j < (if c = 14 then 14 else c + 1) → σ2 829 (187 * j + i) = if j = (if c = 14 then 14 else c + 1) - 1 then σ 826 i else if c = 14 then σ 829 (187 * (j + 1) + i) else σ 829 (187 * j + i)) : yM σ2 T W := by
  refine ⟨(if c = 14 then 14 else c + 1), (x + 1) % 14, by split <;> omega, by omega, k2, k1, k3, fun j hj => ?_⟩
  have k6 := fun i hi => k6 j i hi hj
  by_cases e : c = 14
  · subst e
    simp only [if_true] at hj k6 ⊢
    by_cases q : j = 14 - 1
    · have ij : ((x + 1) % 14 + 14 - 14 + j) % 14 = x := by omega
      rw [ij]
      exact k5.c187 (fun i hi => by rw [k6 i hi, if_pos q])
    · have ij : ((x + 1) % 14 + 14 - 14 + j) % 14 = (x + 14 - 14 + (j + 1)) % 14 := by omega
      rw [ij]
      refine ((h6 (j + 1) (by omega)).ex (fun i a b => k4 i (by omega) (by omega) ?_)).c187 (fun i hi => by rw [k6 i hi, if_neg q])
      omega
  · simp only [if_neg e] at hj k6 ⊢
    by_cases q : j = c + 1 - 1
    · have ij : ((x + 1) % 14 + 14 - (c + 1) + j) % 14 = x := by omega
      rw [ij]
      exact k5.c187 (fun i hi => by rw [k6 i hi, if_pos q])
    · have ij : ((x + 1) % 14 + 14 - (c + 1) + j) % 14 = (x + 14 - c + j) % 14 := by omega
      rw [ij]
      refine ((h6 j (by omega)).ex (fun i a b => k4 i (by omega) (by omega) ?_)).c187 (fun i hi => by rw [k6 i hi, if_neg q])
      omega
