/-! WHAT HOLDS OF EACH POST -/
/-- the sum over the first rows -/
def pS (r : Nat → Int32) (w : Nat) : Nat → Int32
  | 0 => 0
  | k + 1 => pS r w k + rRow r k w
theorem pS_4 {r : Nat → Int32} {w m : Nat} (hm1 : 1 ≤ m) (hm : m ≤ 4) (h : ∀ k, m ≤ k → k < 4 → rRow r k w = 0) : pS r w m = rS4 r w := by
  have e4 : pS r w 4 = rS4 r w := rfl
  have s : ∀ k, m ≤ k → k < 4 → pS r w (k + 1) = pS r w k := fun k a b => by rw [pS, h k a b, Int32.add_zero]
  obtain e | e | e | e : m = 1 ∨ m = 2 ∨ m = 3 ∨ m = 4 := by omega
  · subst e; rw [← e4, s 3 (by omega) (by omega), s 2 (by omega) (by omega), s 1 (by omega) (by omega)]
  · subst e; rw [← e4, s 3 (by omega) (by omega), s 2 (by omega) (by omega)]
  · subst e; rw [← e4, s 3 (by omega) (by omega)]
  · subst e; exact e4
section ZSO
variable {A : zA} {T W : Nat}
/-- the letters of a writer -/
theorem sound_letters {x k t w o n c a d xx : Nat} {Tt F : Nat → Nat} {σ0 : xS} {A3 : zA} {w1 : Int32} {KK : Int32 → Int32 → Int32 → xS → Option (Int32 × xS)} (h : zAP A T W) (hk : k < mN (A.1 0)) (ht : t < 2 ^ 28) (k1 : xC1 (rRow A.1 k) w o n c a d xx Tt) (k2 : xC2 (rRow A.1 k) t (t + 1) o c a F) (zy : zY (rRow A.1 k) t t (t + 1) o c a d) (hK : ∀ z, zAM z x A → xfr σ0 z x (x + 824) → zW x σ0 w1 A3 (KK 1 (lSum (rRow A.1 k) (c - a) (o - (c - a))) (nI (o - (c - a))) z)) : ∀ (q i fuel lst : Nat) (σ : xS), i + q = o → q < fuel → lst < 2 ^ 31 → (i < o → lst ≤ F i) → zAM σ x A → xfr σ0 σ x (x + 824) → zW x σ0 w1 A3 (L_L_sound_86 x (nI t) (nI k) (nI o) KK fuel 1 (lSum (rRow A.1 k) (c - a) (i - (c - a))) (nI (i - (c - a))) (nI lst) (nI i) σ) := by
  have ho := k1.2.2.2.2.2.2.1
  have hca := k1.2.2.2.2.2.2.2.2.1
  have hac := k1.2.2.2.2.2.2.2.1
  have hm6 : mN (rRow A.1 k 6) = o := by rw [k1.1, mN_nI (by omega)]
  intro q
  induction q with
  | zero =>
    intro i fuel lst σ hi hf hl0 hl hσ hfr
    obtain ⟨g, rfl⟩ : ∃ g, fuel = g + 1 := ⟨fuel - 1, by omega⟩
    obtain rfl : i = o := by omega
    rw [L_L_sound_86, if_pos (nI_le (Nat.le_refl _) (by omega))]
    exact hK σ hσ hfr
  | succ q ih =>
    intro i fuel lst σ hi hf hl0 hl hσ hfr
    obtain ⟨g, rfl⟩ : ∃ g, fuel = g + 1 := ⟨fuel - 1, by omega⟩
    have hF : rRow A.1 k (15 + 2 * i + 1) = nI (F i) := k2.1 i (by omega)
    have hF9 : F i ≤ t + 9 := k2.2.2.2.2.1 i (by omega)
    obtain ⟨⟨s, hs, hs1, hs2⟩, f, hf1, hf2, hf3⟩ := zy.2.2.2.2.2.1 i (by omega)
    have hFf : F i = f := (nI_eq (by omega) hf3).mp (hF.symm.trans hf1)
    have hlF := hl (by omega)
    have cT : zL x (F_L_call x 5 (nI k) (nI i) 1) (nI (F i)) A A := by
      rw [← hF]
      exact zc_5 (z_letter (y := 1) h hk (by omega) (by omega)) (Or.inl rfl)
    have cS : zL x (F_L_call x 5 (nI k) (nI i) 0) (nI s) A A := by
      rw [← hs]
      exact zc_5 (z_letter (y := 0) h hk (by omega) (by omega)) (Or.inl rfl)
    -- behind the sums
    have go : ∀ (U C : Int32) (z : xS), U = lSum (rRow A.1 k) (c - a) (i + 1 - (c - a)) → C = nI (i + 1 - (c - a)) → zAM z x A → xfr σ0 z x (x + 824) → zW x σ0 w1 A3 (xjn (fun (σ62 : xS) => xlet (nI i + 1) (fun (zz70 : Int32) => L_L_sound_86 x (nI t) (nI k) (nI o) KK g 0 U C (nI (F i)) zz70 σ62))
 (fun (KK63 : xS → Option (Int32 × xS)) => if nI (F i) < nI lst then (KK63 z)
 else (xbI (F_L_call x 5 (nI k) (nI i) 0 z) (fun (zz66 : Int32) (σ65 : xS) => if zz66 ≤ 0 then (KK63 σ65)
 else (xbI (F_L_call x 5 (nI k) (nI i) 0 σ65) (fun (zz68 : Int32) (σ67 : xS) => if 100 ≤ zz68 then (KK63 σ67)
 else (if (nI t + 9) < nI (F i) then (KK63 σ67)
 else (if nI (F i) ≤ 0 then (KK63 σ67)
 else (xlet (nI i + 1) (fun (zz69 : Int32) => L_L_sound_86 x (nI t) (nI k) (nI o) KK g 1 U C (nI (F i)) zz69 σ67))))))))) ) := by
      intro U C z eU eC hz hzf
      subst eU eC
      rw [xjn_s, if_neg (nI_nlt hlF (by omega))]
      refine zs cS hz hzf (fun z hz hzf => ?_)
      rw [if_neg (nI_nle hs1 (by omega))]
      refine zs cS hz hzf (fun z hz hzf => ?_)
      rw [if_neg (show ¬ (100 : Int32) ≤ nI s from nI_ge (b := 100) (by omega) (by decide)), show nI t + 9 = nI (t + 9) from nI_add t 9, if_neg (nI_nlt hF9 (by omega)), if_neg (nI_nle (by omega) (by omega)), xlet_s, nI_1]
      exact ih (i + 1) g (F i) z (by omega) (by omega) (by omega) (fun q => k2.2.1 i (by omega)) hz hzf
    rw [L_L_sound_86, if_neg (nI_ge (by omega) (by omega)), if_neg (by decide)]
    refine zs cT hσ hfr (fun z hz hzf => ?_)
    rw [xjn_s]
    dsimp only
    by_cases e : F i ≤ t
    · have hic : i < c - a := by
        rcases Nat.lt_or_ge i (c - a) with q | q
        · exact q
        · have := k2.2.2.2.1 i q (by omega); omega
      rw [if_pos (nI_le e (by omega)), xlet_s, xjn_s]
      dsimp only
      rw [if_pos (nI_le e (by omega)), xlet_s]
      refine go _ _ z ?_ ?_ hz hzf
      · rw [show i - (c - a) = 0 by omega, show i + 1 - (c - a) = 0 by omega]; exact Int32.add_zero _
      · rw [show i - (c - a) = 0 by omega, show i + 1 - (c - a) = 0 by omega]; exact Int32.add_zero _
    · have hic : c - a ≤ i := by
        rcases Nat.lt_or_ge i (c - a) with q | q
        · have := k2.2.2.1 i q; omega
        · exact q
      rw [if_neg (nI_ge (by omega) (by omega))]
      refine zs cS hz hzf (fun z hz hzf => ?_)
      rw [xlet_s, xjn_s]
      dsimp only
      rw [if_neg (nI_ge (by omega) (by omega)), xlet_s]
      refine go _ _ z ?_ ?_ hz hzf
      · rw [show i + 1 - (c - a) = (i - (c - a)) + 1 by omega, lSum_end, show c - a + (i - (c - a)) = i by omega, hs]
      · rw [show i + 1 - (c - a) = (i - (c - a)) + 1 by omega]; exact nI_1 _
/-- the planned notes -/
theorem sound_planned {x m t L : Nat} {σ0 : xS} {A3 : zA} {w1 : Int32} {KK : Int32 → xS → Option (Int32 × xS)} (h : zAP A T W) (ht : t < 2 ^ 28) (hm4 : m ≤ 4) (hL8 : L ≤ 8) (hm : A.1 0 = nI m) (hL : A.1 2 = nI L) (hN : ∀ j, j < L → (∃ f, A.1 (7 + 3 * j) = nI f ∧ t < f ∧ f ≤ t + 99) ∧ rN A.1 m j) (hK : ∀ z, zAM z x A → xfr σ0 z x (x + 824) → zW x σ0 w1 A3 (KK 1 z)) : ∀ (q i fuel : Nat) (σ : xS), i + q = L → q < fuel → zAM σ x A → xfr σ0 σ x (x + 824) → zW x σ0 w1 A3 (L_L_sound_534 x (nI m) (nI t) KK fuel 1 (nI i) σ) := by
  have eL : mN (A.1 2) = L := by rw [hL, mN_nI (by omega)]
  have c2 : zL x (F_L_call x 2 2 0 0) (nI L) A A := by
    rw [← hL]
    exact zc_2 (z_about (i := 2) h (by omega)) (Or.inl rfl)
  intro q
  induction q with
  | zero =>
    intro i fuel σ hi hf hσ hfr
    obtain ⟨g, rfl⟩ : ∃ g, fuel = g + 1 := ⟨fuel - 1, by omega⟩
    rw [L_L_sound_534]
    refine zs c2 hσ hfr (fun z hz hzf => ?_)
    rw [if_pos (nI_le (by omega) (by omega))]
    exact hK z hz hzf
  | succ q ih =>
    intro i fuel σ hi hf hσ hfr
    obtain ⟨g, rfl⟩ : ∃ g, fuel = g + 1 := ⟨fuel - 1, by omega⟩
    obtain ⟨⟨f, f1, f2, f3⟩, k, s, n1, n2, n3⟩ := hN i (by omega)
    have c0 : zL x (F_L_call x 6 (nI i) 0 0) (nI f) A A := by
      rw [← f1]
      exact zc_6 (z_planned (y := 0) h (by omega) (by omega)) (Or.inl rfl)
    have c1 : zL x (F_L_call x 6 (nI i) 1 0) (nI k) A A := by
      rw [← n1]
      exact zc_6 (z_planned (y := 1) h (by omega) (by omega)) (Or.inl rfl)
    rw [L_L_sound_534]
    refine zs c2 hσ hfr (fun z hz hzf => ?_)
    rw [if_neg (nI_ge (by omega) (by omega)), if_neg (by decide)]
    refine zs c0 hz hzf (fun z hz hzf => ?_)
    rw [if_neg (nI_ge f2 (by omega)), show nI t + 99 = nI (t + 99) from nI_add t 99, if_neg (nI_nlt f3 (by omega))]
    refine zs c1 hz hzf (fun z hz hzf => ?_)
    rw [if_neg (nI_ge n2 (by omega)), xlet_s, nI_1]
    exact ih (i + 1) g z (by omega) (by omega) hz hzf
/-- the writers -/
theorem sound_writers {x m t tr wt sz ms L w : Nat} {σ0 : xS} {A3 : zA} {w1 : Int32} {KK : Int32 → Int32 → Int32 → Int32 → Int32 → xS → Option (Int32 × xS)} (h : zAP A T W) (hT : T < 80000) (hW : W < 6000000) (h1 : rOK A.1 m t tr wt sz ms L (rLo 0 m (t + 1)) w) (hv : zV A.1 m t) (ht : t ≤ T) (hw : w ≤ W) (hK : ∀ z, zAM z x A → xfr σ0 z x (x + 824) → zW x σ0 w1 A3 (KK (pS A.1 0 m) (pS A.1 6 m) (pS A.1 3 m) (pS A.1 8 m) 1 z)) : ∀ (q k fuel : Nat) (σ : xS), k + q = m → q < fuel → zAM σ x A → xfr σ0 σ x (x + 824) → zW x σ0 w1 A3 (L_L_sound_52 x (nI m) (nI t) KK fuel (pS A.1 0 k) (pS A.1 6 k) (pS A.1 3 k) (pS A.1 8 k) 1 (nI k) σ) := by
  have hm4 := h1.m4
  have em := h1.mm
  intro q
  induction q with
  | zero =>
    intro k fuel σ hi hf hσ hfr
    obtain ⟨g, rfl⟩ : ∃ g, fuel = g + 1 := ⟨fuel - 1, by omega⟩
    obtain rfl : k = m := by omega
    rw [L_L_sound_52, if_pos (nI_le (Nat.le_refl _) (by omega))]
    exact hK σ hσ hfr
  | succ q ih =>
    intro k fuel σ hi hf hσ hfr
    obtain ⟨g, rfl⟩ : ∃ g, fuel = g + 1 := ⟨fuel - 1, by omega⟩
    have hk : k < mN (A.1 0) := by omega
    have hJ := h1.2.2.1 k (by omega)
    rw [show rLo 0 m (t + 1) k = t + 1 from if_pos (by omega)] at hJ
    obtain ⟨o, n, c, a, d, xx, Tt, F, k1, k2, k3⟩ := hJ.1
    have zy := (hv.1 k (by omega)).to k1 (by omega)
    have hcap := k1.cap
    have ho := k1.2.2.2.2.2.2.1
    have hac := k1.2.2.2.2.2.2.2.1
    have hca := k1.2.2.2.2.2.2.2.2.1
    have haw := k1.2.2.2.2.2.2.2.2.2.1
    obtain ⟨y1, ⟨e, y2, y2'⟩, ⟨hh, y3, y3'⟩, ⟨v, y4, y4'⟩, y5, y6, y7, y8⟩ := id zy
    have w0 : zL x (F_L_call x 3 (nI k) 0 0) (rRow A.1 k 0) A A := zc_3 (z_writer (i := 0) h hk (by omega)) (Or.inl rfl)
    have w1_ : zL x (F_L_call x 3 (nI k) 1 0) (rRow A.1 k 6) A A := zc_3 (z_writer (i := 1) h hk (by omega)) (Or.inl rfl)
    have w3 : zL x (F_L_call x 3 (nI k) 3 0) (rRow A.1 k 2) A A := zc_3 (z_writer (i := 3) h hk (by omega)) (Or.inl rfl)
    have w4 : zL x (F_L_call x 3 (nI k) 4 0) (rRow A.1 k 3) A A := zc_3 (z_writer (i := 4) h hk (by omega)) (Or.inl rfl)
    have w5 : zL x (F_L_call x 3 (nI k) 5 0) (rRow A.1 k 4) A A := zc_3 (z_writer (i := 5) h hk (by omega)) (Or.inl rfl)
    have w6 : zL x (F_L_call x 3 (nI k) 6 0) (rRow A.1 k 5) A A := zc_3 (z_writer (i := 6) h hk (by omega)) (Or.inl rfl)
    have d0 : zL x (F_L_call x 4 (nI k) 0 0) (rRow A.1 k 8) A A := zc_4 (z_desk (i := 0) h hk (by omega)) (Or.inl rfl)
    have d1 : zL x (F_L_call x 4 (nI k) 1 0) (rRow A.1 k 9) A A := zc_4 (z_desk (i := 1) h hk (by omega)) (Or.inl rfl)
    have d2 : zL x (F_L_call x 4 (nI k) 2 0) (rRow A.1 k 10) A A := zc_4 (z_desk (i := 2) h hk (by omega)) (Or.inl rfl)
    have d3 : zL x (F_L_call x 4 (nI k) 3 0) (rRow A.1 k 11) A A := zc_4 (z_desk (i := 3) h hk (by omega)) (Or.inl rfl)
    have d4 : zL x (F_L_call x 4 (nI k) 4 0) (rRow A.1 k 12) A A := zc_4 (z_desk (i := 4) h hk (by omega)) (Or.inl rfl)
    have d5 : zL x (F_L_call x 4 (nI k) 5 0) (rRow A.1 k 13) A A := zc_4 (z_desk (i := 5) h hk (by omega)) (Or.inl rfl)
    have dn : zL x (F_L_call x 15 (nI k) 0 0) (rVal 0 (rFst (rTick 0 (mN (A.1 0))) (rDn k) 400 A.1)) A A := zc_15 (z_done h (by omega) (by omega) hk) (Or.inl rfl)
    have g1 : rRow A.1 k 6 = nI o := k1.1
    have g9 : rRow A.1 k 9 = nI c := k1.2.2.1
    have g5 : rRow A.1 k 5 = nI a := k1.2.2.2.1
    have g10 : rRow A.1 k 10 = nI d := k1.2.2.2.2.1
    have g13 : rRow A.1 k 13 = nI n := k1.2.1
    rw [L_L_sound_52, if_neg (nI_ge (by omega) (by omega)), if_neg (by decide)]
    refine zs w1_ hσ hfr (fun z hz hzf => ?_)
    rw [g1]
    have sl := fun (KK2 : Int32 → Int32 → Int32 → xS → Option (Int32 × xS)) hK2 => sound_letters (KK := KK2) (σ0 := σ0) (A3 := A3) (w1 := w1) h hk (by omega) k1 k2 zy hK2 o 0 7 0 z (by omega) (by omega) (by omega) (fun _ => Nat.zero_le _) hz hzf
    rw [show 0 - (c - a) = 0 by omega] at sl
    refine sl _ (fun z hz hzf => ?_)
    refine zs d2 hz hzf (fun z hz hzf => zs d3 hz hzf (fun z hz hzf => zs w0 hz hzf (fun z hz hzf => ?_)))
    rw [xlet_s, xlet_s]
    refine zs w4 hz hzf (fun z hz hzf => ?_)
    rw [xlet_s]
    refine zs d0 hz hzf (fun z hz hzf => ?_)
    rw [xlet_s, if_neg (by decide)]
    refine zs w3 hz hzf (fun z hz hzf => zs w0 hz hzf (fun z hz hzf => zs d0 hz hzf (fun z hz hzf => ?_)))
    rw [if_neg (fun p => p y7)]
    refine zs w4 hz hzf (fun z hz hzf => zs w6 hz hzf (fun z hz hzf => ?_))
    rw [if_neg (fun p => p (by rw [y5, g5, nI_add]))]
    refine zs w4 hz hzf (fun z hz hzf => zs d1 hz hzf (fun z hz hzf => ?_))
    rw [if_neg (fun p => p (by rw [y5, g9, nI_add]; congr 1; omega)), g10, if_neg (nI_pos (by omega)), if_neg (show ¬ (2 : Int32) ≤ nI d from nI_ge (b := 2) (by omega) (by decide)), xjn_s]
    dsimp only
    -- behind the desk's time
    have fin : ∀ z, zAM z x A → xfr σ0 z x (x + 824) → zW x σ0 w1 A3 (if 6 < nI o then (xlet (nI k + 1) (fun (zz119 : Int32) => L_L_sound_52 x (nI m) (nI t) KK g (pS A.1 0 k + rRow A.1 k 0) (pS A.1 6 k + nI o) (pS A.1 3 k + rRow A.1 k 3) (pS A.1 8 k + rRow A.1 k 8) 0 zz119 z))
 else (xbI (F_L_call x 4 (nI k) 5 0 z) (fun (zz121 : Int32) (σ120 : xS) => if nI o < zz121 then (xlet (nI k + 1) (fun (zz122 : Int32) => L_L_sound_52 x (nI m) (nI t) KK g (pS A.1 0 k + rRow A.1 k 0) (pS A.1 6 k + nI o) (pS A.1 3 k + rRow A.1 k 3) (pS A.1 8 k + rRow A.1 k 8) 0 zz122 σ120))
 else (xbI (F_L_call x 4 (nI k) 4 0 σ120) (fun (zz124 : Int32) (σ123 : xS) => xbI (F_L_call x 4 (nI k) 1 0 σ123) (fun (zz126 : Int32) (σ125 : xS) => if zz126 < zz124 then (xlet (nI k + 1) (fun (zz127 : Int32) => L_L_sound_52 x (nI m) (nI t) KK g (pS A.1 0 k + rRow A.1 k 0) (pS A.1 6 k + nI o) (pS A.1 3 k + rRow A.1 k 3) (pS A.1 8 k + rRow A.1 k 8) 0 zz127 σ125))
 else (xbI (F_L_call x 15 (nI k) 0 0 σ125) (fun (zz129 : Int32) (σ128 : xS) => xjn (fun (σ130 : xS) => xbI (F_L_call x 3 (nI k) 5 0 σ130) (fun (zz138 : Int32) (σ137 : xS) => if nI t < zz138 then (xlet (nI k + 1) (fun (zz139 : Int32) => L_L_sound_52 x (nI m) (nI t) KK g (pS A.1 0 k + rRow A.1 k 0) (pS A.1 6 k + nI o) (pS A.1 3 k + rRow A.1 k 3) (pS A.1 8 k + rRow A.1 k 8) 0 zz139 σ137))
 else (xlet (nI k + 1) (fun (zz140 : Int32) => L_L_sound_52 x (nI m) (nI t) KK g (pS A.1 0 k + rRow A.1 k 0) (pS A.1 6 k + nI o) (pS A.1 3 k + rRow A.1 k 3) (pS A.1 8 k + rRow A.1 k 8) 1 zz140 σ137))))
 (fun (KK131 : xS → Option (Int32 × xS)) => if ¬ zz129 = 0 then (KK131 σ128)
 else (if ¬ nI o = 0 then (xlet (nI k + 1) (fun (zz133 : Int32) => L_L_sound_52 x (nI m) (nI t) KK g (pS A.1 0 k + rRow A.1 k 0) (pS A.1 6 k + nI o) (pS A.1 3 k + rRow A.1 k 3) (pS A.1 8 k + rRow A.1 k 8) 0 zz133 σ128))
 else (xbI (F_L_call x 3 (nI k) 0 0 σ128) (fun (zz135 : Int32) (σ134 : xS) => if ¬ zz135 = 0 then (xlet (nI k + 1) (fun (zz136 : Int32) => L_L_sound_52 x (nI m) (nI t) KK g (pS A.1 0 k + rRow A.1 k 0) (pS A.1 6 k + nI o) (pS A.1 3 k + rRow A.1 k 3) (pS A.1 8 k + rRow A.1 k 8) 0 zz136 σ134))
 else (KK131 σ134))))))))))))) := by
      intro z hz hzf
      have last : ∀ z, zAM z x A → xfr σ0 z x (x + 824) → zW x σ0 w1 A3 (xbI (F_L_call x 3 (nI k) 5 0 z) (fun (zz138 : Int32) (σ137 : xS) => if nI t < zz138 then (xlet (nI k + 1) (fun (zz139 : Int32) => L_L_sound_52 x (nI m) (nI t) KK g (pS A.1 0 k + rRow A.1 k 0) (pS A.1 6 k + nI o) (pS A.1 3 k + rRow A.1 k 3) (pS A.1 8 k + rRow A.1 k 8) 0 zz139 σ137))
 else (xlet (nI k + 1) (fun (zz140 : Int32) => L_L_sound_52 x (nI m) (nI t) KK g (pS A.1 0 k + rRow A.1 k 0) (pS A.1 6 k + nI o) (pS A.1 3 k + rRow A.1 k 3) (pS A.1 8 k + rRow A.1 k 8) 1 zz140 σ137)))) := by
        intro z hz hzf
        refine zs w5 hz hzf (fun z hz hzf => ?_)
        rw [y3, if_neg (nI_nlt y3' (by omega)), xlet_s, nI_1, ← g1]
        exact ih (k + 1) g z (by omega) (by omega) hz hzf
      rw [if_neg (show ¬ (6 : Int32) < nI o from nI_nlt (a := 6) (by omega) (by decide))]
      refine zs d5 hz hzf (fun z hz hzf => ?_)
      rw [g13, if_neg (nI_nlt (by omega) (by omega))]
      refine zs d4 hz hzf (fun z hz hzf => zs d1 hz hzf (fun z hz hzf => ?_))
      rw [y2, g9, if_neg (nI_nlt (by omega) (by omega))]
      refine zs dn hz hzf (fun z hz hzf => ?_)
      rw [xjn_s]
      dsimp only
      by_cases e0 : rVal 0 (rFst (rTick 0 (mN (A.1 0))) (rDn k) 400 A.1) = 0
      · obtain ⟨p0, p6, -⟩ := rDn_s (rVal_z (by decide) e0)
        rw [if_neg (fun p => p e0), if_neg (fun p => p (by rw [← g1]; exact p6))]
        refine zs w0 hz hzf (fun z hz hzf => ?_)
        rw [if_neg (fun p => p p0)]
        exact last z hz hzf
      · rw [if_pos e0]
        exact last z hz hzf
    rcases y8 with ⟨z1, z2⟩ | ⟨z1, ww, z2, z3, z4⟩
    · rw [if_neg (fun p => p (by rw [z1]; rfl)), xjn_s]
      dsimp only
      rw [if_neg (fun p => p z2), if_neg (fun p => p rfl), xjn_s]
      dsimp only
      rw [if_pos z2]
      exact fin z hz hzf
    · rw [if_pos (show ¬ nI d = 0 from nI_ne0 (by omega) (by omega)), xjn_s]
      dsimp only
      rw [if_pos (show ¬ rRow A.1 k 11 = -1 by rw [z2]; exact nI_nm1 (by omega)), if_neg (fun p => p rfl), xjn_s]
      dsimp only
      rw [if_neg (show ¬ rRow A.1 k 11 = -1 by rw [z2]; exact nI_nm1 (by omega)), z2, if_neg (nI_ge (by omega) (by omega)), show nI t + 20 = nI (t + 20) from nI_add t 20, if_neg (nI_nlt z4 (by omega))]
      exact fin z hz hzf
theorem z_sound {x : Nat} (h : zAP A T W) (hT : T < 80000) (hW : W < 6000000) : zL x (F_L_sound x) 1 A A := by
  obtain ⟨m, t, tr, wt, sz, ms, L, w, h1, hv, ht, hw⟩ := id h.1
  obtain ⟨b1, b2, b3, b4, b5, b6, b7, b8, b9, b10⟩ := h1.1.b
  have ca : ∀ i : Nat, i ≤ 8 → zL x (F_L_call x 2 (nI i) 0 0) (abV A.1 i) A A := fun i hi => zc_2 (z_about h hi) (Or.inl rfl)
  have hz4 : ∀ w, rS w = 0 → pS A.1 w m = rS4 A.1 w := fun w hw => pS_4 b1 b2 (fun k a b => by rw [h1.2.2.2 k a b]; exact hw)
  refine zL_of (fun σ hσ => ?_)
  unfold F_L_sound
  refine zs (show zL x (F_L_call x 2 0 0 0) (A.1 0) A A from ca 0 (by omega)) hσ xfr.refl (fun z hz hzf => ?_)
  refine zs (show zL x (F_L_call x 2 1 0 0) (A.1 1) A A from ca 1 (by omega)) hz hzf (fun z hz hzf => ?_)
  refine zs (show zL x (F_L_call x 2 2 0 0) (A.1 2) A A from ca 2 (by omega)) hz hzf (fun z hz hzf => ?_)
  rw [xjn_s]
  dsimp only
  rw [h1.1.1, h1.1.2.1, h1.1.2.2.1, if_neg (show ¬ (8 : Int32) < nI L from nI_nlt (a := 8) (by omega) (by decide))]
  refine sound_writers h hT hW h1 hv ht hw (fun z hz hzf => ?_) m 0 5 z (by omega) (by omega) hz hzf
  refine sound_planned h (by omega) b2 b10 h1.1.1 h1.1.2.2.1 (fun j hj => ⟨hv.2 j (by rw [h1.LL]; exact hj), h1.2.1 j hj⟩) (fun z hz hzf => ?_) L 0 9 z (by omega) (by omega) hz hzf
  rw [if_neg (by decide)]
  refine zs (show zL x (F_L_call x 2 3 0 0) (rS4 A.1 0) A A from ca 3 (by omega)) hz hzf (fun z hz hzf => ?_)
  rw [if_neg (fun p => p (hz4 0 (by decide)).symm)]
  refine zs (show zL x (F_L_call x 2 4 0 0) (rS4 A.1 6) A A from ca 4 (by omega)) hz hzf (fun z hz hzf => ?_)
  rw [if_neg (fun p => p (hz4 6 (by decide)).symm)]
  refine zs (show zL x (F_L_call x 2 5 0 0) (rS4 A.1 3) A A from ca 5 (by omega)) hz hzf (fun z hz hzf => ?_)
  rw [if_neg (fun p => p (hz4 3 (by decide)).symm)]
  refine zs (show zL x (F_L_call x 2 7 0 0) (rS4 A.1 8) A A from ca 7 (by omega)) hz hzf (fun z hz hzf => ?_)
  rw [if_neg (fun p => p (hz4 8 (by decide)).symm)]
  exact zW_end hz hzf
end ZSO
