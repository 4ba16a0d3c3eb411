/-! runScript, simulate -/
def tE (j : Nat) : Nat := if j = 0 then 1 else if j = 1 then 100000 else if j = 2 then 10000000000 else 1000000000000000
def rSc (x : Nat) : Nat → Nat → (Nat → Int32) → Option Nat
  | 0, _, _ => none
  | q + 1, i, r => if (rCm (x / tE q % 100000 / 10000) (x / tE q % 100000 / 1000 % 10) (x / tE q % 100000 % 1000) r).1 = true then rSc x q (i + 1) (rCm (x / tE q % 100000 / 10000) (x / tE q % 100000 / 1000 % 10) (x / tE q % 100000 % 1000) r).2 else some i
def oV : Option Nat → Int32
  | none => -1
  | some i => nI i
def uE (q : Nat) : Nat := if q = 0 then 0 else tE (q - 1)
theorem tE_s {j : Nat} (h : j ≤ 2) : lN (tE j) * 100000 = lN (tE (j + 1)) := by
  have h3 : j = 0 ∨ j = 1 ∨ j = 2 := by omega
  rcases h3 with h | h | h <;> subst h <;> decide
theorem tE_d {q : Nat} (h : q ≤ 2) : lN (tE q) / 100000 = lN (uE q) := by
  have h3 : q = 0 ∨ q = 1 ∨ q = 2 := by omega
  rcases h3 with h | h | h <;> subst h <;> decide
theorem tE_d2 {q : Nat} (h : q ≤ 2) : lN (tE (q + 1)) / 100000 = lN (tE q) := by
  have h3 : q = 0 ∨ q = 1 ∨ q = 2 := by omega
  rcases h3 with h | h | h <;> subst h <;> decide
theorem tE_b {q : Nat} (h : q ≤ 3) : 0 < tE q ∧ tE q < 2 ^ 60 := by
  have h3 : q = 0 ∨ q = 1 ∨ q = 2 ∨ q = 3 := by omega
  rcases h3 with h | h | h | h <;> subst h <;> decide
theorem grp {x u : Nat} (hx : x < 2 ^ 63) (h0 : 0 < u) (hu : u < 2 ^ 63) : ((lN x / lN u) - (lN x / lN u) / 100000 * 100000).toInt32 = nI (x / u % 100000) := by
  have hd : x / u < 2 ^ 63 := Nat.lt_of_le_of_lt (Nat.div_le_self _ _) hx
  rw [pk_lDiv hx h0 hu, show (100000 : Int64) = lN 100000 from rfl, pk_lRem hd (by decide) (by decide), lN_i]
theorem pL_unit5 {N : Nat} {KK : Int64 → xS → Option xR} {σ : xS} (hN : N ≤ 3) : ∀ (q i fuel j : Nat), i + q = N → q < fuel → j + q ≤ 2 → L_X5_runScript_16 (nI N) KK fuel (lN (tE j)) (nI i) σ = KK (lN (tE (j + q))) σ := by
  intro q
  induction q with
  | zero =>
    intro i fuel j hi hf hj
    obtain ⟨g, rfl⟩ : ∃ g, fuel = g + 1 := ⟨fuel - 1, by omega⟩
    rw [L_X5_runScript_16, if_pos (nI_le (by omega) (by omega))]
    rfl
  | succ q ih =>
    intro i fuel j hi hf hj
    obtain ⟨g, rfl⟩ : ∃ g, fuel = g + 1 := ⟨fuel - 1, by omega⟩
    rw [L_X5_runScript_16, if_neg (nI_ge (by omega) (by omega)), xlet_s, xlet_s, tE_s (by omega), nI_1, ih (i + 1) g (j + 1) (by omega) (by omega) (by omega), show j + 1 + q = j + (q + 1) by omega]
theorem pL_unit6 {N : Nat} {KK : Int64 → xS → Option (Int32 × xS)} {σ : xS} (hN : N ≤ 3) : ∀ (q i fuel : Nat), i + q = N → q < fuel → L_X6_runScript_6 (nI N) KK fuel (lN (tE i)) (nI i) σ = KK (lN (tE N)) σ := by
  intro q
  induction q with
  | zero =>
    intro i fuel hi hf
    obtain ⟨g, rfl⟩ : ∃ g, fuel = g + 1 := ⟨fuel - 1, by omega⟩
    rw [L_X6_runScript_6, if_pos (nI_le (by omega) (by omega)), show i = N by omega]
  | succ q ih =>
    intro i fuel hi hf
    obtain ⟨g, rfl⟩ : ∃ g, fuel = g + 1 := ⟨fuel - 1, by omega⟩
    rw [L_X6_runScript_6, if_neg (nI_ge (by omega) (by omega)), if_neg (show ¬ (3 : Int32) ≤ nI i from nI_ge (a := i) (b := 3) (by omega) (by decide)), xlet_s, xlet_s, tE_s (by omega), nI_1, ih (i + 1) g (by omega) (by omega)]
theorem pL_unit6b {x : Int32} {KK : Int64 → xS → Option (Int32 × xS)} {σ : xS} : ∀ (q i fuel : Nat) (a : Int64), i + q = 3 → q < fuel → ∃ a2, L_X6_runScript_6 x KK fuel a (nI i) σ = KK a2 σ := by
  intro q
  induction q with
  | zero =>
    intro i fuel a hi hf
    obtain ⟨g, rfl⟩ : ∃ g, fuel = g + 1 := ⟨fuel - 1, by omega⟩
    obtain rfl : i = 3 := by omega
    rw [L_X6_runScript_6]
    by_cases h : x ≤ nI 3
    · exact ⟨a, by rw [if_pos h]⟩
    · exact ⟨a, by rw [if_neg h, if_pos (show (3 : Int32) ≤ nI 3 by decide)]⟩
  | succ q ih =>
    intro i fuel a hi hf
    obtain ⟨g, rfl⟩ : ∃ g, fuel = g + 1 := ⟨fuel - 1, by omega⟩
    rw [L_X6_runScript_6]
    by_cases h : x ≤ nI i
    · exact ⟨a, by rw [if_pos h]⟩
    · rw [if_neg h, if_neg (show ¬ (3 : Int32) ≤ nI i from nI_ge (a := i) (b := 3) (by omega) (by decide)), xlet_s, xlet_s, nI_1]
      exact ih (i + 1) g _ (by omega) (by omega)
theorem pL_scr5 {N x : Nat} (hN : N ≤ 3) (hx : x < 2 ^ 63) : ∀ (q i fuel T W : Nat) (r : Nat → Int32) (σ : xS), i + q = N → q < fuel → yS σ (0 + 652) r T W → T + 99 * q < 89000 → W + 7200 * q < 2 ^ 23 → ∃ z, L_X5_runScript_76 0 (nI N) (lN x) (fun (zz12 : Int32) (σ13 : xS) => some (0, zz12, σ13)) (fun (σ16 : xS) => some (0, (-1 : Int32), σ16)) fuel (lN (uE q)) (nI i) σ = some (0, oV (rSc x q i r), z) ∧ xfr σ z 652 738 := by
  intro q
  induction q with
  | zero =>
    intro i fuel T W r σ hi hf hS hT hW
    obtain ⟨g, rfl⟩ : ∃ g, fuel = g + 1 := ⟨fuel - 1, by omega⟩
    refine ⟨σ, ?_, xfr.refl⟩
    rw [L_X5_runScript_76, if_pos (nI_le (by omega) (by omega))]
    rfl
  | succ q ih =>
    intro i fuel T W r σ hi hf hS hT hW
    obtain ⟨g, rfl⟩ : ∃ g, fuel = g + 1 := ⟨fuel - 1, by omega⟩
    obtain ⟨t0, t1⟩ := tE_b (q := q) (by omega)
    have hu : uE (q + 1) = tE q := by unfold uE; rw [if_neg (by omega)]; rfl
    have l0 : ¬ lg_cmp (lN (tE q)) 0 ≤ 0 := by
      rw [lg_cmp_le, show (0 : Int64) = lN 0 from rfl, pk_lLE (by omega) (by decide)]
      omega
    have l1 : ¬ lN (tE q) = 0 := by
      rw [show (0 : Int64) = lN 0 from rfl, pk_lEQ (by omega) (by decide)]
      omega
    obtain ⟨gr, hg⟩ : ∃ y, y = x / tE q % 100000 := ⟨_, rfl⟩
    obtain ⟨z, e1, e2, e3⟩ := pC_cmd (g := gr) (by omega) hS (by omega) (by omega)
    rw [L_X5_runScript_76, if_neg (nI_ge (by omega) (by omega)), hu, if_neg l0, if_pos l1, grp hx t0 (by omega), ← hg, e1, xbI_s, rSc, ← hg]
    by_cases hb : (rCm (gr / 10000) (gr / 1000 % 10) (gr % 1000) r).1 = true
    · rw [if_pos hb, if_pos hb, if_pos (show ¬ (1 : Int32) = 0 by decide), tE_d (by omega), xlet_s, xlet_s, nI_1]
      obtain ⟨z2, f1, f2⟩ := ih (i + 1) g (T + 99) (W + 7200) _ z (by omega) (by omega) e3 (by omega) (by omega)
      exact ⟨z2, f1, e2.trans f2⟩
    · rw [if_neg hb, if_neg hb, if_neg (show ¬ ¬ (0 : Int32) = 0 by decide)]
      exact ⟨z, rfl, e2⟩
theorem pO_cm {h k th T W : Nat} {r : Nat → Int32} (hO : yO r T W) (hT : T < 89000) (hW : W < 2 ^ 23) : yO (rCm h k th r).2 (T + 99) (W + 7200) := by
  have keep : yO r (T + 99) (W + 7200) := by
    obtain ⟨m, t, tr, wt, sz, ms, L, w, h1, ht, hw⟩ := hO
    exact ⟨m, t, tr, wt, sz, ms, L, w, h1, by omega, by omega⟩
  unfold rCm
  split
  · split
    · rename_i c; exact pO_do hO (by omega) (by omega) (Or.inl ⟨rfl, c.2.2, c.1, c.2.1⟩)
    · exact keep
  split
  · split
    · rename_i c; exact pO_do hO (by omega) (by omega) (Or.inr (Or.inr (Or.inr (Or.inr ⟨rfl, c.2.1, c.2.2⟩))))
    · exact keep
  split
  · split
    · rename_i c; exact pO_do hO (by omega) (by omega) (Or.inr (Or.inr (Or.inl ⟨rfl, c.2, c.1⟩)))
    · exact keep
  split
  · split
    · rename_i c; exact pO_do hO (by omega) (by omega) (Or.inr (Or.inr (Or.inr (Or.inl ⟨rfl, c.2⟩))))
    · exact keep
  split
  · split
    · rename_i c
      obtain ⟨m, t, tr, wt, sz, ms, L, w, h1, ht, hw⟩ := hO
      obtain ⟨tr2, wt2, sz2, ms2, ok⟩ := h1.set (show rVOK k th from c)
      exact ⟨m, t, tr2, wt2, sz2, ms2, L, w, ok, by omega, by omega⟩
    · exact keep
  split
  · exact keep
  split
  · exact keep
  split
  · exact keep
  split
  · exact keep
  · exact keep
theorem pL_scr6 {N x : Nat} (hN : N ≤ 3) (hx : x < 2 ^ 63) : ∀ (q i fuel T W : Nat) (s : xS), i + q = N → q < fuel → yO (s (824 + 3)) T W → T + 99 * q < 89000 → W + 7200 * q < 2 ^ 23 → ∃ z, L_X6_runScript_86 824 (nI N) (lN x) (fun (zz10 : Int32) (σ11 : xS) => some (zz10, σ11)) (fun (σ14 : xS) => some ((-1 : Int32), σ14)) fuel (lN (tE q)) (nI i) s = some (oV (rSc x q i (s (824 + 3))), z) ∧ ∀ i, i ≠ 827 → i ≠ 828 → z i = s i := by
  intro q
  induction q with
  | zero =>
    intro i fuel T W s hi hf hO hT hW
    obtain ⟨g, rfl⟩ : ∃ g, fuel = g + 1 := ⟨fuel - 1, by omega⟩
    refine ⟨s, ?_, fun _ _ _ => rfl⟩
    rw [L_X6_runScript_86, if_pos (nI_le (by omega) (by omega))]
    rfl
  | succ q ih =>
    intro i fuel T W s hi hf hO hT hW
    obtain ⟨g, rfl⟩ : ∃ g, fuel = g + 1 := ⟨fuel - 1, by omega⟩
    obtain ⟨t0, t1⟩ := tE_b (q := q) (by omega)
    have l1 : ¬ lN (tE q) = 0 := by
      rw [show (0 : Int64) = lN 0 from rfl, pk_lEQ (by omega) (by decide)]
      omega
    obtain ⟨gr, hg⟩ : ∃ y, y = x / tE q % 100000 := ⟨_, rfl⟩
    obtain ⟨z, e1, e2, e3⟩ := pM_com (s := s) (h := gr / 10000) (k := gr / 1000 % 10) (th := gr % 1000) (by omega) (by omega) (by omega) hO (by omega) (by omega)
    have g1 : nI gr / 10000 = nI (gr / 10000) := by rw [show (10000 : Int32) = nI 10000 from rfl, pk_div (by omega) (by decide) (by decide)]
    have g2 : nI gr - nI gr / 10000 * 10000 = nI (gr / 1000 % 10 * 1000 + gr % 1000) := by
      rw [show (10000 : Int32) = nI 10000 from rfl, pk_rem (by omega) (by decide) (by decide)]
      exact congrArg nI (by omega)
    rw [L_X6_runScript_86, if_neg (nI_ge (by omega) (by omega)), tE_d2 (by omega), xlet_s, if_pos l1, grp hx t0 (by omega), ← hg, xlet_s, g2, g1, e1, xbI_s, rSc, ← hg]
    have hO2 : yO (z (824 + 3)) (T + 99) (W + 7200) := by rw [e2]; exact pO_cm hO (by omega) (by omega)
    by_cases hb : (rCm (gr / 10000) (gr / 1000 % 10) (gr % 1000) (s (824 + 3))).1 = true
    · rw [if_pos hb, if_pos hb, if_pos (show ¬ (1 : Int32) = 0 by decide), xlet_s, nI_1, ← e2]
      obtain ⟨z2, f1, f2⟩ := ih (i + 1) g (T + 99) (W + 7200) z (by omega) (by omega) hO2 (by omega) (by omega)
      exact ⟨z2, f1, fun i a b => (f2 i a b).trans (e3 i a b)⟩
    · rw [if_neg hb, if_neg hb, if_neg (show ¬ ¬ (0 : Int32) = 0 by decide)]
      exact ⟨z, rfl, e3⟩
theorem y_runScript {T W : Nat} {σ : xS} (h : yR T W σ) (hT : T < 80000) (hW : W < 6000000) (n : Int32) (x : Int64) : yC T W (F_L_runScript 0 n x 832) (F_X6_runScript 824 n x) σ := by
  have bad : ∀ K : Int64 → Prop, True := fun _ => trivial
  rcases rng n 1 3 (by decide) (by decide) with ⟨N, hN1, hN, rfl⟩ | hn
  · have u5 : ∀ (KK : Int64 → xS → Option xR) (s : xS), L_X5_runScript_16 (nI N) KK 1000 1 1 s = KK (lN (tE (N - 1))) s := fun KK s => by
      have q := pL_unit5 (KK := KK) (σ := s) hN (N - 1) 1 1000 0 (by omega) (by omega) (by omega)
      rw [Nat.zero_add] at q
      exact q
    have u6 : ∀ (KK : Int64 → xS → Option (Int32 × xS)) (s : xS), L_X6_runScript_6 (nI N) KK 1000 1 0 s = KK (lN (tE N)) s := fun KK s => pL_unit6 (KK := KK) (σ := s) hN N 0 1000 (by omega) (by omega)
    have hF : F_X5_isWithin (nI N) 1 3 σ = some (1, σ) := pF_wiN (a := 1) (b := 3) hN1 hN (by decide)
    have hI : ∀ s : xS, F_X6_in (nI N).toInt64 1 3 s = some (1, s) := fun s => pR_inN (a := 1) (b := 3) hN1 hN (by decide)
    obtain ⟨t0, t1⟩ := tE_b (q := N) (by omega)
    have eU : lN (tE (N - 1)) * 100000 = lN (tE N) := by rw [tE_s (by omega), show N - 1 + 1 = N by omega]
    have eU1 : lN (tE N) - 1 = lN (tE N - 1) := lN_sub (b := 1) (by omega)
    by_cases hneg : x < 0
    · refine yC_thr (c := 1) (b := 0) h ?_ ?_ (by decide)
      · unfold F_L_runScript F_X5_runScript
        rw [hF, xbI_s, F5_dem1, xbT_0, u5, xjn_s, xjn_s, if_pos ((lg_cmp_lt _ _).mpr hneg)]
        dsimp only
        rw [F5_dem02, xbT_2, xbH_2, if_pos (by decide)]
      · unfold F_X6_runScript
        rw [u6, hI, xbI_s, xjn_s, xjn_s, if_neg (show ¬ (1 : Int32) = 0 by decide)]
        unfold F_X6_in
        rw [if_pos ((lg_cmp_lt _ _).mpr hneg), xbI_s, if_pos (show (0 : Int32) = 0 from rfl)]
        dsimp only
        rw [pR_ref1, xbI_s, if_neg (by decide)]
    · obtain ⟨k, hk, rfl⟩ := pk_lOf hneg
      by_cases hkU : tE N ≤ k
      · refine yC_thr (c := 1) (b := 0) h ?_ ?_ (by decide)
        · unfold F_L_runScript F_X5_runScript
          rw [hF, xbI_s, F5_dem1, xbT_0, u5, xjn_s, xjn_s, if_neg (fun q => hneg ((lg_cmp_lt _ _).mp q)), eU, if_pos ((lg_cmp_ge _ _).mpr ((pk_lLE (by omega) hk).mpr hkU))]
          dsimp only
          rw [F5_dem02, xbT_2, xbH_2, if_pos (by decide)]
        · unfold F_X6_runScript
          rw [u6, hI, xbI_s, xjn_s, xjn_s, if_neg (show ¬ (1 : Int32) = 0 by decide)]
          unfold F_X6_in
          rw [if_neg (fun q => hneg ((lg_cmp_lt _ _).mp q)), eU1, if_pos ((lg_cmp_gt _ _).mpr ((pk_lLT (by omega) hk).mpr (by omega))), xbI_s, if_pos (show (0 : Int32) = 0 from rfl)]
          dsimp only
          rw [pR_ref1, xbI_s, if_neg (by decide)]
      · obtain ⟨r, hr⟩ : ∃ y, y = rCp (σ 826) (σ 827) 0 0 187 := ⟨_, rfl⟩
        have hr187 : ∀ i, i < 187 → r i = σ 826 i := fun i hi => by rw [hr]; exact rCp0 i hi
        have hSr : yS σ (0 + 3) r T W := (show yS σ (0 + 3) (σ 826) T W from h.1).c187 hr187
        obtain ⟨z, c1, c2, c3⟩ := hSr.copy (p := 0 + 652) (by omega)
        obtain ⟨z2, d1, d2⟩ := pL_scr5 hN hk N 0 1000 T W r z (by omega) (by omega) c3 (by omega) (by omega)
        have fr : xfr σ z2 652 738 := (c2.sub (by omega) (by omega)).trans d2
        have sz : ySame σ z2 := ySame.fr (lo := 652) (hi := 738) fr (Or.inl ⟨by omega, by omega⟩)
        obtain ⟨v, hv⟩ : ∃ y, y = oV (rSc k N 0 r) := ⟨_, rfl⟩
        rw [← hv] at d1
        have eu : uE N = tE (N - 1) := by unfold uE; rw [if_neg (by omega)]
        rw [eu] at d1
        obtain ⟨s, hs⟩ : ∃ y, y = xu z2 832 0 v := ⟨_, rfl⟩
        have s826 : s 826 = σ 826 := by rw [hs, xu_other (by decide), sz.1 826 (by omega)]
        have s827 : s 827 = σ 827 := by rw [hs, xu_other (by decide), fr 827 (by omega)]
        have cp := pS_cp (s := xu s 824 0 0) (f := σ 826) (g := σ 827) (by rw [xu_other (by decide)]; exact s826) (by rw [xu_other (by decide)]; exact s827)
        rw [← hr] at cp
        obtain ⟨z3, u1, u2⟩ := pL_scr6 hN hk N 0 1000 T W (xset (xu s 824 0 0) (824 + 3) r) (by omega) (by omega) (by rw [xset_same]; exact hSr.o) (by omega) (by omega)
        rw [xset_same, ← hv] at u1
        refine yC_ahead (z := z2) (v := v) (σ2 := z3) h ?_ sz ?_ ?_ ?_ ?_
        · unfold F_L_runScript F_X5_runScript
          rw [hF, xbI_s, F5_dem1, xbT_0, u5, xjn_s, xjn_s, if_neg (fun q => hneg ((lg_cmp_lt _ _).mp q)), eU, if_neg (fun q => hkU ((pk_lLE (by omega) hk).mp ((lg_cmp_ge _ _).mp q)))]
          dsimp only
          rw [F5_dem1, xbT_0, c1, xbV_s, show L_X5_runScript_76 0 (nI N) (lN k) _ _ 1000 (lN (tE (N - 1))) 0 z = _ from d1, xbH_0, if_pos xin01, xlet_s, cl0]
        · rw [← hs]
          unfold F_X6_runScript
          rw [u6, hI, xbI_s, xjn_s, xjn_s, if_neg (show ¬ (1 : Int32) = 0 by decide)]
          have hin : F_X6_in (lN k) 0 (lN (tE N) - 1) s = some (1, s) := by
            unfold F_X6_in
            rw [if_neg (fun q => hneg ((lg_cmp_lt _ _).mp q)), eU1, if_neg (fun q => by
              have := (pk_lLT (by omega) hk).mp ((lg_cmp_gt _ _).mp q)
              omega)]
          rw [hin, xbI_s, if_neg (show ¬ (1 : Int32) = 0 by decide)]
          dsimp only
          rw [pR_ref0, xbI_s, if_pos (show (0 : Int32) = 0 from rfl), cp, xbV_s]
          exact u1
        · rw [u2 824 (by decide) (by decide)]; exact trial0
        · rw [u2 832 (by decide) (by decide), trial8, hs]
        · rw [← hs]
          exact ySame.trial.trans ⟨fun i hi => u2 i (by omega) (by omega), by rw [u2 1 (by decide) (by decide)], by rw [u2 824 (by decide) (by decide)], by rw [u2 824 (by decide) (by decide)]⟩
  · refine yC_thr (c := 1) (b := 0) h ?_ ?_ (by decide)
    · unfold F_L_runScript F_X5_runScript
      rw [pF_within2, if_pos (show n < 1 ∨ 3 < n from hn), xbI_s, F5_dem02, xbT_2, xbH_2, if_pos (by decide)]
    · have e13 : ∀ s : xS, F_X6_in n.toInt64 1 3 s = some (0, s) := fun s => by
        rw [show F_X6_in n.toInt64 1 3 s = _ from pR_in (a := 1) (b := 3), if_pos (show n < 1 ∨ 3 < n from hn)]
      unfold F_X6_runScript
      obtain ⟨a2, e⟩ := pL_unit6b (x := n) (σ := σ) (KK := fun (zz1 : Int64) (σ2 : xS) => xbI (F_X6_in n.toInt64 1 3 σ2) (fun (zz4 : Int32) (σ3 : xS) => xjn (fun (zz5 : Int32) (σ6 : xS) => xbI (F_X6_refused 824 zz5 σ6) (fun (zz8 : Int32) (σ7 : xS) => if zz8 = 0 then (xbV (F_X6_copyState 187 (824 + 2) 0 187 (824 + 3) 0 σ7) (fun (σ9 : xS) => L_X6_runScript_86 824 n x (fun (zz10 : Int32) (σ11 : xS) => some (zz10, σ11)) (fun (σ14 : xS) => some ((-1 : Int32), σ14)) 1000 zz1 0 σ9)) else (some ((0 : Int32), σ7)))) (fun (KK29 : Int32 → xS → Option (Int32 × xS)) => xjn (fun (σ31 : xS) => KK29 1 σ31) (fun (KK32 : xS → Option (Int32 × xS)) => if zz4 = 0 then (KK32 σ3) else (xbI (F_X6_in x 0 (zz1 - 1) σ3) (fun (zz35 : Int32) (σ34 : xS) => if zz35 = 0 then (KK32 σ34) else (KK29 0 σ34))))))) 3 0 1000 1 (by decide) (by decide)
      refine (show _ = _ from e).trans ?_
      rw [e13, xbI_s, xjn_s, xjn_s, if_pos (show (0 : Int32) = 0 from rfl)]
      dsimp only
      rw [pR_ref1, xbI_s, if_neg (by decide)]
