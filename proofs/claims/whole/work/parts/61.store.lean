/-! append, clearText, save, restore, undo -/
/-- a call that never throws -/
def yD (T W : Nat) (F5 F6 : xS → Option (Int32 × xS)) (σ : xS) : Prop := ∃ a σ1 σ2, F5 σ = some (a, σ1) ∧ F6 σ1 = some (a, σ2) ∧ yR T W σ2
theorem nar_char {c : Nat} (h : c < 65536) : vp_nar .char (nI c) = nI c := by
  unfold vp_nar
  rw [(pk_charN h).1]
theorem i2c {c : Nat} (h : c < 65536) : ((nI c).toUInt32 % 65536).toInt32 = nI c := by
  rw [pk_char, pk_tn (by omega), Nat.mod_eq_of_lt h]
theorem y_append {T W : Nat} {σ : xS} (h : yR T W σ) (x : Int32) : yC T W (F_L_append 0 x 832) (F_X6_append 824 x) σ := by
  obtain ⟨hS, ⟨n, hn, x1, x2, x3⟩, hM, hK⟩ := id h
  have x1 : σ (0 + 1) 1 = nI n := x1
  rcases rng x 0 255 (by decide) (by decide) with ⟨c, -, hc, rfl⟩ | hx
  · by_cases h120 : n = 120
    · subst h120
      refine yC_thr (c := 2) (b := 0) h ?_ ?_ (by decide)
      · unfold F_L_append F_X5_append
        rw [show F_X5_isWithin (nI c) 0 255 σ = _ from pF_wiN (a := 0) (b := 255) (Nat.zero_le _) hc (by decide), xbI_s, F5_dem1, xbT_0, xjn_s, x1, if_pos (by decide)]; dsimp only; rw [F5_dem03, xbT_3, xbH_3, if_neg (by decide), if_pos (by decide)]
      · unfold F_X6_append
        rw [show F_X6_in (nI c).toInt64 0 255 σ = _ from pR_inN (a := 0) (b := 255) (Nat.zero_le _) hc (by decide), xbI_s, xjn_s, if_pos (by decide), x2, if_neg (by decide)]; dsimp only; rw [pR_ref2, xbI_s, if_neg (by decide)]
    · have hlt : ¬ (120 : Int32) ≤ nI n := nI_ge (a := n) (b := 120) (by omega) (by decide)
      obtain ⟨σa, ha⟩ : ∃ y, y = xu (xu σ 2 n (nI c)) 1 1 (nI (n + 1)) := ⟨_, rfl⟩
      have cl : F_L_append 0 (nI c) 832 σ = some (0, xu σa 832 0 (nI (n + 1))) := by
        have e1 : (xu σ (0 + 1 + 1) n (nI c)) (0 + 1) 1 = nI n := by rw [xu_other (by decide), x1]
        have e2 : (xu (xu σ (0 + 1 + 1) n (nI c)) (0 + 1) 1 (nI (n + 1))) (0 + 1) 1 = nI (n + 1) := by rw [xu_same, up_s]
        unfold F_L_append F_X5_append F_X4_addCharacter
        rw [show F_X5_isWithin (nI c) 0 255 σ = _ from pF_wiN (a := 0) (b := 255) (Nat.zero_le _) hc (by decide), xbI_s, F5_dem1, xbT_0, xjn_s, x1, if_neg hlt]; dsimp only; rw [F5_dem1, xbT_0, x1, if_neg (nI_pos (by omega)), if_neg (show ¬ nI 120 ≤ nI n from hlt), if_pos (xin_nI (by omega) (by decide)), nI_clamp (by omega), i2c (by omega), nar_char (by omega), xlet_s, xlet_s, e1, nI_1, xbV_s, e2, xbH_0, if_pos xin01, xlet_s, cl0, ha]
      have es : (xu (xu σa 832 0 (nI (n + 1))) 824 0 0) 824 2 = nI n := by rw [xu_same, up_n (by decide), xu_other (by decide), ha, xu_other (by decide), xu_other (by decide), x2]
      refine ⟨0, _, nI (n + 1), xu (xu (xu (xu σa 832 0 (nI (n + 1))) 824 0 0) 825 n (nI c)) 824 2 (nI (n + 1)), cl, ?_, ?_, fun _ => ?_, ?_⟩
      · have e3 : (xu (xu (xu σa 832 0 (nI (n + 1))) 824 0 0) (824 + 1) n (nI c)) 824 2 = nI n := by rw [xu_other (by decide), es]
        have e4 : ∀ s : xS, (xu s 824 2 (nI (n + 1))) 824 2 = nI (n + 1) := fun s => by rw [xu_same, up_s]
        have e5 : ¬ (xu σa 832 0 (nI (n + 1))) 824 2 = 120 := by
          rw [xu_other (by decide), ha, xu_other (by decide), xu_other (by decide), x2]
          exact fun q => h120 ((nI_eq (a := n) (b := 120) (by omega) (by decide)).mp q)
        unfold F_X6_append
        rw [show F_X6_in (nI c).toInt64 0 255 _ = _ from pR_inN (a := 0) (b := 255) (Nat.zero_le _) hc (by decide), xbI_s, xjn_s, if_pos (by decide), if_pos e5]; dsimp only; rw [pR_ref0, xbI_s, if_pos rfl, es, if_pos (xin_nI (by omega) (by decide)), nI_clamp (by omega), xlet_s, e3, nI_1, xlet_s, e4]
      · rw [xu_same, up_n (by decide), xu_other (by decide), xu_same, up_s]
      · rw [xu_other (by decide), xu_other (by decide), xu_other (by decide), xu_same, up_s]
      · have fr : ∀ i, i ≠ 1 → i ≠ 2 → i ≠ 832 → i ≠ 824 → i ≠ 825 → xu (xu (xu (xu σa 832 0 (nI (n + 1))) 824 0 0) 825 n (nI c)) 824 2 (nI (n + 1)) i = σ i := fun i a b c d e => by
          rw [xu_other d, xu_other e, xu_other d, xu_other c, ha, xu_other a, xu_other b]
        refine ⟨?_, ⟨n + 1, by omega, ?_, ?_, fun i hi => ?_⟩, hM.ex (fun i a b => fr i (by omega) (by omega) (by omega) (by omega) (by omega)) (fr _ (by decide) (by decide) (by decide) (by decide) (by decide)) ?_, hK.ex (fun i hi => fr i (by omega) (by omega) (by omega) (by omega) (by omega))⟩
        · rw [fr 826 (by decide) (by decide) (by decide) (by decide) (by decide)]
          exact hS.ex (fun i a b => fr i (by omega) (by omega) (by omega) (by omega) (by omega))
        · rw [xu_other (by decide), xu_other (by decide), xu_other (by decide), xu_other (by decide), ha, xu_same, up_s]
        · rw [xu_same, up_s]
        · have e2 : xu (xu (xu (xu σa 832 0 (nI (n + 1))) 824 0 0) 825 n (nI c)) 824 2 (nI (n + 1)) 2 = upd (σ 2) n (nI c) := by
            rw [xu_other (by decide), xu_other (by decide), xu_other (by decide), xu_other (by decide), ha, xu_other (by decide), xu_same]
          have e3 : xu (xu (xu (xu σa 832 0 (nI (n + 1))) 824 0 0) 825 n (nI c)) 824 2 (nI (n + 1)) 825 = upd (σ 825) n (nI c) := by
            rw [xu_other (by decide), xu_same, xu_other (by decide), xu_other (by decide), ha, xu_other (by decide), xu_other (by decide)]
          rw [e2, e3]
          by_cases q : i = n
          · subst q
            rw [up_s, up_s]
            exact ⟨rfl, c, hc, rfl⟩
          · rw [up_n q, up_n q]
            exact x3 i (by omega)
        · rw [xu_same, up_n (by decide), xu_other (by decide), xu_same, up_n (by decide), xu_other (by decide), ha, xu_other (by decide), xu_other (by decide)]
  · refine yC_thr (c := 1) (b := 0) h ?_ ?_ (by decide)
    · unfold F_L_append F_X5_append
      rw [pF_within2, if_pos (show x < 0 ∨ 255 < x from hx), xbI_s, F5_dem02, xbT_2, xbH_2, if_pos (by decide)]
    · unfold F_X6_append
      rw [show F_X6_in x.toInt64 0 255 σ = _ from pR_in (a := 0) (b := 255), if_pos (show x < 0 ∨ 255 < x from hx), xbI_s, xjn_s, if_neg (by decide)]; dsimp only; rw [pR_ref1, xbI_s, if_neg (by decide)]
theorem y_clear {T W : Nat} {σ : xS} (h : yR T W σ) : yD T W (F_X5_clearText 0) (F_X6_clearText 824) σ := by
  obtain ⟨hS, ⟨n, hn, x1, x2, x3⟩, hM, hK⟩ := id h
  have fr : ∀ i, i ≠ 1 → i ≠ 824 → xu (xu (xu σ (0 + 1) 1 0) 824 0 0) 824 2 0 i = σ i := fun i a b => by
    rw [xu_other b, xu_other b, xu_other a]
  refine ⟨nI n, xu σ (0 + 1) 1 0, xu (xu (xu σ (0 + 1) 1 0) 824 0 0) 824 2 0, ?_, ?_, ?_, ⟨0, by omega, ?_, ?_, fun i hi => absurd hi (by omega)⟩, hM.ex (fun i a b => fr i (by omega) (by omega)) (fr _ (by decide) (by decide)) ?_, hK.ex (fun i hi => fr i (by omega) (by omega))⟩
  · unfold F_X5_clearText
    rw [xlet_s, xlet_s, show σ (0 + 1) 1 = nI n from x1]
  · unfold F_X6_clearText
    rw [xlet_s, xlet_s, xlet_s, xu_same, up_n (by decide), xu_other (by decide), x2]
  · rw [fr 826 (by decide) (by decide)]
    exact hS.ex (fun i a b => fr i (by omega) (by omega))
  · rw [xu_other (by decide), xu_other (by decide), xu_same, up_s]; rfl
  · rw [xu_same, up_s]; rfl
  · rw [xu_same, up_n (by decide), xu_same, up_n (by decide), xu_other (by decide)]
theorem y_save {T W : Nat} {σ : xS} (h : yR T W σ) (x : Int32) : yC T W (F_L_save 0 x 832) (F_X6_save 824 x) σ := by
  obtain ⟨hS, hX, hM, hK⟩ := id h
  rcases rng x 0 1 (by decide) (by decide) with ⟨s, -, hs, rfl⟩ | hx
  · obtain ⟨z, c1, c2, c3⟩ := (show yS σ (0 + 3) (σ 826) T W from hS).copy (p := 0 + 738 + 43 * s) (by omega)
    have z3 : (xu z (0 + 651) s 1) (0 + 3) 1 = σ 826 1 := by
      rw [xu_other (by decide), c2 _ (by omega)]
      obtain ⟨m, t, tr, wt, sz, ms, L, w, h1, -, -, hQ⟩ := hS
      exact hQ.1.2.1
    have vn : vp_nar .boolean (1 : Int32) = 1 := by decide
    obtain ⟨σ1, hσ1⟩ : ∃ y, y = xu (xu z (0 + 651) s 1) 832 0 (σ 826 1) := ⟨_, rfl⟩
    have fr1 : ∀ i, i ≠ 651 → i ≠ 832 → ¬ (738 + 43 * s ≤ i ∧ i < 738 + 43 * s + 43) → σ1 i = σ i := fun i a b c => by
      rw [hσ1, xu_other b, xu_other (show i ≠ 0 + 651 by omega), c2 i (by omega)]
    have cl : F_L_save 0 (nI s) 832 σ = some (0, σ1) := by
      unfold F_L_save F_X5_save
      rw [show F_X5_isWithin (nI s) 0 1 σ = _ from pF_wiN (a := 0) (b := 1) (Nat.zero_le _) hs (by decide), xbI_s, F5_dem1, xbT_0, if_pos (xin_nI (by omega) (by decide)), nI_clamp (by omega), c1, xbV_s, if_pos (xin_nI (by omega) (by decide)), vn, xlet_s, z3, xbH_0, if_pos xin01, xlet_s, cl0, hσ1]
    have cp := pR_copy (σ := xu σ1 824 0 0) (n1 := 187) (a1 := 824 + 2) (n3 := 374) (a3 := 824 + 6) (x := 0) (y := 187 * s) (by omega) (by omega) (by omega) (by omega) (by decide)
    have a1 : (xu σ1 824 0 0) (824 + 2) = σ 826 := by rw [xu_other (by decide), fr1 826 (by decide) (by decide) (by omega)]
    have a3 : (xu σ1 824 0 0) (824 + 6) = σ 830 := by rw [xu_other (by decide), fr1 830 (by decide) (by decide) (by omega)]
    rw [a1, a3] at cp
    obtain ⟨σ2, hσ2⟩ : ∃ y, y = xu (xset (xu σ1 824 0 0) (824 + 6) (rCp (σ 826) (σ 830) 0 (187 * s) 187)) (824 + 7) s 1 := ⟨_, rfl⟩
    have fr2 : ∀ i, i ≠ 651 → i ≠ 832 → i ≠ 824 → i ≠ 830 → i ≠ 831 → ¬ (738 + 43 * s ≤ i ∧ i < 738 + 43 * s + 43) → σ2 i = σ i := fun i a b c d e f => by
      rw [hσ2, xu_other (show i ≠ 824 + 7 by omega), xset_other (show i ≠ 824 + 6 by omega), xu_other c, fr1 i a b f]
    refine ⟨0, σ1, σ 826 1, σ2, cl, ?_, ?_, fun _ => ?_, ?_, hX.ex (fr2 2 (by decide) (by decide) (by decide) (by decide) (by decide) (by omega)) (fr2 825 (by decide) (by decide) (by decide) (by decide) (by decide) (by omega)) ?_ ?_, hM.ex (fun i a b => fr2 i (by omega) (by omega) (by omega) (by omega) (by omega) (by omega)) (fr2 829 (by decide) (by decide) (by decide) (by decide) (by decide) (by omega)) ?_, fun s2 hs2 => ?_⟩
    · have e5 : σ2 (824 + 2) 1 = σ 826 1 := by rw [fr2 (824 + 2) (by decide) (by decide) (by decide) (by decide) (by decide) (by omega)]
      unfold F_X6_save
      rw [show F_X6_in (nI s).toInt64 0 1 σ1 = _ from pR_inN (a := 0) (b := 1) (Nat.zero_le _) hs (by decide), xbI_s, xjn_s, if_neg (by decide)]; dsimp only; rw [pR_ref0, xbI_s, if_pos rfl, show (187 : Int32) * nI s = nI (187 * s) from pk_mul 187 s, show F_X6_copyState 187 (824 + 2) 0 374 (824 + 6) (nI (187 * s)) (xu σ1 824 0 0) = _ from cp, xbV_s, if_pos (xin_nI (by omega) (by decide)), vn, nI_clamp (by omega), xlet_s, ← hσ2, if_pos xin_1, xlet_s, cl_1, e5]
    · rw [hσ2, xu_other (by decide), xset_other (by decide), xu_same, up_s]
    · rw [hσ2, xu_other (by decide), xset_other (by decide), xu_other (by decide), hσ1, xu_same, up_s]
    · rw [fr2 826 (by decide) (by decide) (by decide) (by decide) (by decide) (by omega)]
      exact hS.ex (fun i a b => fr2 i (by omega) (by omega) (by omega) (by omega) (by omega) (by omega))
    · rw [fr2 1 (by decide) (by decide) (by decide) (by decide) (by decide) (by omega)]
    · rw [hσ2, xu_other (by decide), xset_other (by decide), xu_same, up_n (by decide), fr1 824 (by decide) (by decide) (by omega)]
    · rw [hσ2, xu_other (by decide), xset_other (by decide), xu_same, up_n (by decide), fr1 824 (by decide) (by decide) (by omega)]
    · have e651 : σ2 651 = upd (σ 651) s 1 := by
        rw [hσ2, xu_other (by decide), xset_other (by decide), xu_other (by decide), hσ1, xu_other (by decide), xu_same (o := 0 + 651), c2 _ (by omega)]
      have e831 : σ2 831 = upd (σ 831) s 1 := by
        rw [hσ2, xu_same (o := 824 + 7), xset_other (by decide), xu_other (by decide), fr1 _ (by decide) (by decide) (by omega)]
      have e830 : σ2 830 = rCp (σ 826) (σ 830) 0 (187 * s) 187 := by
        rw [hσ2, xu_other (by decide), xset_same (a := 824 + 6)]
      rw [e651, e831, e830]
      by_cases e : s2 = s
      · subst e
        right
        refine ⟨up_s, up_s, ((c3.ex (σ2 := σ2) (fun i a b => ?_)).c187 (fun i hi => ?_))⟩
        · rw [hσ2, xu_other (by omega), xset_other (by omega), xu_other (by omega), hσ1, xu_other (by omega), xu_other (by omega)]
        · unfold rCp
          rw [if_pos (by omega)]
          congr 1
          omega
      · rw [up_n e, up_n e]
        rcases hK s2 hs2 with g | ⟨g1, g2, g3⟩
        · exact Or.inl g
        · refine Or.inr ⟨g1, g2, (g3.ex (σ2 := σ2) (fun i a b => fr2 i (by omega) (by omega) (by omega) (by omega) (by omega) (by omega))).c187 (fun i hi => ?_)⟩
          unfold rCp
          rw [if_neg (by omega)]
  · refine yC_thr (c := 1) (b := 0) h ?_ ?_ (by decide)
    · unfold F_L_save F_X5_save
      rw [pF_within2, if_pos (show x < 0 ∨ 1 < x from hx), xbI_s, F5_dem01, xbT_1, xbH_1, if_pos (by decide)]
    · unfold F_X6_save
      rw [show F_X6_in x.toInt64 0 1 σ = _ from pR_in (a := 0) (b := 1), if_pos (show x < 0 ∨ 1 < x from hx), xbI_s, xjn_s, if_pos rfl]; dsimp only; rw [pR_ref1, xbI_s, if_neg (by decide)]
