theorem rFst_187 {r r2 : Nat → Int32} {m t tr wt sz ms L W k : Nat} {lo : Nat → Nat} (h : rOK r m t tr wt sz ms L lo W) (hk : k < m) (e : ∀ i, i < 187 → r2 i = r i) (d : Nat) : rFst (rTick 0 m) (rDn k) d r2 = rFst (rTick 0 m) (rDn k) d r := by
  have hm4 := h.m4
  refine rFst_eq (T := rTick 0 m) (T2 := rTick 0 m) (E := rEq k) (fun _ _ h => h.tick (Nat.zero_le _) hk (Nat.zero_le _) hk) (fun _ _ h => h.dn) d r r2 ⟨fun i hi => e i (by omega), rRow_187 e (by omega), ?_⟩
  rw [h.LL]
  exact h.L8
theorem rFst_min {T : (Nat → Int32) → (Nat → Int32)} {P : (Nat → Int32) → Bool} {r : Nat → Int32} {M : Nat} (hM : M ≤ 400) : (rFst T P M r).isSome = (match rFst T P 400 r with | none => false | some j => decide (j ≤ M)) := by
  cases h : rFst T P 400 r with
  | none =>
    cases h2 : rFst T P M r with
    | none => rfl
    | some j => exact absurd ((rFst_le _ _ _ h2).2 400 (by have := (rFst_le _ _ _ h2).1; omega)) (by rw [h]; simp)
  | some j =>
    by_cases hj : j ≤ M
    · rw [(rFst_le _ _ _ h).2 M hj]
      simp [hj]
    · cases h2 : rFst T P M r with
      | none => simp [hj]
      | some j2 =>
        exfalso
        have h3 := (rFst_le _ _ _ h2).2 400 (by have := (rFst_le _ _ _ h2).1; omega)
        rw [h] at h3
        have := Option.some.inj h3
        have := (rFst_le _ _ _ h2).1
        omega
theorem pM_com {s : xS} {T W h k th : Nat} (hh : h ≤ 9) (hk : k ≤ 9) (hth : th ≤ 999) (hO : yO (s (824 + 3)) T W) (hT : T < 89000) (hW : W < 2 ^ 23) : ∃ z, F_X6_command 824 (nI h) (nI (k * 1000 + th)) s = some (if (rCm h k th (s (824 + 3))).1 = true then 1 else 0, z) ∧ z (824 + 3) = (rCm h k th (s (824 + 3))).2 ∧ ∀ i, i ≠ 827 → i ≠ 828 → z i = s i := by
  obtain ⟨m, t, tr, wt, sz, ms, L, w, h1, ht, hw⟩ := hO
  have hm4 := h1.m4
  have hm1 : 1 ≤ m := h1.1.2.2.2.2.2.2.2.1
  have hL8 := h1.L8
  have em := h1.mm
  obtain ⟨r, hr⟩ : ∃ y, y = s (824 + 3) := ⟨_, rfl⟩
  obtain ⟨four, hf⟩ : ∃ y, y = k * 1000 + th := ⟨_, rfl⟩
  have e1 : nI four / 1000 = nI k := by
    rw [show (1000 : Int32) = nI 1000 from rfl, pk_div (by omega) (by decide) (by decide), show four / 1000 = k by omega]
  have e2 : nI four - nI four / 1000 * 1000 = nI th := by
    rw [show (1000 : Int32) = nI 1000 from rfl, pk_rem (by omega) (by decide) (by decide), show four % 1000 = th by omega]
  have keep : ∀ b : Bool, b = false → ∃ z, some ((0 : Int32), s) = some (if b = true then (1 : Int32) else 0, z) ∧ z (824 + 3) = r ∧ ∀ i, i ≠ 827 → i ≠ 828 → z i = s i := fun b hb => ⟨s, by rw [hb]; rfl, hr.symm, fun _ _ _ => rfl⟩
  have st : ∀ r2 : Nat → Int32, ∃ z, some ((1 : Int32), xset s (824 + 3) r2) = some (if true = true then (1 : Int32) else 0, z) ∧ z (824 + 3) = r2 ∧ ∀ i, i ≠ 827 → i ≠ 828 → z i = s i := fun r2 => ⟨_, rfl, xset_same, fun i a _ => xset_other (show i ≠ 824 + 3 by omega)⟩
  obtain ⟨z4, hz4, hz5⟩ : ∃ z4 : Int32, F_X6_isWriter 187 (824 + 3) (nI k) s = some (z4, s) ∧ ((k < m ∧ z4 = 1) ∨ (¬ k < m ∧ z4 = 0)) := by
    by_cases c : k < m
    · exact ⟨1, pS_isW1 h1 c, Or.inl ⟨c, rfl⟩⟩
    · exact ⟨0, pS_isW0 h1 (rBad_ge c (by omega)), Or.inr ⟨c, rfl⟩⟩
  rw [← hf, ← hr]
  have h1r : rOK r m t tr wt sz ms L (rLo 0 m (t + 1)) w := by rw [hr]; exact h1
  have emr : mN (r 0) = m := by rw [hr]; exact em
  unfold F_X6_command
  rw [xlet_s, xlet_s, e2, e1, hz4, xbI_s]
  have hcase : h = 0 ∨ h = 1 ∨ h = 2 ∨ h = 3 ∨ h = 4 ∨ h = 5 ∨ h = 6 ∨ h = 7 ∨ h = 8 ∨ h = 9 := by omega
  rcases hcase with c | c | c | c | c | c | c | c | c | c <;> subst c
  · have er : rCm 0 k th r = (false, r) := rfl
    rw [er, if_neg (by decide), if_neg (by decide), if_neg (by decide), if_neg (by decide), if_neg (by decide), if_neg (by decide), if_neg (by decide), if_neg (by decide), if_neg (by decide)]
    exact keep false rfl
  · have er : rCm 1 k th r = (if 1 ≤ th ∧ th ≤ 500 ∧ k ≤ 3 then rDo 1 k th 0 r else (false, r)) := rfl
    rw [er, if_pos (show nI 1 = 1 from rfl)]
    rcases hz5 with ⟨ck, q⟩ | ⟨ck, q⟩
    · rw [q, if_neg (show ¬ (1 : Int32) = 0 by decide)]
      by_cases cn : 1 ≤ th ∧ th ≤ 500
      · have hN : F_X6_isNote (nI th) s = some (1, s) := by
          rw [pR_isNote, if_neg]
          intro q
          rcases q with q | q
          · exact nI_nlt (a := th) (b := 1) cn.1 (by omega) q
          · exact nI_nlt (a := 500) (b := th) cn.2 (by decide) q
        rw [if_pos (show 1 ≤ th ∧ th ≤ 500 ∧ k ≤ 3 from ⟨cn.1, cn.2, by omega⟩), hN, xbI_s, if_neg (show ¬ (1 : Int32) = 0 by decide), pS_can (by omega), ← hr]
        unfold rDo
        rw [if_pos (show 1 = 1 from rfl), emr]
        by_cases c9 : (9999 : Int32) < rRow r k 0 + nI th
        · rw [if_pos c9, xbI_s, if_pos (show (0 : Int32) = 0 from rfl), if_neg (show ¬ (k < m ∧ ¬ (9999 : Int32) < rRow r k 0 + nI th) from fun p => p.2 c9)]
          exact keep false rfl
        · obtain ⟨j, hj, ej⟩ := rW_6 h1r ck cn.2 c9
          rw [if_neg c9, xbI_s, if_neg (show ¬ (1 : Int32) = 0 by decide), pS_write h1 ck, ← hr, xbI_s, ej, if_neg (nI_pos (by omega)), if_pos (show k < m ∧ ¬ (9999 : Int32) < rRow r k 0 + nI th from ⟨ck, c9⟩)]
          exact st _
      · rw [if_neg (show ¬ (1 ≤ th ∧ th ≤ 500 ∧ k ≤ 3) from fun p => cn ⟨p.1, p.2.1⟩), pR_isNote, if_pos, xbI_s, if_pos (show (0 : Int32) = 0 from rfl)]
        · exact keep false rfl
        · by_cases c5 : 500 < th
          · exact Or.inr (nI_lt (a := 500) (b := th) c5 (by omega))
          · exact Or.inl (nI_lt (a := th) (b := 1) (by omega) (by decide))
    · rw [q, if_pos (show (0 : Int32) = 0 from rfl)]
      by_cases cn : 1 ≤ th ∧ th ≤ 500 ∧ k ≤ 3
      · rw [if_pos cn]
        unfold rDo
        rw [if_pos (show 1 = 1 from rfl), emr, if_neg (show ¬ (k < m ∧ ¬ (9999 : Int32) < rRow r k 0 + nI th) from fun p => ck p.1)]
        exact keep false rfl
      · rw [if_neg cn]; exact keep false rfl
  · have er : rCm 2 k th r = (if k = 0 ∧ 1 ≤ th ∧ th ≤ 99 then rDo 5 th 0 0 r else (false, r)) := rfl
    rw [er, if_neg (show ¬ nI 2 = 1 by decide), if_pos (show nI 2 = 2 from rfl)]
    by_cases q : k = 0 ∧ 1 ≤ th ∧ th ≤ 99
    · have h4 : four = th := by omega
      have et : s (824 + 3) 1 = nI t := h1.1.2.1
      rw [if_pos q, h4]
      unfold F_X6_mayTick
      rw [show F_X6_in (nI th).toInt64 1 99 s = _ from pR_inN (a := 1) (b := 99) q.2.1 q.2.2 (by decide), xbI_s, if_neg (show ¬ (1 : Int32) = 0 by decide), if_pos xin_1, xlet_s, cl_1, et, nI_add, if_neg (show ¬ (99999 : Int32) < nI (t + th) from nI_nlt (a := 99999) (b := t + th) (by omega) (by decide)), xbI_s, if_neg (show ¬ (1 : Int32) = 0 by decide), pS_ticks (by omega) (by omega) (by omega) h1, ← hr, xbI_s]
      obtain ⟨S, s1, s2⟩ := pK_signs (Nat.le_refl m) (Nat.zero_le m) th t L w r (by omega) (by omega) h1r
      have e6 : ∀ x y : Int32, x + y - x = y := by intro x y; grind
      unfold rDo
      rw [s2, e6, if_neg (nI_pos (by omega)), if_neg (show ¬ 5 = 1 by decide), if_neg (show ¬ 5 = 2 by decide), if_neg (show ¬ 5 = 3 by decide), if_neg (show ¬ 5 = 4 by decide), emr]
      exact st _
    · rw [if_neg q]
      unfold F_X6_mayTick
      have hin : F_X6_in (nI four).toInt64 1 99 s = some (0, s) := by
        rw [show F_X6_in (nI four).toInt64 1 99 s = _ from pR_in (a := 1) (b := 99), if_pos]
        by_cases c5 : 99 < four
        · exact Or.inr (nI_lt (a := 99) (b := four) c5 (by omega))
        · exact Or.inl (nI_lt (a := four) (b := 1) (by omega) (by decide))
      rw [hin, xbI_s, if_pos (show (0 : Int32) = 0 from rfl), xbI_s, if_pos (show (0 : Int32) = 0 from rfl)]
      exact keep false rfl
  · have er : rCm 3 k th r = (if th ≤ 1 ∧ k ≤ 3 then rDo 3 k th 0 r else (false, r)) := rfl
    rw [er, if_neg (show ¬ nI 3 = 1 by decide), if_neg (show ¬ nI 3 = 2 by decide), if_pos (show nI 3 = 3 from rfl)]
    have dn : ¬ k < m → ∀ x, (if th ≤ 1 ∧ k ≤ 3 then rDo 3 k th 0 r else (false, r)) = x → x = (false, r) := fun ck x hx => by
      rw [← hx]
      by_cases q : th ≤ 1 ∧ k ≤ 3
      · rw [if_pos q]
        unfold rDo
        rw [if_neg (show ¬ 3 = 1 by decide), if_neg (show ¬ 3 = 2 by decide), if_pos (show 3 = 3 from rfl), emr, if_neg ck]
      · rw [if_neg q]
    rcases hz5 with ⟨ck, q⟩ | ⟨ck, q⟩
    · rw [q, if_neg (show ¬ (1 : Int32) = 0 by decide)]
      by_cases c1 : th ≤ 1
      · rw [if_neg (show ¬ (2 : Int32) ≤ nI th from nI_ge (a := th) (b := 2) (by omega) (by decide)), if_pos (show th ≤ 1 ∧ k ≤ 3 from ⟨c1, by omega⟩)]
        obtain ⟨j, hj, ej⟩ := rHold_6 h1r ck (b01 c1)
        unfold rDo
        rw [if_neg (show ¬ 3 = 1 by decide), if_neg (show ¬ 3 = 2 by decide), if_pos (show 3 = 3 from rfl), emr, if_pos ck, xjn_s]
        have hold : ∀ v, v = nI th → F_X6_holdOn 187 (824 + 3) (nI k) v s = some (nI j, xset s (824 + 3) (rHold r k (nI th))) := fun v hv => by
          rw [hv, pS_hold h1 ck (b01 c1), ← hr, ej]
        obtain e | e : th = 0 ∨ th = 1 := by omega
        · rw [if_pos (show ¬ nI th = 1 by rw [e]; decide)]
          try dsimp only
          rw [hold 0 (by rw [e]; rfl), xbI_s, if_neg (nI_pos (by omega))]
          exact st _
        · rw [if_neg (show ¬ ¬ nI th = 1 by rw [e]; decide)]
          try dsimp only
          rw [hold 1 (by rw [e]; rfl), xbI_s, if_neg (nI_pos (by omega))]
          exact st _
      · rw [if_pos (show (2 : Int32) ≤ nI th from nI_le (a := 2) (b := th) (by omega) (by omega)), if_neg (show ¬ (th ≤ 1 ∧ k ≤ 3) from fun p => c1 p.1)]
        exact keep false rfl
    · rw [q, if_pos (show (0 : Int32) = 0 from rfl), dn ck _ rfl]
      exact keep false rfl
  · have er : rCm 4 k th r = (if th = 0 ∧ k ≤ 3 then rDo 4 k 0 0 r else (false, r)) := rfl
    rw [er, if_neg (show ¬ nI 4 = 1 by decide), if_neg (show ¬ nI 4 = 2 by decide), if_neg (show ¬ nI 4 = 3 by decide), if_pos (show nI 4 = 4 from rfl)]
    have dn : ¬ k < m → ∀ x, (if th = 0 ∧ k ≤ 3 then rDo 4 k 0 0 r else (false, r)) = x → x = (false, r) := fun ck x hx => by
      rw [← hx]
      by_cases q : th = 0 ∧ k ≤ 3
      · rw [if_pos q]
        unfold rDo
        rw [if_neg (show ¬ 4 = 1 by decide), if_neg (show ¬ 4 = 2 by decide), if_neg (show ¬ 4 = 3 by decide), if_pos (show 4 = 4 from rfl), emr, if_neg ck]
      · rw [if_neg q]
    rcases hz5 with ⟨ck, q⟩ | ⟨ck, q⟩
    · rw [q, if_neg (show ¬ (1 : Int32) = 0 by decide)]
      by_cases c1 : th = 0
      · obtain ⟨j, hj, ej⟩ := rFlush_6 h1r ck
        rw [if_neg (show ¬ ¬ nI th = 0 from fun p => p (by rw [c1]; rfl)), if_pos (show th = 0 ∧ k ≤ 3 from ⟨c1, by omega⟩), pS_flush h1 ck, ← hr, xbI_s, ej, if_neg (nI_pos (by omega))]
        unfold rDo
        rw [if_neg (show ¬ 4 = 1 by decide), if_neg (show ¬ 4 = 2 by decide), if_neg (show ¬ 4 = 3 by decide), if_pos (show 4 = 4 from rfl), emr, if_pos ck]
        exact st _
      · rw [if_pos (show ¬ nI th = 0 from nI_ne0 (by omega) (by omega)), if_neg (show ¬ (th = 0 ∧ k ≤ 3) from fun p => c1 p.1)]
        exact keep false rfl
    · rw [q, if_pos (show (0 : Int32) = 0 from rfl), dn ck _ rfl]
      exact keep false rfl
  · have er : rCm 5 k th r = (if (k = 0 ∧ 1 ≤ th ∧ th ≤ 9) ∨ (k = 1 ∧ th ≤ 20) ∨ (k = 2 ∧ 4 ≤ th ∧ th ≤ 99) ∨ (k = 3 ∧ 1 ≤ th ∧ th ≤ 6) then (true, rSet r k (nI th)) else (false, r)) := rfl
    rw [er, if_neg (show ¬ nI 5 = 1 by decide), if_neg (show ¬ nI 5 = 2 by decide), if_neg (show ¬ nI 5 = 3 by decide), if_neg (show ¬ nI 5 = 4 by decide), if_pos (show nI 5 = 5 from rfl)]
    by_cases q : (k = 0 ∧ 1 ≤ th ∧ th ≤ 9) ∨ (k = 1 ∧ th ≤ 20) ∨ (k = 2 ∧ 4 ≤ th ∧ th ≤ 99) ∨ (k = 3 ∧ 1 ≤ th ∧ th ≤ 6)
    · have hv : rVOK k th := q
      have hk4 := hv.w4
      have ex : xu s (824 + 3) (3 + k) (nI th) = xset s (824 + 3) (rSet r k (nI th)) := by
        have q := xu_xset (σ := s) (a := 824 + 3) (k := 3 + k) (r := s (824 + 3)) (v := nI th)
        rw [xset_self, ← hr] at q
        exact q
      rw [if_pos q, if_neg (show ¬ (99 : Int32) < nI th from nI_nlt (a := 99) (b := th) (by omega) (by decide)), pR_isSet hv, xbI_s, if_pos (show ¬ (1 : Int32) = 0 by decide), show (3 : Int32) + nI k = nI (3 + k) from nI_add 3 k, if_pos (xin_nI (by omega) (by decide)), nI_clamp (by omega), xlet_s, ex]
      exact st _
    · rw [if_neg q]
      by_cases c9 : 99 < th
      · rw [if_pos (show (99 : Int32) < nI th from nI_lt (a := 99) (b := th) c9 (by omega))]
        exact keep false rfl
      · rw [if_neg (show ¬ (99 : Int32) < nI th from nI_nlt (a := 99) (b := th) (by omega) (by decide))]
        rcases rVal_or (nI k) (nI th) with ⟨i, j, v1, v2, v3⟩ | ⟨v2, -⟩
        · exfalso
          have hi4 := v1.w4
          have hj : j ≤ 99 := by unfold rVOK at v1; omega
          obtain rfl : k = i := (nI_eq (by omega) (by omega)).mp v2
          obtain rfl : th = j := (nI_eq (by omega) (by omega)).mp v3
          exact q v1
        · rw [v2, xbI_s, if_neg (show ¬ ¬ (0 : Int32) = 0 by decide)]
          exact keep false rfl
  · have er : rCm 6 k th r = (decide (th < 100 ∧ k < mN (r 0) ∧ rRow r k 6 ≤ nI th), r) := rfl
    rw [er, emr, if_neg (show ¬ nI 6 = 1 by decide), if_neg (show ¬ nI 6 = 2 by decide), if_neg (show ¬ nI 6 = 3 by decide), if_neg (show ¬ nI 6 = 4 by decide), if_neg (show ¬ nI 6 = 5 by decide), if_pos (show nI 6 = 6 from rfl)]
    refine ⟨s, ?_, hr.symm, fun _ _ _ => rfl⟩
    rcases hz5 with ⟨ck, q⟩ | ⟨ck, q⟩
    · rw [q, if_neg (show ¬ (1 : Int32) = 0 by decide)]
      by_cases c1 : th < 100
      · rw [if_neg (show ¬ (100 : Int32) ≤ nI th from nI_ge (a := th) (b := 100) c1 (by decide)), show F_X6_of 187 (824 + 3) (nI k) 6 s = _ from pS_of (w := 6) (by omega) (by decide), ← hr, xbI_s]
        by_cases q2 : rRow r k 6 ≤ nI th
        · rw [if_neg (Int32.not_lt.mpr q2), if_pos (decide_eq_true ⟨c1, ck, q2⟩)]
        · rw [if_pos (Int32.not_le.mp q2), if_neg (fun p => q2 (of_decide_eq_true p).2.2)]
      · rw [if_pos (show (100 : Int32) ≤ nI th from nI_le (a := 100) (b := th) (by omega) (by omega)), if_neg (fun p => c1 (of_decide_eq_true p).1)]
    · rw [q, if_pos (show (0 : Int32) = 0 from rfl), if_neg (fun p => ck (of_decide_eq_true p).2.1)]
  · have er : rCm 7 k th r = (decide (k < mN (r 0) ∧ rRow r k 0 ≤ nI th), r) := rfl
    rw [er, emr, if_neg (show ¬ nI 7 = 1 by decide), if_neg (show ¬ nI 7 = 2 by decide), if_neg (show ¬ nI 7 = 3 by decide), if_neg (show ¬ nI 7 = 4 by decide), if_neg (show ¬ nI 7 = 5 by decide), if_neg (show ¬ nI 7 = 6 by decide), if_pos (show nI 7 = 7 from rfl)]
    refine ⟨s, ?_, hr.symm, fun _ _ _ => rfl⟩
    rcases hz5 with ⟨ck, q⟩ | ⟨ck, q⟩
    · rw [q, if_neg (show ¬ (1 : Int32) = 0 by decide), show F_X6_of 187 (824 + 3) (nI k) 0 s = _ from pS_of (w := 0) (by omega) (by decide), ← hr, xbI_s]
      by_cases q2 : rRow r k 0 ≤ nI th
      · rw [if_neg (Int32.not_lt.mpr q2), if_pos (decide_eq_true ⟨ck, q2⟩)]
      · rw [if_pos (Int32.not_le.mp q2), if_neg (fun p => q2 (of_decide_eq_true p).2)]
    · rw [q, if_pos (show (0 : Int32) = 0 from rfl), if_neg (fun p => ck (of_decide_eq_true p).1)]
  · have er : rCm 8 k th r = (decide (k < mN (r 0)) && (rFst (rTick 0 (mN (r 0))) (rDn k) (if 400 < th then 400 else th) r).isSome, r) := rfl
    rw [er, emr, if_neg (show ¬ nI 8 = 1 by decide), if_neg (show ¬ nI 8 = 2 by decide), if_neg (show ¬ nI 8 = 3 by decide), if_neg (show ¬ nI 8 = 4 by decide), if_neg (show ¬ nI 8 = 5 by decide), if_neg (show ¬ nI 8 = 6 by decide), if_neg (show ¬ nI 8 = 7 by decide), if_pos (show nI 8 = 8 from rfl)]
    rcases hz5 with ⟨ck, q⟩ | ⟨ck, q⟩
    · rw [q, if_neg (show ¬ (1 : Int32) = 0 by decide)]
      have cp := pR_copy (σ := s) (n1 := 187) (a1 := 824 + 3) (n3 := 187) (a3 := 824 + 4) (x := 0) (y := 0) (by omega) (by omega) (by omega) (by omega) (by decide)
      obtain ⟨r2, hr2⟩ : ∃ y, y = rCp (s (824 + 3)) (s (824 + 4)) 0 0 187 := ⟨_, rfl⟩
      rw [← hr2] at cp
      have e187 : ∀ i, i < 187 → r2 i = r i := fun i hi => by rw [hr2, hr]; exact rCp0 i hi
      obtain ⟨r3, u1⟩ := pR_until (σ := s) (a := 824 + 4) (k := k) (by omega) (by omega) (by omega) (h1r.c187 e187)
      rw [rFst_187 h1r ck e187] at u1
      have fr : ∀ i, i ≠ 827 → i ≠ 828 → (xset s (824 + 4) r3) i = s i := fun i _ b => xset_other (show i ≠ 824 + 4 by omega)
      refine ⟨xset s (824 + 4) r3, ?_, by rw [xset_other (by decide)]; exact hr.symm, fr⟩
      rw [rFst_min (M := if 400 < th then 400 else th) (by split <;> omega)]
      unfold F_X6_isDoneIn
      rw [show F_X6_copyState 187 (824 + 3) 0 187 (824 + 4) 0 s = _ from cp, xbV_s, u1, xbI_s]
      cases hf : rFst (rTick 0 m) (rDn k) 400 r with
      | none =>
        rw [if_pos (show rVal 0 none = -1 from rfl), xbI_s, if_pos (show (0 : Int32) = 0 from rfl)]
        simp
      | some j =>
        have hj := (rFst_le _ _ _ hf).1
        have e0 : rVal 0 (some j) = nI j := by show nI (0 + j) = nI j; rw [Nat.zero_add]
        rw [e0, if_neg (show ¬ nI j = -1 from nI_nm1 (by omega))]
        by_cases cj : j ≤ th
        · rw [if_neg (show ¬ nI th < nI j from nI_nlt cj (by omega)), xbI_s, if_neg (show ¬ (1 : Int32) = 0 by decide)]
          have : j ≤ (if 400 < th then 400 else th) := by split <;> omega
          simp [ck, this]
        · rw [if_pos (show nI th < nI j from nI_lt (by omega) (by omega)), xbI_s, if_pos (show (0 : Int32) = 0 from rfl)]
          have : ¬ j ≤ (if 400 < th then 400 else th) := by split <;> omega
          simp [this]
    · rw [q, if_pos (show (0 : Int32) = 0 from rfl)]
      refine ⟨s, ?_, hr.symm, fun _ _ _ => rfl⟩
      simp [ck]
  · have er : rCm 9 k th r = (decide (k = 0 ∧ th < 100 ∧ rS4 r 12 ≤ nI th), r) := rfl
    rw [er, if_neg (show ¬ nI 9 = 1 by decide), if_neg (show ¬ nI 9 = 2 by decide), if_neg (show ¬ nI 9 = 3 by decide), if_neg (show ¬ nI 9 = 4 by decide), if_neg (show ¬ nI 9 = 5 by decide), if_neg (show ¬ nI 9 = 6 by decide), if_neg (show ¬ nI 9 = 7 by decide), if_neg (show ¬ nI 9 = 8 by decide), if_pos (show nI 9 = 9 from rfl)]
    refine ⟨s, ?_, hr.symm, fun _ _ _ => rfl⟩
    by_cases c1 : k = 0 ∧ th < 100
    · have h4 : four = th := by omega
      rw [h4, if_neg (show ¬ (100 : Int32) ≤ nI th from nI_ge (a := th) (b := 100) c1.2 (by decide)), show F_X6_sum 187 (824 + 3) 12 s = _ from pS_sum (w := 12) h1 (by decide) (by decide), ← hr, xbI_s]
      by_cases q2 : rS4 r 12 ≤ nI th
      · rw [if_neg (Int32.not_lt.mpr q2), if_pos (decide_eq_true ⟨c1.1, c1.2, q2⟩)]
      · rw [if_pos (Int32.not_le.mp q2), if_neg (fun p => q2 (of_decide_eq_true p).2.2)]
    · rw [if_pos (show (100 : Int32) ≤ nI four from nI_le (a := 100) (b := four) (by omega) (by omega)), if_neg (fun p => c1 ⟨(of_decide_eq_true p).1, (of_decide_eq_true p).2.1⟩)]
