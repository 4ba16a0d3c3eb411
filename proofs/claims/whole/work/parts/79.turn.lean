/-! SIMULATIONS: a turn -/
theorem y_shift (x : Int64) : ∃ q, q < 2 ^ 31 ∧ ((x.toUInt64 >>> ((33 : Int32).toInt64.toUInt64 &&& Int64.toUInt64 63)).toInt64).toInt32 = nI q := by
  have e33 : ((33 : Int32).toInt64.toUInt64 &&& Int64.toUInt64 63) = 33 := by decide
  rw [e33]
  obtain ⟨y, hy⟩ : ∃ y, y = x.toUInt64 >>> (33 : UInt64) := ⟨_, rfl⟩
  have hlt : y.toNat < 2 ^ 31 := by
    rw [hy, UInt64.toNat_shiftRight]
    have h1 : (33 : UInt64).toNat % 64 = 33 := by decide
    have h2 := x.toUInt64.toNat_lt
    rw [h1, Nat.shiftRight_eq_div_pow]
    exact Nat.div_lt_of_lt_mul (by omega)
  refine ⟨y.toNat, hlt, ?_⟩
  rw [← hy]
  have e : y.toInt64 = lN y.toNat := by
    apply Int64.toBitVec_inj.mp
    show y.toBitVec = BitVec.ofNat 64 y.toNat
    apply BitVec.eq_of_toNat_eq
    rw [BitVec.toNat_ofNat]
    exact (Nat.mod_eq_of_lt y.toBitVec.isLt).symm
  rw [e, lN_i]
def rTn (x : Nat) (r : Nat → Int32) : Nat → Int32 :=
  if x % 8 < 3 then (rDo 1 (x / 8 % 4) (1 + x / 8 / 4 % 60) 0 r).2
  else if x % 8 = 3 then (rDo 2 (1 + x / 8 / 4 % 30) (x / 8 % 4) (1 + x / 8 / 256 % 60) r).2
  else if x % 8 = 4 then (if x / 8 / 8 % 3 = 0 then (rDo 3 (x / 8 % 4) (x / 8 / 4 % 2) 0 r).2 else (rDo 4 (x / 8 % 4) 0 0 r).2)
  else (rDo 5 (1 + x / 8 % 9) 0 0 r).2
theorem pC_turn {σ : xS} {r : Nat → Int32} {T W x : Nat} (hx : x < 2 ^ 31) (hS : yS σ (0 + 652) r T W) (hT : T < 89000) (hW : W < 2 ^ 23) : ∃ z, F_X5_takeTurn 0 (nI x) σ = some z ∧ xfr σ z 652 695 ∧ yS z (0 + 652) (rTn x r) (T + 99) (W + 7200) := by
  obtain ⟨q, hq⟩ : ∃ y, y = x / 8 := ⟨_, rfl⟩
  have hq2 : q < 2 ^ 28 := by omega
  have e1 : nI x / 8 = nI q := by rw [show (8 : Int32) = nI 8 from rfl, pk_div (by omega) (by decide) (by decide), hq]
  have e2 : nI x - nI q * 8 = nI (x % 8) := by rw [← e1, show (8 : Int32) = nI 8 from rfl, pk_rem (by omega) (by decide) (by decide)]
  have dv : ∀ (a d : Nat), a < 2 ^ 31 → 0 < d → d < 2 ^ 31 → nI a / nI d = nI (a / d) := fun a d ha h0 hd => pk_div ha h0 hd
  have rm : ∀ (a d : Nat), a < 2 ^ 31 → 0 < d → d < 2 ^ 31 → nI a - nI a / nI d * nI d = nI (a % d) := fun a d ha h0 hd => pk_rem ha h0 hd
  have d4 : nI q / 4 = nI (q / 4) := dv q 4 (by omega) (by decide) (by decide)
  have k4 : nI q - nI (q / 4) * 4 = nI (q % 4) := by rw [← d4]; exact rm q 4 (by omega) (by decide) (by decide)
  have d256 : nI q / 256 = nI (q / 256) := dv q 256 (by omega) (by decide) (by decide)
  have d8 : nI q / 8 = nI (q / 8) := dv q 8 (by omega) (by decide) (by decide)
  have m60 : ∀ a : Nat, a < 2 ^ 31 → nI a - nI a / 60 * 60 = nI (a % 60) := fun a ha => rm a 60 ha (by decide) (by decide)
  have m30 : ∀ a : Nat, a < 2 ^ 31 → nI a - nI a / 30 * 30 = nI (a % 30) := fun a ha => rm a 30 ha (by decide) (by decide)
  have m3 : ∀ a : Nat, a < 2 ^ 31 → nI a - nI a / 3 * 3 = nI (a % 3) := fun a ha => rm a 3 ha (by decide) (by decide)
  have m2 : ∀ a : Nat, a < 2 ^ 31 → nI a - nI a / 2 * 2 = nI (a % 2) := fun a ha => rm a 2 ha (by decide) (by decide)
  have m9 : ∀ a : Nat, a < 2 ^ 31 → nI a - nI a / 9 * 9 = nI (a % 9) := fun a ha => rm a 9 ha (by decide) (by decide)
  have p1 : ∀ a : Nat, (1 : Int32) + nI a = nI (1 + a) := fun a => nI_add 1 a
  have rT : ∀ a b c d (hv : vOK a b c d), ∃ z v, F_X3_attempt (0 + 652) (nI a) (nI b) (nI c) (nI d) σ = some (v, z) ∧ xfr σ z 652 695 ∧ yS z (0 + 652) (rDo a b c d r).2 (T + 99) (W + 7200) := fun a b c d hv => by
    obtain ⟨z, v, q1, q2, q3, q4⟩ := pT_do hS (by omega) (by omega) hv
    exact ⟨z, v, q1, q3.sub (by omega) (by omega), q4⟩
  unfold F_X5_takeTurn rTn
  rw [← hq]
  simp only [xlet_s, e1, e2, k4, d4, d256, d8]
  have hcl : ∀ v : Nat, v < 8 → (nI (x % 8) = nI v ↔ x % 8 = v) := fun v hv => nI_eq (by omega) (by omega)
  by_cases c1 : x % 8 < 3
  · have hc : nI (x % 8) = 0 ∨ nI (x % 8) = 1 ∨ nI (x % 8) = 2 := by
      obtain e | e | e : x % 8 = 0 ∨ x % 8 = 1 ∨ x % 8 = 2 := by omega
      · exact Or.inl ((hcl 0 (by decide)).mpr e)
      · exact Or.inr (Or.inl ((hcl 1 (by decide)).mpr e))
      · exact Or.inr (Or.inr ((hcl 2 (by decide)).mpr e))
    rw [if_pos hc, if_pos c1, m60 _ (by omega), p1]
    obtain ⟨z, v, q1, q2, q3⟩ := rT 1 (q % 4) (1 + q / 4 % 60) 0 (Or.inl ⟨rfl, by omega, by omega, by omega⟩)
    refine ⟨z, ?_, q2, q3⟩
    rw [show F_X3_attempt (0 + 652) 1 (nI (q % 4)) (nI (1 + q / 4 % 60)) 0 σ = _ from q1, xbI_s]
  · have hc : ¬ (nI (x % 8) = 0 ∨ nI (x % 8) = 1 ∨ nI (x % 8) = 2) := by
      intro h
      rcases h with h | h | h
      · have := (hcl 0 (by decide)).mp h; omega
      · have := (hcl 1 (by decide)).mp h; omega
      · have := (hcl 2 (by decide)).mp h; omega
    rw [if_neg hc, if_neg c1]
    by_cases c3 : x % 8 = 3
    · rw [if_pos (show nI (x % 8) = 3 from (hcl 3 (by decide)).mpr c3), if_pos c3, m30 _ (by omega), m60 _ (by omega), p1, p1]
      obtain ⟨z, v, q1, q2, q3⟩ := rT 2 (1 + q / 4 % 30) (q % 4) (1 + q / 256 % 60) (Or.inr (Or.inl ⟨rfl, by omega, by omega, by omega, by omega, by omega⟩))
      refine ⟨z, ?_, q2, q3⟩
      rw [show F_X3_attempt (0 + 652) 2 (nI (1 + q / 4 % 30)) (nI (q % 4)) (nI (1 + q / 256 % 60)) σ = _ from q1, xbI_s]
    · rw [if_neg (show ¬ nI (x % 8) = 3 from fun p => c3 ((hcl 3 (by decide)).mp p)), if_neg c3]
      by_cases c4 : x % 8 = 4
      · rw [if_pos (show nI (x % 8) = 4 from (hcl 4 (by decide)).mpr c4), if_pos c4, m3 _ (by omega), m2 _ (by omega)]
        by_cases c5 : q / 8 % 3 = 0
        · rw [if_neg (show ¬ ¬ nI (q / 8 % 3) = 0 from fun p => p (by rw [c5]; rfl)), if_pos c5]
          obtain ⟨z, v, q1, q2, q3⟩ := rT 3 (q % 4) (q / 4 % 2) 0 (Or.inr (Or.inr (Or.inl ⟨rfl, by omega, by omega⟩)))
          refine ⟨z, ?_, q2, q3⟩
          rw [show F_X3_attempt (0 + 652) 3 (nI (q % 4)) (nI (q / 4 % 2)) 0 σ = _ from q1, xbI_s]
        · rw [if_pos (show ¬ nI (q / 8 % 3) = 0 from nI_ne0 (by omega) (by omega)), if_neg c5]
          obtain ⟨z, v, q1, q2, q3⟩ := rT 4 (q % 4) 0 0 (Or.inr (Or.inr (Or.inr (Or.inl ⟨rfl, by omega⟩))))
          refine ⟨z, ?_, q2, q3⟩
          rw [show F_X3_attempt (0 + 652) 4 (nI (q % 4)) 0 0 σ = _ from q1, xbI_s]
      · rw [if_neg (show ¬ nI (x % 8) = 4 from fun p => c4 ((hcl 4 (by decide)).mp p)), if_neg c4, m9 _ (by omega), p1]
        obtain ⟨z, v, q1, q2, q3⟩ := rT 5 (1 + q % 9) 0 0 (Or.inr (Or.inr (Or.inr (Or.inr ⟨rfl, by omega, by omega⟩))))
        refine ⟨z, ?_, q2, q3⟩
        rw [show F_X3_attempt (0 + 652) 5 (nI (1 + q % 9)) 0 0 σ = _ from q1, xbI_s]
theorem pM_turn {s : xS} {T W x : Nat} (hx : x < 2 ^ 31) (hO : yO (s (824 + 3)) T W) (hT : T < 89000) (hW : W < 2 ^ 23) : F_X6_turn 824 187 (824 + 3) (nI x) s = some (xset s (824 + 3) (rTn x (s (824 + 3)))) := by
  obtain ⟨m, t, tr, wt, sz, ms, L, w, h1, ht, hw⟩ := hO
  have hm4 := h1.m4
  have hL8 := h1.L8
  have em := h1.mm
  have eL := h1.LL
  have e2m : s (824 + 3) 2 = nI L := h1.1.2.2.1
  have keep : s = xset s (824 + 3) (s (824 + 3)) := xset_self.symm
  obtain ⟨q, hq⟩ : ∃ y, y = x / 8 := ⟨_, rfl⟩
  have hq2 : q < 2 ^ 28 := by omega
  have e1 : nI x / 8 = nI q := by rw [show (8 : Int32) = nI 8 from rfl, pk_div (by omega) (by decide) (by decide), hq]
  have e2 : nI x - nI q * 8 = nI (x % 8) := by rw [← e1, show (8 : Int32) = nI 8 from rfl, pk_rem (by omega) (by decide) (by decide)]
  have dv : ∀ (a d : Nat), a < 2 ^ 31 → 0 < d → d < 2 ^ 31 → nI a / nI d = nI (a / d) := fun a d ha h0 hd => pk_div ha h0 hd
  have rm : ∀ (a d : Nat), a < 2 ^ 31 → 0 < d → d < 2 ^ 31 → nI a - nI a / nI d * nI d = nI (a % d) := fun a d ha h0 hd => pk_rem ha h0 hd
  have d4 : nI q / 4 = nI (q / 4) := dv q 4 (by omega) (by decide) (by decide)
  have k4 : nI q - nI (q / 4) * 4 = nI (q % 4) := by rw [← d4]; exact rm q 4 (by omega) (by decide) (by decide)
  have d256 : nI q / 256 = nI (q / 256) := dv q 256 (by omega) (by decide) (by decide)
  have d8 : nI q / 8 = nI (q / 8) := dv q 8 (by omega) (by decide) (by decide)
  have m60 : ∀ a : Nat, a < 2 ^ 31 → nI a - nI a / 60 * 60 = nI (a % 60) := fun a ha => rm a 60 ha (by decide) (by decide)
  have m30 : ∀ a : Nat, a < 2 ^ 31 → nI a - nI a / 30 * 30 = nI (a % 30) := fun a ha => rm a 30 ha (by decide) (by decide)
  have m3 : ∀ a : Nat, a < 2 ^ 31 → nI a - nI a / 3 * 3 = nI (a % 3) := fun a ha => rm a 3 ha (by decide) (by decide)
  have m2 : ∀ a : Nat, a < 2 ^ 31 → nI a - nI a / 2 * 2 = nI (a % 2) := fun a ha => rm a 2 ha (by decide) (by decide)
  have m9 : ∀ a : Nat, a < 2 ^ 31 → nI a - nI a / 9 * 9 = nI (a % 9) := fun a ha => rm a 9 ha (by decide) (by decide)
  have p1 : ∀ a : Nat, (1 : Int32) + nI a = nI (1 + a) := fun a => nI_add 1 a
  have hcl : ∀ v : Nat, v < 8 → (nI (x % 8) = nI v ↔ x % 8 = v) := fun v hv => nI_eq (by omega) (by omega)
  unfold F_X6_turn rTn
  rw [← hq]
  simp only [xlet_s, e1, e2, k4, d4, d256, d8]
  by_cases c1 : x % 8 < 3
  · rw [if_neg (show ¬ (3 : Int32) ≤ nI (x % 8) from nI_ge (a := x % 8) (b := 3) c1 (by decide)), if_pos c1, m60 _ (by omega), p1]
    unfold rDo
    rw [if_pos (show 1 = 1 from rfl), em]
    by_cases g1 : q % 4 < m
    · rw [pS_isW1 h1 g1, xbI_s, if_neg (show ¬ (1 : Int32) = 0 by decide), pS_can (by omega)]
      by_cases g2 : (9999 : Int32) < rRow (s (824 + 3)) (q % 4) 0 + nI (1 + q / 4 % 60)
      · rw [if_pos g2, xbI_s, if_pos (show (0 : Int32) = 0 from rfl), if_neg (show ¬ (q % 4 < m ∧ ¬ (9999 : Int32) < rRow (s (824 + 3)) (q % 4) 0 + nI (1 + q / 4 % 60)) from fun p => p.2 g2)]
        exact congrArg some keep
      · rw [if_neg g2, xbI_s, if_neg (show ¬ (1 : Int32) = 0 by decide), pS_write h1 g1, xbI_s, if_pos (show q % 4 < m ∧ ¬ (9999 : Int32) < rRow (s (824 + 3)) (q % 4) 0 + nI (1 + q / 4 % 60) from ⟨g1, g2⟩)]
    · rw [pS_isW0 h1 (rBad_ge g1 (by omega)), xbI_s, if_pos (show (0 : Int32) = 0 from rfl), if_neg (show ¬ (q % 4 < m ∧ ¬ (9999 : Int32) < rRow (s (824 + 3)) (q % 4) 0 + nI (1 + q / 4 % 60)) from fun p => g1 p.1)]
      exact congrArg some keep
  · rw [if_pos (show (3 : Int32) ≤ nI (x % 8) from nI_le (a := 3) (b := x % 8) (by omega) (by omega)), if_neg c1]
    by_cases c3 : x % 8 = 3
    · rw [if_neg (show ¬ ¬ nI (x % 8) = 3 from fun p => p ((hcl 3 (by decide)).mpr c3)), if_pos c3, m30 _ (by omega), m60 _ (by omega), p1, p1]
      unfold rDo
      rw [if_neg (show ¬ 2 = 1 by decide), if_pos (show 2 = 2 from rfl), em, eL]
      by_cases g1 : q % 4 < m
      · rw [pS_isW1 h1 g1, xbI_s, if_neg (show ¬ (1 : Int32) = 0 by decide), if_pos xin_2, cl_2, e2m]
        by_cases g2 : L < 8
        · rw [if_neg (show ¬ (8 : Int32) ≤ nI L from nI_ge (a := L) (b := 8) g2 (by decide)), pS_plan h1 g2, xbI_s, if_pos (show q % 4 < m ∧ L < 8 from ⟨g1, g2⟩)]
        · rw [if_pos (show (8 : Int32) ≤ nI L from nI_le (a := 8) (b := L) (by omega) (by omega)), if_neg (show ¬ (q % 4 < m ∧ L < 8) from fun p => g2 p.2)]
          exact congrArg some keep
      · rw [pS_isW0 h1 (rBad_ge g1 (by omega)), xbI_s, if_pos (show (0 : Int32) = 0 from rfl), if_neg (show ¬ (q % 4 < m ∧ L < 8) from fun p => g1 p.1)]
        exact congrArg some keep
    · rw [if_pos (show ¬ nI (x % 8) = 3 from fun p => c3 ((hcl 3 (by decide)).mp p)), if_neg c3]
      by_cases c4 : x % 8 = 4
      · rw [if_neg (show ¬ ¬ nI (x % 8) = 4 from fun p => p ((hcl 4 (by decide)).mpr c4)), if_pos c4, m3 _ (by omega), m2 _ (by omega)]
        by_cases g1 : q % 4 < m
        · rw [pS_isW1 h1 g1, xbI_s, xjn_s, if_neg (show ¬ (1 : Int32) = 0 by decide)]
          by_cases c5 : q / 8 % 3 = 0
          · rw [if_neg (show ¬ ¬ nI (q / 8 % 3) = 0 from fun p => p (by rw [c5]; rfl)), if_pos c5]
            unfold rDo
            rw [if_neg (show ¬ 3 = 1 by decide), if_neg (show ¬ 3 = 2 by decide), if_pos (show 3 = 3 from rfl), em, if_pos g1]
            have hold : ∀ v, v = nI (q / 4 % 2) → F_X6_holdOn 187 (824 + 3) (nI (q % 4)) v s = some (rRow (rHold (s (824 + 3)) (q % 4) (nI (q / 4 % 2))) (q % 4) 3 - rRow (s (824 + 3)) (q % 4) 3, xset s (824 + 3) (rHold (s (824 + 3)) (q % 4) (nI (q / 4 % 2)))) := fun v hv => by
              rw [hv, pS_hold h1 g1 (b01 (by omega))]
            obtain e | e : q / 4 % 2 = 0 ∨ q / 4 % 2 = 1 := by omega
            · rw [if_pos (show ¬ nI (q / 4 % 2) = 1 by rw [e]; decide), hold 0 (by rw [e]; rfl), xbI_s]
            · rw [if_neg (show ¬ ¬ nI (q / 4 % 2) = 1 by rw [e]; decide), hold 1 (by rw [e]; rfl), xbI_s]
          · rw [if_pos (show ¬ nI (q / 8 % 3) = 0 from nI_ne0 (by omega) (by omega)), if_neg c5]
            unfold rDo
            rw [if_neg (show ¬ 4 = 1 by decide), if_neg (show ¬ 4 = 2 by decide), if_neg (show ¬ 4 = 3 by decide), if_pos (show 4 = 4 from rfl), em, if_pos g1]
            try dsimp only
            rw [pS_isW1 h1 g1, xbI_s, if_neg (show ¬ (1 : Int32) = 0 by decide), pS_flush h1 g1, xbI_s]
        · rw [pS_isW0 h1 (rBad_ge g1 (by omega)), xbI_s, xjn_s, if_pos (show (0 : Int32) = 0 from rfl)]
          try dsimp only
          rw [pS_isW0 h1 (rBad_ge g1 (by omega)), xbI_s, if_pos (show (0 : Int32) = 0 from rfl)]
          have e3 : (rDo 3 (q % 4) (q / 4 % 2) 0 (s (824 + 3))).2 = s (824 + 3) := by
            unfold rDo
            rw [if_neg (show ¬ 3 = 1 by decide), if_neg (show ¬ 3 = 2 by decide), if_pos (show 3 = 3 from rfl), em, if_neg g1]
          have e4 : (rDo 4 (q % 4) 0 0 (s (824 + 3))).2 = s (824 + 3) := by
            unfold rDo
            rw [if_neg (show ¬ 4 = 1 by decide), if_neg (show ¬ 4 = 2 by decide), if_neg (show ¬ 4 = 3 by decide), if_pos (show 4 = 4 from rfl), em, if_neg g1]
          rw [e3, e4]
          by_cases c5 : q / 8 % 3 = 0
          · rw [if_pos c5]; exact congrArg some keep
          · rw [if_neg c5]; exact congrArg some keep
      · rw [if_pos (show ¬ nI (x % 8) = 4 from fun p => c4 ((hcl 4 (by decide)).mp p)), if_neg c4, m9 _ (by omega), p1]
        have et : s (824 + 3) 1 = nI t := h1.1.2.1
        unfold F_X6_mayTick rDo
        rw [show F_X6_in (nI (1 + q % 9)).toInt64 1 99 s = _ from pR_inN (a := 1) (b := 99) (by omega) (by omega) (by decide), xbI_s, if_neg (show ¬ (1 : Int32) = 0 by decide), if_pos xin_1, xlet_s, cl_1, et, nI_add, if_neg (show ¬ (99999 : Int32) < nI (t + (1 + q % 9)) from nI_nlt (a := 99999) (b := t + (1 + q % 9)) (by omega) (by decide)), xbI_s, if_neg (show ¬ (1 : Int32) = 0 by decide), pS_ticks (by omega) (by omega) (by omega) h1, xbI_s, if_neg (show ¬ 5 = 1 by decide), if_neg (show ¬ 5 = 2 by decide), if_neg (show ¬ 5 = 3 by decide), if_neg (show ¬ 5 = 4 by decide), em]
