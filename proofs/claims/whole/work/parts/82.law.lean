/-! THE LAW -/
theorem y_tail {zz c b : Int32} {s : xS} {Lw : Int32 → xS → Option (Int32 × xS)} (h0 : s 824 0 = c) (h1 : c = 0 → s 832 0 = b) : xbI (F_X6_thrown 824 s) (fun (zz9 : Int32) (σ8 : xS) => if zz9 = c then (if ¬ c = 0 then (xlet (zz + 4) (fun (zz10 : Int32) => Lw zz10 σ8)) else (if xin (0 : Int32) 1 = true then (xlet (σ8 832 (0 : Int32).toNatClampNeg).toInt64 (fun (zz11 : Int64) => if (lg_cmp zz11 b.toInt64) = 0 then (xlet (zz + 4) (fun (zz12 : Int32) => Lw zz12 σ8)) else (none))) else none)) else (none)) = Lw (zz + 4) s := by
  unfold F_X6_thrown
  rw [xbI_s, h0, if_pos rfl]
  by_cases hc : c = 0
  · rw [if_neg (fun q => q hc), if_pos xin01, xlet_s, cl0, h1 hc, if_pos ((lg_cmp_eq _ _).mpr rfl), xlet_s]
  · rw [if_pos hc, xlet_s]
theorem p4 (j : Nat) : nI (4 * j) + 4 = nI (4 * (j + 1)) := nI_add (4 * j) 4
theorem law_loop {L : Nat} {xs : Nat → Int32} (hL : L ≤ 2048) : ∀ (q j : Nat) (σ : xS), L < 4 * (j + q) → 4 * j ≤ L → yR (12000 + 99 * j) (900000 + 8000 * j) σ → ∃ σ', L_law 0 824 832 L xs q (nI (4 * j)) σ = some (1, σ') := by
  intro q
  induction q with
  | zero => intro j σ h1 h2 h; omega
  | succ q ih =>
    intro j σ h1 h2 h
    by_cases hend : L < 4 * j + 4
    · refine ⟨σ, ?_⟩
      have hc : nI L - 4 < nI (4 * j) := by
        by_cases h4 : 4 ≤ L
        · rw [show nI L - 4 = nI (L - 4) from pk_sub (b := 4) h4]
          exact nI_lt (by omega) (by omega)
        · exact Int32.lt_of_lt_of_le (pk_sneg (a := L) (b := 4) (by decide) (by omega)) (nI_pos' (by omega))
      rw [L_law, if_pos hc]
    · have hc : ¬ nI L - 4 < nI (4 * j) := by
        rw [show nI L - 4 = nI (L - 4) from pk_sub (b := 4) (by omega)]
        exact nI_nlt (by omega) (by omega)
      have hx0 : xin (nI (4 * j)) L = true := xin_nI (by omega) (by omega)
      have hx1 : xin (nI (4 * j) + 1) L = true := by rw [nI_1]; exact xin_nI (by omega) (by omega)
      have hx2 : xin (nI (4 * j) + 2) L = true := by rw [nI_p2]; exact xin_nI (by omega) (by omega)
      have hx3 : xin (nI (4 * j) + 3) L = true := by rw [show nI (4 * j) + 3 = nI (4 * j + 3) from nI_add (4 * j) 3]; exact xin_nI (by omega) (by omega)
      obtain ⟨zz, hzz⟩ : ∃ y, y = nI (4 * j) := ⟨_, rfl⟩
      rw [← hzz] at hc hx0 hx1 hx2 hx3 ⊢
      -- what follows
      have nx : ∀ σ2, yR (12000 + 99 * (j + 1)) (900000 + 8000 * (j + 1)) σ2 → ∃ σ', L_law 0 824 832 L xs q (zz + 4) σ2 = some (1, σ') := fun σ2 hσ2 => by
        rw [hzz, p4]
        exact ih (j + 1) σ2 (by omega) (by omega) hσ2
      have hT9 : 12000 + 99 * j < 90000 := by omega
      have hT8 : 12000 + 99 * j < 80000 := by omega
      have hW9 : 900000 + 8000 * j < 2 ^ 24 := by omega
      have mT : 12000 + 99 * j ≤ 12000 + 99 * (j + 1) := by omega
      have mW : 900000 + 8000 * j ≤ 900000 + 8000 * (j + 1) := by omega
      have gT : 12000 + 99 * j + 99 ≤ 12000 + 99 * (j + 1) := by omega
      have gW : 900000 + 8000 * j + 8000 ≤ 900000 + 8000 * (j + 1) := by omega
      rw [L_law, if_neg hc, if_pos hx0, xlet_s]
      obtain ⟨w, hw⟩ : ∃ y, y = xs zz.toNatClampNeg &&& 31 := ⟨_, rfl⟩
      rw [← hw]
      obtain ⟨a1, ha1⟩ : ∃ y, y = xs (zz + 1).toNatClampNeg := ⟨_, rfl⟩
      obtain ⟨a2, ha2⟩ : ∃ y, y = xs (zz + 2).toNatClampNeg := ⟨_, rfl⟩
      obtain ⟨a3, ha3⟩ : ∃ y, y = xs (zz + 3).toNatClampNeg := ⟨_, rfl⟩
      have rest : ∀ {FL FM : xS → Option (Int32 × xS)}, yC (12000 + 99 * (j + 1)) (900000 + 8000 * (j + 1)) FL FM σ → ∃ c σ1 b σ2, FL σ = some (c, σ1) ∧ FM σ1 = some (b, σ2) ∧ ∃ σ', xbI (F_X6_thrown 824 σ2) (fun (zz9 : Int32) (σ8 : xS) => if zz9 = c then (if ¬ c = 0 then (xlet (zz + 4) (fun (zz10 : Int32) => L_law 0 824 832 L xs q zz10 σ8)) else (if xin (0 : Int32) 1 = true then (xlet (σ8 832 (0 : Int32).toNatClampNeg).toInt64 (fun (zz11 : Int64) => if (lg_cmp zz11 b.toInt64) = 0 then (xlet (zz + 4) (fun (zz12 : Int32) => L_law 0 824 832 L xs q zz12 σ8)) else (none))) else none)) else (none)) = some (1, σ') := fun {FL FM} hC => by
        obtain ⟨c, σ1, b, σ2, e1, e2, e3, e4, e5⟩ := hC
        obtain ⟨σ', e6⟩ := nx σ2 e5
        exact ⟨c, σ1, b, σ2, e1, e2, σ', (y_tail (Lw := fun z s => L_law 0 824 832 L xs q z s) e3 e4).trans e6⟩
      by_cases c0 : w = 0
      · obtain ⟨c, σ1, b, σ2, e1, e2, σ', e3⟩ := rest ((y_append h a1).mono mT mW)
        rw [if_pos c0, if_pos hx1, xlet_s, ← ha1, e1, xbI_s, if_pos hx1, xlet_s, e2, xbI_s]
        exact ⟨σ', e3⟩
      rw [if_neg c0]
      by_cases c1 : w = 1
      · obtain ⟨a, σ1, σ2, e1, e2, e3⟩ := y_clear h
        rw [if_pos c1, e1, xbI_s, e2, xbI_s, if_pos rfl, xlet_s]
        exact nx σ2 (e3.mono mT mW)
      rw [if_neg c1]
      by_cases c2 : w = 2
      · obtain ⟨a, σ1, σ2, e1, e2, e3⟩ := y_errorPosition h
        rw [if_pos c2, e1, xbI_s, e2, xbI_s, if_pos rfl, xlet_s]
        exact nx σ2 (e3.mono mT mW)
      rw [if_neg c2]
      by_cases c3 : w = 3
      · obtain ⟨c, σ1, b, σ2, e1, e2, σ', e3⟩ := rest ((y_load h (by omega) (by omega) ).mono mT mW)
        rw [if_pos c3, e1, xbI_s, e2, xbI_s]
        exact ⟨σ', e3⟩
      rw [if_neg c3]
      by_cases c4 : w = 4
      · obtain ⟨c, σ1, b, σ2, e1, e2, σ', e3⟩ := rest ((y_about h a1).mono mT mW)
        rw [if_pos c4, if_pos hx1, xlet_s, ← ha1, e1, xbI_s, if_pos hx1, xlet_s, e2, xbI_s]
        exact ⟨σ', e3⟩
      rw [if_neg c4]
      by_cases c5 : w = 5
      · obtain ⟨c, σ1, b, σ2, e1, e2, σ', e3⟩ := rest ((y_writer h a1 a2).mono mT mW)
        rw [if_pos c5, if_pos hx1, xlet_s, if_pos hx2, xlet_s, ← ha1, ← ha2, e1, xbI_s, if_pos hx1, xlet_s, if_pos hx2, xlet_s, e2, xbI_s]
        exact ⟨σ', e3⟩
      rw [if_neg c5]
      by_cases c6 : w = 6
      · obtain ⟨c, σ1, b, σ2, e1, e2, σ', e3⟩ := rest ((y_desk h a1 a2).mono mT mW)
        rw [if_pos c6, if_pos hx1, xlet_s, if_pos hx2, xlet_s, ← ha1, ← ha2, e1, xbI_s, if_pos hx1, xlet_s, if_pos hx2, xlet_s, e2, xbI_s]
        exact ⟨σ', e3⟩
      rw [if_neg c6]
      by_cases c7 : w = 7
      · obtain ⟨c, σ1, b, σ2, e1, e2, σ', e3⟩ := rest ((y_letter h a1 a2 a3).mono mT mW)
        rw [if_pos c7, if_pos hx1, xlet_s, if_pos hx2, xlet_s, if_pos hx3, xlet_s, ← ha1, ← ha2, ← ha3, e1, xbI_s, if_pos hx1, xlet_s, if_pos hx2, xlet_s, if_pos hx3, xlet_s, e2, xbI_s]
        exact ⟨σ', e3⟩
      rw [if_neg c7]
      by_cases c8 : w = 8
      · obtain ⟨c, σ1, b, σ2, e1, e2, σ', e3⟩ := rest ((y_planned h a1 a2).mono mT mW)
        rw [if_pos c8, if_pos hx1, xlet_s, if_pos hx2, xlet_s, ← ha1, ← ha2, e1, xbI_s, if_pos hx1, xlet_s, if_pos hx2, xlet_s, e2, xbI_s]
        exact ⟨σ', e3⟩
      rw [if_neg c8]
      by_cases c9 : w = 9
      · obtain ⟨c, σ1, b, σ2, e1, e2, σ', e3⟩ := rest ((y_setting h a1).mono mT mW)
        rw [if_pos c9, if_pos hx1, xlet_s, ← ha1, e1, xbI_s, if_pos hx1, xlet_s, e2, xbI_s]
        exact ⟨σ', e3⟩
      rw [if_neg c9]
      by_cases c10 : w = 10
      · obtain ⟨c, σ1, b, σ2, e1, e2, σ', e3⟩ := rest ((y_post h hT9 hW9 a1).mono gT gW)
        rw [if_pos c10, if_pos hx1, xlet_s, ← ha1, e1, xbI_s, if_pos hx1, xlet_s, e2, xbI_s]
        exact ⟨σ', e3⟩
      rw [if_neg c10]
      by_cases c11 : w = 11
      · obtain ⟨c, σ1, b, σ2, e1, e2, σ', e3⟩ := rest ((y_write h hT9 hW9 a1 a2).mono gT gW)
        rw [if_pos c11, if_pos hx1, xlet_s, if_pos hx2, xlet_s, ← ha1, ← ha2, e1, xbI_s, if_pos hx1, xlet_s, if_pos hx2, xlet_s, e2, xbI_s]
        exact ⟨σ', e3⟩
      rw [if_neg c11]
      by_cases c12 : w = 12
      · obtain ⟨c, σ1, b, σ2, e1, e2, σ', e3⟩ := rest ((y_plan h hT9 hW9 a1 a2 a3).mono gT gW)
        rw [if_pos c12, if_pos hx1, xlet_s, if_pos hx2, xlet_s, if_pos hx3, xlet_s, ← ha1, ← ha2, ← ha3, e1, xbI_s, if_pos hx1, xlet_s, if_pos hx2, xlet_s, if_pos hx3, xlet_s, e2, xbI_s]
        exact ⟨σ', e3⟩
      rw [if_neg c12]
      by_cases c13 : w = 13
      · obtain ⟨bb, hbb, hb01⟩ : ∃ y : Int32, y = (if a2 = 0 then 0 else 1) ∧ (y = 0 ∨ y = 1) := by
          by_cases q : a2 = 0
          · exact ⟨0, by rw [if_pos q], Or.inl rfl⟩
          · exact ⟨1, by rw [if_neg q], Or.inr rfl⟩
        have jn : ∀ (K : Int32 → xS → Option (Int32 × xS)) (s : xS), xjn K (fun (KK179 : Int32 → xS → Option (Int32 × xS)) => if a2 = 0 then (KK179 0 s) else (KK179 1 s)) = K bb s := fun K s => by
          rw [xjn_s, hbb]
          by_cases q : a2 = 0
          · rw [if_pos q, if_pos q]
          · rw [if_neg q, if_neg q]
        obtain ⟨c, σ1, b, σ2, e1, e2, σ', e3⟩ := rest ((y_hold h hT9 hW9 a1 bb hb01).mono gT gW)
        rw [if_pos c13, if_pos hx1, xlet_s, if_pos hx2, xlet_s, ← ha1, ← ha2, jn, e1, xbI_s, if_pos hx1, xlet_s, if_pos hx2, xlet_s, jn, e2, xbI_s]
        exact ⟨σ', e3⟩
      rw [if_neg c13]
      by_cases c14 : w = 14
      · obtain ⟨c, σ1, b, σ2, e1, e2, σ', e3⟩ := rest ((y_flush h hT9 hW9 a1).mono gT gW)
        rw [if_pos c14, if_pos hx1, xlet_s, ← ha1, e1, xbI_s, if_pos hx1, xlet_s, e2, xbI_s]
        exact ⟨σ', e3⟩
      rw [if_neg c14]
      by_cases c15 : w = 15
      · obtain ⟨c, σ1, b, σ2, e1, e2, σ', e3⟩ := rest ((y_ticks h hT9 hW9 a1).mono gT gW)
        rw [if_pos c15, if_pos hx1, xlet_s, ← ha1, e1, xbI_s, if_pos hx1, xlet_s, e2, xbI_s]
        exact ⟨σ', e3⟩
      rw [if_neg c15]
      by_cases c16 : w = 16
      · obtain ⟨c, σ1, b, σ2, e1, e2, σ', e3⟩ := rest ((y_set h hT9 hW9 a1 a2).mono gT gW)
        rw [if_pos c16, if_pos hx1, xlet_s, if_pos hx2, xlet_s, ← ha1, ← ha2, e1, xbI_s, if_pos hx1, xlet_s, if_pos hx2, xlet_s, e2, xbI_s]
        exact ⟨σ', e3⟩
      rw [if_neg c16]
      by_cases c17 : w = 17
      · obtain ⟨c, σ1, b, σ2, e1, e2, σ', e3⟩ := rest ((y_undo h ).mono mT mW)
        rw [if_pos c17, e1, xbI_s, e2, xbI_s]
        exact ⟨σ', e3⟩
      rw [if_neg c17]
      by_cases c18 : w = 18
      · obtain ⟨c, σ1, b, σ2, e1, e2, σ', e3⟩ := rest ((y_doneIn h hT9 hW9 a1).mono mT mW)
        rw [if_pos c18, if_pos hx1, xlet_s, ← ha1, e1, xbI_s, if_pos hx1, xlet_s, e2, xbI_s]
        exact ⟨σ', e3⟩
      rw [if_neg c18]
      by_cases c19 : w = 19
      · obtain ⟨c, σ1, b, σ2, e1, e2, σ', e3⟩ := rest ((y_thereIn h hT9 hW9 a1 a2).mono mT mW)
        rw [if_pos c19, if_pos hx1, xlet_s, if_pos hx2, xlet_s, ← ha1, ← ha2, e1, xbI_s, if_pos hx1, xlet_s, if_pos hx2, xlet_s, e2, xbI_s]
        exact ⟨σ', e3⟩
      rw [if_neg c19]
      by_cases c20 : w = 20
      · obtain ⟨c, σ1, b, σ2, e1, e2, σ', e3⟩ := rest ((y_ifHeld h hT9 hW9 a1 a2).mono mT mW)
        rw [if_pos c20, if_pos hx1, xlet_s, if_pos hx2, xlet_s, ← ha1, ← ha2, e1, xbI_s, if_pos hx1, xlet_s, if_pos hx2, xlet_s, e2, xbI_s]
        exact ⟨σ', e3⟩
      rw [if_neg c20]
      by_cases c21 : w = 21
      · obtain ⟨c, σ1, b, σ2, e1, e2, σ', e3⟩ := rest ((y_best h hT9 hW9 a1 a2).mono mT mW)
        rw [if_pos c21, if_pos hx1, xlet_s, if_pos hx2, xlet_s, ← ha1, ← ha2, e1, xbI_s, if_pos hx1, xlet_s, if_pos hx2, xlet_s, e2, xbI_s]
        exact ⟨σ', e3⟩
      rw [if_neg c21]
      by_cases c22 : w = 22
      · obtain ⟨c, σ1, b, σ2, e1, e2, σ', e3⟩ := rest ((y_runScript h hT8 (by omega) a1 ((a2.toInt64 <<< ((32 : Int32).toInt64 &&& 63)) ||| (a3.toInt64 &&& 4294967295))).mono mT mW)
        rw [if_pos c22, if_pos hx1, xlet_s, if_pos hx2, xlet_s, if_pos hx3, xlet_s, ← ha1, ← ha2, ← ha3, e1, xbI_s, if_pos hx1, xlet_s, if_pos hx2, xlet_s, if_pos hx3, xlet_s, e2, xbI_s]
        exact ⟨σ', e3⟩
      rw [if_neg c22]
      by_cases c23 : w = 23
      · obtain ⟨c, σ1, b, σ2, e1, e2, σ', e3⟩ := rest ((y_simulate h hT8 (by omega) ((a1.toInt64 <<< ((32 : Int32).toInt64 &&& 63)) ||| (a2.toInt64 &&& 4294967295)) a3).mono mT mW)
        rw [if_pos c23, if_pos hx1, xlet_s, if_pos hx2, xlet_s, if_pos hx3, xlet_s, ← ha1, ← ha2, ← ha3, e1, xbI_s, if_pos hx1, xlet_s, if_pos hx2, xlet_s, if_pos hx3, xlet_s, e2, xbI_s]
        exact ⟨σ', e3⟩
      rw [if_neg c23]
      by_cases c24 : w = 24
      · obtain ⟨c, σ1, b, σ2, e1, e2, σ', e3⟩ := rest ((y_save h a1).mono mT mW)
        rw [if_pos c24, if_pos hx1, xlet_s, ← ha1, e1, xbI_s, if_pos hx1, xlet_s, e2, xbI_s]
        exact ⟨σ', e3⟩
      rw [if_neg c24]
      by_cases c25 : w = 25
      · obtain ⟨c, σ1, b, σ2, e1, e2, σ', e3⟩ := rest ((y_restore h a1).mono mT mW)
        rw [if_pos c25, if_pos hx1, xlet_s, ← ha1, e1, xbI_s, if_pos hx1, xlet_s, e2, xbI_s]
        exact ⟨σ', e3⟩
      rw [if_neg c25]
      rw [xlet_s]
      exact nx σ (h.mono mT mW)
