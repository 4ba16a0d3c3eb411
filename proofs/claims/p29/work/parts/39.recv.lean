/-! THE PAIR TAKES LETTERS IN -/
theorem xS2.came0 {σ : xS} {b : Nat} {u : Nat → Int32} {s : Int32} (h : xS2 σ b u) : xS2 (xu (xu (xu σ b 9 (σ b 9 + s)) b 10 (xu σ b 9 (σ b 9 + s) b 10 + 1)) b 11 (xu (xu σ b 9 (σ b 9 + s)) b 10 (xu σ b 9 (σ b 9 + s) b 10 + 1) b 11 + 1)) b (mCame0 s u) := by
  obtain ⟨k1, k2, k3, k4, k5, k6, k7, k8, k9, k10, k11⟩ := h
  unfold xS2
  rw [xu_same, xu_same, xu_same]
  refine ⟨?_, ?_, ?_, ?_, ?_, ?_, ?_, ?_, ?_, ?_, ?_⟩
  · rw [mCame0_n (by decide) (by decide) (by decide), up_n (by decide), up_n (by decide), up_n (by decide), k1]
  · rw [mCame0_n (by decide) (by decide) (by decide), up_n (by decide), up_n (by decide), up_n (by decide), k2]
  · rw [mCame0_n (by decide) (by decide) (by decide), up_n (by decide), up_n (by decide), up_n (by decide), k3]
  · rw [mCame0_n (by decide) (by decide) (by decide), up_n (by decide), up_n (by decide), up_n (by decide), k4]
  · rw [mCame0_n (by decide) (by decide) (by decide), up_n (by decide), up_n (by decide), up_n (by decide), k5]
  · rw [mCame0_n (by decide) (by decide) (by decide), up_n (by decide), up_n (by decide), up_n (by decide), k6]
  · rw [mCame0_8, up_n (by decide), up_n (by decide), up_s, k7]
  · rw [mCame0_9, up_n (by decide), up_s, up_n (by decide), k8]
  · rw [mCame0_10, up_s, up_n (by decide), up_n (by decide), k9]
  · rw [mCame0_n (by decide) (by decide) (by decide), up_n (by decide), up_n (by decide), up_n (by decide), k10]
  · rw [mCame0_n (by decide) (by decide) (by decide), up_n (by decide), up_n (by decide), up_n (by decide), k11]
theorem pL_recv {b st t r W o a x : Nat} {V : Nat → Int32} {F : Nat → Nat} {KK : xS → Option (Int32 × xS)} (hst : st < b ∨ b + 9 ≤ st) (hV0 : V 0 = nI r) (hr : r ≤ 9) (ht : t < 2 ^ 29) : ∀ (q i fuel n c d : Nat) (T : Nat → Nat) (u : Nat → Int32) (σ : xS), xQ2 σ b u o n → σ st = V → xC1 u W o n c a d x T → xC2 u t t o c a F → xC3 u t n → c = a + i → i + q = o → q < fuel →
    ∃ z n2, L_X2_receiveLetters_16 b (nI t) 4 st KK fuel (nI i) σ = KK z ∧ xfr σ z b (b + 9) ∧ xQ2 z b (mComes (nI t) (nI (t + r)) (V 1) q i u) o n2 := by
  intro q
  induction q with
  | zero =>
    intro i fuel n c d T u σ hQ hV k1 k2 k3 hc hi hf
    have ho := k1.2.2.2.2.2.2.1
    obtain ⟨g, rfl⟩ : ∃ g, fuel = g + 1 := ⟨fuel - 1, by omega⟩
    have hcnt : σ (b + 1) 3 = nI o := by obtain ⟨w, hw⟩ := hQ.2.2.2.2.2.1; exact hw.1
    refine ⟨σ, n, ?_, xfr.refl, hQ⟩
    rw [L_X2_receiveLetters_16, hcnt, if_pos (nI_le (by omega) (by omega))]
  | succ q ih =>
    intro i fuel n c d T u σ hQ hV k1 k2 k3 hc hi hf
    have ho := k1.2.2.2.2.2.2.1
    obtain ⟨g, rfl⟩ : ∃ g, fuel = g + 1 := ⟨fuel - 1, by omega⟩
    obtain ⟨w, hw⟩ := hQ.2.2.2.2.2.1
    have hFi : u (15 + 2 * i + 1) = nI (F i) := k2.1 i (by omega)
    have hhi : F i ≤ t + 9 := k2.2.2.2.2.1 i (by omega)
    have hci : c - a = i := by omega
    rw [L_X2_receiveLetters_16, hw.1, if_neg (nI_ge (by omega) (by omega)), pD_time hw (by omega) (by omega) (by decide)]
    simp only [xbI_s]
    by_cases h : u (15 + 2 * i + 1) = nI t
    · rw [mComes, if_pos h, if_neg (fun q => q h), pD_number hw (by omega) (by omega) (by decide)]
      simp only [xbI_s, xlet_s, xjn_s]
      have hF : F i = t := (nI_eq (by omega) (by omega)).mp (hFi.symm.trans h)
      have hcap := k1.cap
      have k10 := k1.came0 (s := u (15 + 2 * i)) (by omega)
      obtain ⟨n9, d9, T9, g1, g3⟩ := k3.came (t1 := nI t) (wait := V 1) (s := u (15 + 2 * i)) k1 (by omega) hr ht
      have g2 := k2.came (t1 := nI t) (tt := nI (t + r)) (wait := V 1) (s := u (15 + 2 * i)) ho (by rw [hci, hF]) (by omega)
      obtain ⟨σ1, hσ1⟩ : ∃ y, y = xu (xu (xu σ b 9 (σ b 9 + u (15 + 2 * i))) b 10 (xu σ b 9 (σ b 9 + u (15 + 2 * i)) b 10 + 1)) b 11 (xu (xu σ b 9 (σ b 9 + u (15 + 2 * i))) b 10 (xu σ b 9 (σ b 9 + u (15 + 2 * i)) b 10 + 1) b 11 + 1) := ⟨_, rfl⟩
      rw [← hσ1]
      have f1 : xfr σ σ1 b (b + 9) := fun y hy => by rw [hσ1, xu_other (by omega), xu_other (by omega), xu_other (by omega)]
      have fo : ∀ y, y ≠ b → σ1 y = σ y := fun y hy => by rw [hσ1, xu_other hy, xu_other hy, xu_other hy]
      have hQ1 : xQ2 σ1 b (mCame0 (u (15 + 2 * i)) u) o n := by
        obtain ⟨w2, hw2⟩ := hQ.2.2.2.2.2.2
        refine ⟨by rw [hσ1]; exact hQ.1.came0, k10.1, k10.2.1, ho, by omega, ⟨w, ?_⟩, ⟨w2, ?_⟩⟩
        · exact (hw.ex (fun y p q => fo y (by omega))).cg (fun j hj => ⟨mCame0_n (by omega) (by omega) (by omega), rfl, mCame0_n (by omega) (by omega) (by omega)⟩)
        · exact (hw2.ex (fun y p q => fo y (by omega))).cg (fun j hj => ⟨mCame0_n (by omega) (by omega) (by omega), rfl, mCame0_n (by omega) (by omega) (by omega)⟩)
      have hV1 : σ1 st = V := by rw [f1 st hst, hV]
      have h11 : σ1 b 11 = u 10 + 1 := by rw [hQ1.1.2.2.2.2.2.2.2.2.1, mCame0_10]
      have h12 : σ1 b 12 = u 11 := by rw [hQ1.1.2.2.2.2.2.2.2.2.2.1, mCame0_n (by decide) (by decide) (by decide)]
      have k30 : xC3 (mCame0 (u (15 + 2 * i)) u) t n := k3.cg (mCame0_n (by decide) (by decide) (by decide)) (fun j hj => mCame0_n (by omega) (by omega) (by omega))
      -- an answer sets out
      have ans : mCame (nI t) (nI (t + r)) (V 1) (u (15 + 2 * i)) u = mAns (nI (t + r)) (mCame0 (u (15 + 2 * i)) u) → ∃ z n2, (if xin (0 : Int32) 4 = true then xbV (F_X2_sendAnswer b (nI t) (V (0 : Int32).toNatClampNeg) σ1) (fun (σ19 : xS) => L_X2_receiveLetters_16 b (nI t) 4 st KK g (nI i + 1) σ19) else none) = KK z ∧ xfr σ z b (b + 9) ∧ xQ2 z b (mComes (nI t) (nI (t + r)) (V 1) q (i + 1) (mCame (nI t) (nI (t + r)) (V 1) (u (15 + 2 * i)) u)) o n2 := by
        intro he
        have hn6 : n < 6 := by omega
        obtain ⟨z1, e1, f2, q2⟩ := pP_answer (now := nI t) (trav := nI r) hQ1 hn6 (by rw [nI_add]; exact k30.coh (by omega))
        rw [nI_add, ← he] at q2
        obtain rfl : n9 = n + 1 := by
          have a1 := g1.2.1
          rw [he, mAns_13, k10.2.1, nI_1] at a1
          exact ((nI_eq (by omega) (by have := g1.cap; omega)).mp a1).symm
        obtain ⟨z, n2, r1, r2, r3⟩ := ih (i + 1) g (n + 1) (c + 1) d9 T9 _ z1 q2 (by rw [f2 st hst, hV1]) g1 g2 g3 (by omega) (by omega) (by omega)
        refine ⟨z, n2, ?_, (f1.trans f2).trans r2, r3⟩
        rw [if_pos i02, cl_0, hV0, e1]
        simp only [xbV_s, nI_1]
        exact r1
      rw [h11, h12, hV1]
      by_cases h2 : u 10 + 1 = 2
      · rw [if_pos h2]
        exact ans (by unfold mCame; rw [if_pos h2])
      rw [if_neg h2, if_pos i12, cl_1]
      by_cases hw0 : V 1 = 0
      · rw [if_neg (fun q => q hw0)]
        exact ans (by unfold mCame; rw [if_neg h2, if_neg (fun q => q hw0)])
      rw [if_pos hw0]
      by_cases hm1 : u 11 = -1
      · rw [if_neg (fun q => q hm1), if_pos i12]
        have he : mCame (nI t) (nI (t + r)) (V 1) (u (15 + 2 * i)) u = upd (mCame0 (u (15 + 2 * i)) u) 11 (nI t + V 1) := by unfold mCame; rw [if_neg h2, if_pos hw0, if_neg (fun q => q hm1)]
        rw [he] at g1 g2 g3 ⊢
        obtain rfl : n9 = n := by
          have a1 := g1.2.1
          rw [up_n (by decide), k10.2.1] at a1
          exact ((nI_eq (by omega) (by have := g1.cap; omega)).mp a1).symm
        have fo2 : ∀ y, y ≠ b → xu σ1 b 12 (nI t + V 1) y = σ1 y := fun y hy => xu_other hy
        have hQ3 : xQ2 (xu σ1 b 12 (nI t + V 1)) b (upd (mCame0 (u (15 + 2 * i)) u) 11 (nI t + V 1)) o n9 := by
          obtain ⟨m1, m2, m3, m4, m5, ⟨y1, m6⟩, ⟨y2, m7⟩⟩ := hQ1
          obtain ⟨s1, s2, s3, s4, s5, s6, s7, s8, s9, s10, s11⟩ := m1
          refine ⟨?_, by rw [up_n (by decide), m2], by rw [up_n (by decide), m3], m4, m5, ⟨y1, (m6.ex (fun y p q => fo2 y (by omega))).cg (fun j hj => ⟨up_n (by omega), rfl, up_n (by omega)⟩)⟩, ⟨y2, (m7.ex (fun y p q => fo2 y (by omega))).cg (fun j hj => ⟨up_n (by omega), rfl, up_n (by omega)⟩)⟩⟩
          unfold xS2
          rw [xu_same]
          exact ⟨by rw [up_n (by decide), up_n (by decide), s1], by rw [up_n (by decide), up_n (by decide), s2], by rw [up_n (by decide), up_n (by decide), s3], by rw [up_n (by decide), up_n (by decide), s4], by rw [up_n (by decide), up_n (by decide), s5], by rw [up_n (by decide), up_n (by decide), s6], by rw [up_n (by decide), up_n (by decide), s7], by rw [up_n (by decide), up_n (by decide), s8], by rw [up_n (by decide), up_n (by decide), s9], by rw [up_s, up_s], by rw [up_n (by decide), up_n (by decide), s11]⟩
        obtain ⟨z, n2, r1, r2, r3⟩ := ih (i + 1) g n9 (c + 1) d9 T9 _ _ hQ3 (by rw [xu_other (by omega), hV1]) g1 g2 g3 (by omega) (by omega) (by omega)
        refine ⟨z, n2, ?_, (f1.trans (xfr_xu (Nat.le_refl _) (by omega))).trans r2, r3⟩
        rw [nI_1]
        exact r1
      · rw [if_pos hm1]
        have he : mCame (nI t) (nI (t + r)) (V 1) (u (15 + 2 * i)) u = mCame0 (u (15 + 2 * i)) u := by unfold mCame; rw [if_neg h2, if_pos hw0, if_pos hm1]
        rw [he] at g1 g2 g3 ⊢
        obtain rfl : n9 = n := by
          have a1 := g1.2.1
          rw [k10.2.1] at a1
          exact ((nI_eq (by omega) (by have := g1.cap; omega)).mp a1).symm
        obtain ⟨z, n2, r1, r2, r3⟩ := ih (i + 1) g n9 (c + 1) d9 T9 _ _ hQ1 hV1 g1 g2 g3 (by omega) (by omega) (by omega)
        refine ⟨z, n2, ?_, f1.trans r2, r3⟩
        rw [nI_1]
        exact r1
    · rw [mComes, if_neg h, if_pos h]
      exact ⟨σ, n, rfl, xfr.refl, hQ⟩
