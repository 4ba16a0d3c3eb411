theorem mFC {f : Nat → Int32} {w : Int32} : mFirst (mClear f w) = mClear (mFirst f) w := by
  funext i
  unfold mFirst
  by_cases h6 : i = 6
  · subst h6; rw [up_s]; unfold mClear; rw [if_neg (by omega), if_neg (by omega), if_neg (by omega), if_neg (by omega), up_s]
  rw [up_n h6]
  by_cases h5 : i = 5
  · subst h5; rw [up_s]; unfold mClear; rw [if_neg (by omega), if_neg (by omega), if_neg (by omega), if_neg (by omega), up_n (by decide), up_s]
  rw [up_n h5]
  by_cases h4 : i = 4
  · subst h4; rw [up_s]; unfold mClear; rw [if_neg (by omega), if_neg (by omega), if_neg (by omega), if_neg (by omega), up_n (by decide), up_n (by decide), up_s]
  rw [up_n h4]
  by_cases h3 : i = 3
  · subst h3; rw [up_s]; unfold mClear; rw [if_neg (by omega), if_neg (by omega), if_neg (by omega), if_neg (by omega), up_n (by decide), up_n (by decide), up_n (by decide), up_s]
  rw [up_n h3]
  unfold mClear
  by_cases a0 : i = 0
  · rw [if_pos a0, if_pos a0]
  rw [if_neg a0, if_neg a0]
  by_cases a1 : i = 32 ∨ i = 71 ∨ i = 110 ∨ i = 149
  · rw [if_pos a1, if_pos a1]
  rw [if_neg a1, if_neg a1]
  by_cases a2 : i = 42 ∨ i = 81 ∨ i = 120 ∨ i = 159
  · rw [if_pos a2, if_pos a2]
  rw [if_neg a2, if_neg a2]
  by_cases a3 : i < 187 ∧ ¬ (3 ≤ i ∧ i < 7)
  · rw [if_pos a3, if_pos a3]
  · rw [if_neg a3, if_neg a3, up_n h6, up_n h5, up_n h4, up_n h3]
theorem yO_first {f : Nat → Int32} {w : Nat} (h1 : 1 ≤ w) (h4 : w ≤ 4) : yO (mClear (mFirst f) (nI w)) 0 0 :=
  ⟨w, 0, 3, 6, 20, 3, 0, 0, rOK.clear ⟨by omega, by omega, by omega, by omega, by omega, by omega, by omega⟩ rfl rfl rfl rfl h1 h4, by omega, by omega⟩
section PL
variable {n : Nat} {c : Nat → Nat}
theorem pM_text {s : xS} (hT : yTm s n c) : ∃ z, F_X6_readText 824 187 (824 + 3) s = some (pWhole n c, z) ∧ (∀ i, i ≠ 824 → i ≠ 827 → z i = s i) ∧ (∀ j, j ≠ 10 → j ≠ 11 → z 824 j = s 824 j) ∧ ∀ w p, pHd n c = .inl (w, p) → pWhole n c = -1 → z 827 = (pRun n c 120 p (mClear (mFirst (s 827)) (nI w)) 0).1 ∧ z 824 11 = nI (pRun n c 120 p (mClear (mFirst (s 827)) (nI w)) 0).2 := by
  obtain ⟨s2, hs2⟩ : ∃ y, y = xu (xu s 824 11 0) 824 10 0 := ⟨_, rfl⟩
  have hT2 : yTm s2 n c := by rw [hs2]; exact (hT.up (by decide)).up (by decide)
  have fi : ∀ i, i ≠ 824 → s2 i = s i := fun i a => by rw [hs2, xu_other a, xu_other a]
  have fj : ∀ j, j ≠ 10 → j ≠ 11 → s2 824 j = s 824 j := fun j a b => by rw [hs2, xu_same, up_n a, xu_same, up_n b]
  have hn := hT.1
  unfold F_X6_readText pWhole pHd
  rw [xlet_s, xlet_s, ← hs2, hT2.2.1]
  by_cases h0 : 0 < n
  · have e25 : s2 (824 + 1) 0 = nI (c 0) := (hT2.2.2 0 h0).1
    have hc := (hT2.2.2 0 h0).2
    rw [if_neg (nI_ne0 h0 (by omega)), if_pos (by decide), xlet_s, cl0, e25]
    by_cases h78 : c 0 = 78
    · rw [if_pos (show nI (c 0) = 78 by rw [h78]; rfl), if_pos ⟨h0, h78⟩, xlet_s]
      rcases pM_fig (D := 1) (lo := 1) (hi := 4) (pos := 1) (ah := 0) (s := s2) (by decide) (by decide) (by decide) (by decide) hT2 (by decide) (by decide) with ⟨w, p, q1, q2, q3, q4⟩ | ⟨e, q1, q2⟩
      · obtain ⟨a1, a2, a3⟩ := (pNm_pos (n := n) (c := c) (lo := 1) (hi := 4) 1 0 1).1 w p q1
        rw [q1, show F_X6_figures 824 0 1 1 4 (xu s2 824 10 1) = _ from q2, xbI_s, if_pos (nI_nm1 (by omega)), pF_X6_clear, xbV_s, pF_X6_first, xbV_s, xset_same, xset_xset, mFC, xu_other (show 824 + 3 ≠ 824 by decide), fi (824 + 3) (by decide)]
        obtain ⟨s3, hs3⟩ : ∃ y, y = xset (xu s2 824 10 (nI p)) (824 + 3) (mClear (mFirst (s (824 + 3))) (nI w)) := ⟨_, rfl⟩
        have z3 : s3 (824 + 3) = mClear (mFirst (s (824 + 3))) (nI w) := by rw [hs3, xset_same]
        have z10 : s3 824 10 = nI p := by rw [hs3, xset_other (by decide), xu_same, up_s]
        have z11 : s3 824 11 = nI 0 := by rw [hs3, xset_other (by decide), xu_same, up_n (by decide), hs2, xu_same, up_n (by decide), xu_same, up_s]; rfl
        have zi : ∀ i, i ≠ 824 → i ≠ 827 → s3 i = s i := fun i a b => by rw [hs3, xset_other (show i ≠ 824 + 3 by omega), xu_other a, fi i a]
        have zj : ∀ j, j ≠ 10 → j ≠ 11 → s3 824 j = s 824 j := fun j a b => by rw [hs3, xset_other (by decide), xu_same, up_n a, fj j a b]
        have hT3 : yTm s3 n c := ⟨hT.1, by rw [zj 2 (by decide) (by decide), hT.2.1], fun i hi => by rw [zi 825 (by decide) (by decide)]; exact hT.2.2 i hi⟩
        have hO : yO (s3 (824 + 3)) 0 0 := by rw [z3]; exact yO_first (a3 (by decide)).1 q4
        obtain ⟨z, e1, e2, e3, e4⟩ := pL_read (KK1 := fun _ => none) 120 1000 p 0 0 0 s3 (by decide) (by omega) hT3 z10 z11 (by omega) (by decide) hO (by decide) (by decide)
        rw [← hs3]
        refine ⟨z, e1, fun i a b => (e3 i a b).trans (zi i a b), fun j a b => (e4 j a b).trans (zj j a b), fun w' p' hwp hm => ?_⟩
        obtain ⟨rfl, rfl⟩ := Prod.mk.inj (Sum.inl.inj hwp)
        have := e2 hm
        rw [z3] at this
        exact this
      · rw [q1, show F_X6_figures 824 0 1 1 4 (xu s2 824 10 1) = _ from q2, xbI_s, if_neg (fun q => q rfl), xu_same, up_s]
        exact ⟨_, rfl, fun i a _ => by rw [xu_other a, fi i a], fun j a b => by rw [xu_same, up_n a, fj j a b], fun w p h => absurd h (by simp)⟩
    · rw [if_neg (show ¬ nI (c 0) = 78 from fun q => h78 ((nI_eq (a := c 0) (b := 78) (by omega) (by decide)).mp q)), if_neg (fun q => h78 q.2)]
      exact ⟨s2, rfl, fun i a _ => fi i a, fj, fun w p h => absurd h (by simp)⟩
  · obtain rfl : n = 0 := by omega
    rw [if_pos (show nI 0 = 0 from rfl), if_neg (fun q => h0 q.1)]
    exact ⟨s2, rfl, fun i a _ => fi i a, fj, fun w p h => absurd h (by simp)⟩
/-- the class loads -/
theorem pL_load {KK : Int32 → xS → Option xR} : ∀ (d i fuel pos o T W : Nat) (r : Nat → Int32) (σ : xS), i + d = 120 → d < fuel → n ≤ pos + d → yTx σ n c → σ 1 2 = nI pos → σ 1 3 = -1 → pos < 2 ^ 19 → yS σ (0 + 3) r T W → T + 99 * d < 90000 → W + 7200 * d < 2 ^ 24 → pErr n c d pos = -1 → ∃ z, L_X5_load_45 0 KK fuel (nI o) (nI i) σ = KK (nI (pRun n c d pos r o).2) z ∧ yS z (0 + 3) (pRun n c d pos r o).1 (T + 99 * d) (W + 7200 * d) ∧ (∀ i, i ≠ 1 → ¬ (3 ≤ i ∧ i < 46) → z i = σ i) ∧ z 1 1 = σ 1 1 := by
  intro d
  induction d with
  | zero =>
    intro i fuel pos o T W r σ hi hf hn hT h2 h3 hp hS hTT hWW he
    obtain ⟨g, rfl⟩ : ∃ g, fuel = g + 1 := ⟨fuel - 1, by omega⟩
    obtain rfl : i = 120 := by omega
    refine ⟨σ, ?_, hS, fun _ _ _ => rfl, rfl⟩
    rw [L_X5_load_45, if_pos (by decide)]
    rfl
  | succ d ih =>
    intro i fuel pos o T W r σ hi hf hn hT h2 h3 hp hS hTT hWW he
    obtain ⟨g, rfl⟩ : ∃ g, fuel = g + 1 := ⟨fuel - 1, by omega⟩
    have hn120 := hT.1
    have hi120 : ¬ (120 : Int32) ≤ nI i := nI_ge (a := i) (b := 120) (by omega) (by decide)
    by_cases hnp : n ≤ pos
    · have e : F_X4_readCommand (0 + 1) σ = some (0, σ) := by
        unfold F_X4_readCommand
        rw [if_neg (show ¬ ¬ σ (0 + 1) 3 = -1 from fun q => q h3), if_neg (show ¬ σ (0 + 1) 2 < σ (0 + 1) 1 by rw [show σ (0 + 1) 2 = nI pos from h2, show σ (0 + 1) 1 = nI n from hT.2.1]; exact nI_nlt hnp (by omega))]
      refine ⟨σ, ?_, by rw [pRun, if_pos hnp]; exact hS.mono (by omega) (by omega), fun _ _ _ => rfl, rfl⟩
      rw [L_X5_load_45, if_neg hi120, e, xbI_s, if_pos rfl, pRun, if_pos hnp]
    · rcases pF_cmd hT h2 h3 (by omega) with ⟨k, a, b, x, p2, z, q1, q2, q3, q4, q5, v1, v2, v3, v4, q6⟩ | ⟨e, z, q1, q2, q3, q4, q5⟩
      · obtain ⟨k1, k2, k3⟩ := pCmd_ok q1
        have hSz : yS z (0 + 3) r T W := hS.ex (fun i a b => q3 i (by omega))
        obtain ⟨z1, v, a1, a2, a3, a4⟩ := pT_do hSz (by omega) (by omega) k1
        obtain ⟨o2, ho2⟩ : ∃ y, y = o + (if (rDo k a b x r).1 = true then 0 else 1) := ⟨_, rfl⟩
        have hTz : yTx z n c := hT.fr q3 q6
        have hT1 : yTx z1 n c := ⟨hTz.1, by rw [a3 1 (by omega)]; exact hTz.2.1, fun i hi => by rw [a3 2 (by omega)]; exact hTz.2.2 i hi⟩
        rw [pErr_k hnp q1] at he
        obtain ⟨z2, e1, e2, e3, e4⟩ := ih (i + 1) g p2 o2 (T + 99) (W + 7200) _ z1 (by omega) (by omega) (by omega) hT1 (by rw [a3 1 (by omega), q4]) (by rw [a3 1 (by omega), q5]) (by omega) a4 (by omega) (by omega) he
        refine ⟨z2, ?_, ?_, fun i p q => by rw [e3 i p q, a3 i (by omega), q3 i (by omega)], by rw [e4, a3 1 (by omega), q6]⟩
        · rw [L_X5_load_45, if_neg hi120, show F_X4_readCommand (0 + 1) σ = _ from q2, xbI_s, if_neg (by decide), show z (0 + 1) 4 = _ from v1, show z (0 + 1) 5 = _ from v2, show z (0 + 1) 6 = _ from v3, show z (0 + 1) 7 = _ from v4, a1, xbI_s, pRun_k hnp q1, ← ho2]
          by_cases hb : (rDo k a b x r).1 = true
          · have hv : ¬ v = -1 := fun q => by rw [a2.mp q] at hb; exact Bool.noConfusion hb
            rw [if_pos hv, xlet_s, nI_1]
            rw [ho2, if_pos hb] at e1 ⊢
            exact e1
          · have hv : v = -1 := a2.mpr (Bool.eq_false_iff.mpr hb)
            rw [if_neg (fun q => q hv), xlet_s, xlet_s, nI_1, nI_1]
            rw [ho2, if_neg hb] at e1 ⊢
            exact e1
        · rw [pRun_k hnp q1, ← ho2, show T + 99 * (d + 1) = T + 99 + 99 * d by omega, show W + 7200 * (d + 1) = W + 7200 + 7200 * d by omega]
          exact e2
      · rw [pErr_e hnp q1] at he
        exact absurd he (nI_nm1 (by have := pCmd_er q1; omega))
end PL
theorem yX.tx {σ : xS} (h : yX σ) : ∃ n c, yTx σ n c ∧ yTm σ n c := by
  obtain ⟨n, hn, h1, h2, h3⟩ := h
  have hc : ∀ i, i < n → σ 2 i = nI (mN (σ 2 i)) ∧ mN (σ 2 i) ≤ 255 := fun i hi => by
    obtain ⟨-, x, hx, e⟩ := h3 i hi
    rw [e, mN_nI (by omega)]
    exact ⟨rfl, hx⟩
  exact ⟨n, fun i => mN (σ 2 i), ⟨hn, h1, hc⟩, ⟨hn, h2, fun i hi => by rw [(h3 i hi).1]; exact hc i hi⟩⟩
theorem y_errorPosition {T W : Nat} {σ : xS} (h : yR T W σ) : yD T W (F_X5_errorPosition 0) (F_X6_errorPosition 824) σ := by
  obtain ⟨n, c, tx, tm⟩ := h.2.1.tx
  obtain ⟨z, e1, e2, e3⟩ := pF_firstErr tx
  have tm1 : yTm (xu z 824 0 0) n c := by
    refine (show yTm z n c from ⟨tm.1, by rw [e2 824 (by omega)]; exact tm.2.1, fun i hi => by rw [e2 825 (by omega)]; exact tm.2.2 i hi⟩).up (by decide)
  obtain ⟨z2, g1, g2, g3, -⟩ := pM_text tm1
  refine ⟨pWhole n c, z, z2, ?_, ?_, h.ex ⟨fun i hi => ?_, ?_, ?_, ?_⟩⟩
  · unfold F_X5_errorPosition
    rw [show F_X4_firstError (0 + 1) σ = _ from e1, xbI_s]
  · unfold F_X6_errorPosition
    rw [xlet_s, g1, xbI_s]
  · rw [g2 i (by omega) (by omega), xu_other (by omega), e2 i (by omega)]
  · rw [g2 1 (by decide) (by decide), xu_other (by decide), e3]
  · rw [g3 2 (by decide) (by decide), xu_same, up_n (by decide), e2 824 (by omega)]
  · rw [g3 7 (by decide) (by decide), xu_same, up_n (by decide), e2 824 (by omega)]
