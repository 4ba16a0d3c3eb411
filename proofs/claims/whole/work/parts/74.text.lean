/-! THE WHOLE TEXT -/
def pErr (n : Nat) (c : Nat → Nat) : Nat → Nat → Int32
  | 0, _ => -1
  | f + 1, pos => if n ≤ pos then -1 else match pCmd n c pos with
    | .inr e => nI e
    | .inl q => pErr n c f q.2.2.2.2
def pRun (n : Nat) (c : Nat → Nat) : Nat → Nat → (Nat → Int32) → Nat → (Nat → Int32) × Nat
  | 0, _, r, o => (r, o)
  | f + 1, pos, r, o => if n ≤ pos then (r, o) else match pCmd n c pos with
    | .inr _ => (r, o)
    | .inl q => pRun n c f q.2.2.2.2 (rDo q.1 q.2.1 q.2.2.1 q.2.2.2.1 r).2 (o + if (rDo q.1 q.2.1 q.2.2.1 q.2.2.2.1 r).1 = true then 0 else 1)
def pHd (n : Nat) (c : Nat → Nat) : (Nat × Nat) ⊕ Nat := if 0 < n ∧ c 0 = 78 then pNm n c 1 4 1 0 1 else .inr 0
theorem pB_inr {α β : Type} {x : α ⊕ Nat} {f : α → β ⊕ Nat} {e : Nat} (h : pB x f = .inr e) : x = .inr e ∨ ∃ a, x = .inl a ∧ f a = .inr e := by
  cases x with
  | inl a => exact Or.inr ⟨a, rfl, h⟩
  | inr e' => exact Or.inl (congrArg Sum.inr (Sum.inr.inj h))
theorem pCmd_er {n : Nat} {c : Nat → Nat} {pos e : Nat} (hx : pCmd n c pos = .inr e) : e < pos + 10 := by
  have P : ∀ {lo hi D q e}, pNm n c lo hi D 0 q = .inr e → e < q + D := fun {lo hi D q e} h => ((pNm_pos (lo := lo) (hi := hi) D 0 q).2 e h).2
  have V : ∀ {lo hi D q v p}, pNm n c lo hi D 0 q = .inl (v, p) → p = q + D := fun {lo hi D q v p} h => ((pNm_pos (lo := lo) (hi := hi) D 0 q).1 v p h).1
  unfold pCmd at hx
  by_cases c1 : c pos = 102
  · rw [if_pos c1] at hx
    rcases pB_inr hx with h1 | ⟨a, h1, h2⟩
    · have := P h1; omega
    · exact absurd h2 (by simp)
  rw [if_neg c1] at hx
  by_cases c2 : c pos = 104
  · rw [if_pos c2] at hx
    rcases pB_inr hx with h1 | ⟨⟨v, p⟩, h1, h2⟩
    · have := P h1; omega
    · have p1 := V h1
      rcases pB_inr h2 with h3 | ⟨a, h3, h4⟩
      · have := P h3; dsimp only at this; omega
      · exact absurd h4 (by simp)
  rw [if_neg c2] at hx
  by_cases c3 : c pos = 112
  · rw [if_pos c3] at hx
    rcases pB_inr hx with h1 | ⟨⟨v, p⟩, h1, h2⟩
    · have := P h1; omega
    · have p1 := V h1
      rcases pB_inr h2 with h3 | ⟨⟨v2, p2⟩, h3, h4⟩
      · have := P h3; dsimp only at this; omega
      · have p3 := V h3
        dsimp only at p3
        rcases pB_inr h4 with h5 | ⟨a, h5, h6⟩
        · have := P h5; dsimp only at this; omega
        · exact absurd h6 (by simp)
  rw [if_neg c3] at hx
  by_cases c4 : c pos = 116
  · rw [if_pos c4] at hx
    rcases pB_inr hx with h1 | ⟨a, h1, h2⟩
    · have := P h1; omega
    · exact absurd h2 (by simp)
  rw [if_neg c4] at hx
  by_cases c5 : c pos = 119
  · rw [if_pos c5] at hx
    rcases pB_inr hx with h1 | ⟨⟨v, p⟩, h1, h2⟩
    · have := P h1; omega
    · have p1 := V h1
      rcases pB_inr h2 with h3 | ⟨a, h3, h4⟩
      · have := P h3; dsimp only at this; omega
      · exact absurd h4 (by simp)
  rw [if_neg c5] at hx
  have := Sum.inr.inj hx
  omega
section PT
variable {n : Nat} {c : Nat → Nat}
theorem pErr_e {d pos e : Nat} (h : ¬ n ≤ pos) (h2 : pCmd n c pos = .inr e) : pErr n c (d + 1) pos = nI e := by rw [pErr, if_neg h, h2]
theorem pErr_k {d pos k a b x p2 : Nat} (h : ¬ n ≤ pos) (h2 : pCmd n c pos = .inl (k, a, b, x, p2)) : pErr n c (d + 1) pos = pErr n c d p2 := by rw [pErr, if_neg h, h2]
theorem pRun_k {d pos k a b x p2 o : Nat} {r : Nat → Int32} (h : ¬ n ≤ pos) (h2 : pCmd n c pos = .inl (k, a, b, x, p2)) : pRun n c (d + 1) pos r o = pRun n c d p2 (rDo k a b x r).2 (o + if (rDo k a b x r).1 = true then 0 else 1) := by rw [pRun, if_neg h, h2]
theorem yTx.fr {σ z : xS} (h : yTx σ n c) (hf : xfr σ z 1 2) (h1 : z 1 1 = σ 1 1) : yTx z n c :=
  ⟨h.1, h1.trans h.2.1, fun i hi => by rw [hf 2 (by omega)]; exact h.2.2 i hi⟩
theorem pL_err {KK : xS → Option (Int32 × xS)} : ∀ (d i fuel pos : Nat) (σ : xS), i + d = 120 → d + 1 < fuel → yTx σ n c → σ 1 2 = nI pos → σ 1 3 = -1 → n ≤ pos + d → pos < 2 ^ 19 → ∃ z, L_X4_firstError_9 1 KK fuel 1 (nI i) σ = KK z ∧ z 1 3 = pErr n c d pos ∧ xfr σ z 1 2 ∧ z 1 1 = σ 1 1 := by
  intro d
  induction d with
  | zero =>
    intro i fuel pos σ hi hf hT h2 h3 hn hp
    obtain ⟨g, rfl⟩ : ∃ g, fuel = g + 1 := ⟨fuel - 1, by omega⟩
    obtain rfl : i = 120 := by omega
    refine ⟨σ, ?_, h3, xfr.refl, rfl⟩
    rw [L_X4_firstError_9, if_neg (by decide), if_pos (by decide)]
  | succ d ih =>
    intro i fuel pos σ hi hf hT h2 h3 hn hp
    obtain ⟨g, rfl⟩ : ∃ g, fuel = g + 1 := ⟨fuel - 1, by omega⟩
    obtain ⟨g', rfl⟩ : ∃ g', g = g' + 1 := ⟨g - 1, by omega⟩
    have hn120 := hT.1
    have hi120 : ¬ (120 : Int32) ≤ nI i := nI_ge (a := i) (b := 120) (by omega) (by decide)
    by_cases hnp : n ≤ pos
    · have e : F_X4_readCommand 1 σ = some (0, σ) := by
        unfold F_X4_readCommand
        rw [if_neg (show ¬ ¬ σ 1 3 = -1 from fun q => q h3), if_neg (show ¬ σ 1 2 < σ 1 1 by rw [h2, hT.2.1]; exact nI_nlt hnp (by omega))]
      refine ⟨σ, ?_, by rw [pErr, if_pos hnp, h3], xfr.refl, rfl⟩
      rw [L_X4_firstError_9, if_neg (by decide), if_neg hi120, e, xbI_s, xlet_s, L_X4_firstError_9, if_pos rfl]
    · rcases pF_cmd hT h2 h3 (by omega) with ⟨k, a, b, x, p2, z, q1, q2, q3, q4, q5, -, -, -, -, q6⟩ | ⟨e, z, q1, q2, q3, q4, q5⟩
      · obtain ⟨-, k2, k3⟩ := pCmd_ok q1
        obtain ⟨z2, e1, e2, e3, e4⟩ := ih (i + 1) (g' + 1) p2 z (by omega) (by omega) (hT.fr q3 q6) q4 q5 (by omega) (by omega)
        refine ⟨z2, ?_, by rw [pErr_k hnp q1, e2], q3.trans e3, e4.trans q6⟩
        rw [L_X4_firstError_9, if_neg (by decide), if_neg hi120, q2, xbI_s, xlet_s, nI_1, e1]
      · refine ⟨z, ?_, by rw [pErr_e hnp q1, q4], q3, q5⟩
        rw [L_X4_firstError_9, if_neg (by decide), if_neg hi120, q2, xbI_s, xlet_s, L_X4_firstError_9, if_pos rfl]
theorem pF_head {σ : xS} (hT : yTx σ n c) : (∃ w p, pHd n c = .inl (w, p) ∧ F_X4_readHead 1 σ = some (nI w, y4 σ (nI p) (-1)) ∧ p = 2 ∧ p ≤ n ∧ 1 ≤ w ∧ w ≤ 4) ∨ ∃ e x z, pHd n c = .inr e ∧ F_X4_readHead 1 σ = some (x, z) ∧ z 1 3 = nI e ∧ xfr σ z 1 2 ∧ z 1 1 = σ 1 1 ∧ e < 2 ^ 20 := by
  have e0 : xu (xu σ 1 2 0) 1 3 (-1) = y4 σ (nI 0) (-1) := rfl
  have hl := pF_letter (σ := y4 σ (nI 0) (-1)) (pos := 0) hT.y4 y4_2 (by decide)
  rw [y4_pl] at hl
  unfold F_X4_readHead pHd
  rw [xlet_s, xlet_s, e0, hl, xbI_s, xjn_s]
  by_cases h : 0 < n ∧ c 0 = 78
  · rw [if_pos h.1, if_pos h, if_pos (show nI (c 0) = 78 by rw [h.2]; rfl)]
    dsimp only
    rcases pF_rn (D := 1) (lo := 1) (hi := 4) (pos := 1) (s := σ) (by decide) (by decide) (by decide) (by decide) hT (by decide) with ⟨w, p, q1, q2, q3⟩ | ⟨e, x, q1, q2, q3⟩
    · obtain ⟨a1, a2, a3⟩ := (pNm_pos (n := n) (c := c) (lo := 1) (hi := 4) 1 0 1).1 w p q1
      refine Or.inl ⟨w, p, q1, ?_, by omega, q3, (a3 (by decide)).1, (a3 (by decide)).2⟩
      rw [show F_X4_readNumber 1 1 1 4 (y4 σ (nI (0 + 1)) (-1)) = _ from q2, xbI_s]
    · refine Or.inr ⟨e, x, y4 σ (nI (e + 1)) (nI e), q1, ?_, y4_3, y4_fr, y4_n (by decide) (by decide), q3⟩
      rw [show F_X4_readNumber 1 1 1 4 (y4 σ (nI (0 + 1)) (-1)) = _ from q2, xbI_s]
  · have hne : ¬ nI (if 0 < n then c 0 else 32) = 78 := by
      by_cases h0 : 0 < n
      · rw [if_pos h0]
        intro q
        exact h ⟨h0, (nI_eq (a := c 0) (b := 78) (by have := (hT.2.2 0 h0).2; omega) (by decide)).mp q⟩
      · rw [if_neg h0]; decide
    rw [if_neg h, if_neg hne]
    dsimp only
    have es : xu (y4 σ (nI (0 + 1)) (-1)) 1 3 0 = y4 σ (nI (0 + 1)) (nI 0) := y4_er
    refine Or.inr ⟨0, 0, y4 σ (nI (0 + 1)) (nI 0), rfl, ?_, y4_3, y4_fr, y4_n (by decide) (by decide), by decide⟩
    rw [xlet_s, es, show F_X4_readNumber 1 1 1 4 (y4 σ (nI (0 + 1)) (nI 0)) = _ from pF_num_sk (D := 1) (lo := 1) (hi := 4) (by decide) (by decide) (by decide), xbI_s]
/-- where the text is wrong; none -/
def pWhole (n : Nat) (c : Nat → Nat) : Int32 := match pHd n c with
  | .inr e => nI e
  | .inl q => pErr n c 120 q.2
theorem pF_firstErr {σ : xS} (hT : yTx σ n c) : ∃ z, F_X4_firstError 1 σ = some (pWhole n c, z) ∧ xfr σ z 1 2 ∧ z 1 1 = σ 1 1 := by
  unfold F_X4_firstError pWhole
  rcases pF_head hT with ⟨w, p, q1, q2, q3, q4, -⟩ | ⟨e, x, z, q1, q2, q3, q4, q5, q6⟩
  · rw [q1, q2, xbI_s]
    have hn := hT.1
    obtain ⟨z, e1, e2, e3, e4⟩ := pL_err (KK := fun (σ3 : xS) => some ((σ3 1 3), σ3)) 120 0 1000 p (y4 σ (nI p) (-1)) (by omega) (by omega) hT.y4 y4_2 y4_3 (by omega) (by omega)
    refine ⟨z, ?_, y4_fr.trans e3, by rw [e4, y4_n (by decide) (by decide)]⟩
    refine (show _ = _ from e1).trans ?_
    rw [e2]
  · rw [q1, q2, xbI_s]
    refine ⟨z, ?_, q4, q5⟩
    have hK : L_X4_firstError_9 1 (fun (σ3 : xS) => some ((σ3 1 3), σ3)) (998 + 1 + 1) 1 (nI 0) z = some (nI e, z) := by
      have ec : F_X4_readCommand 1 z = some (0, z) := by
        unfold F_X4_readCommand
        rw [if_pos (by rw [q3]; exact nI_nm1 (by omega))]
      rw [L_X4_firstError_9, if_neg (by decide), if_neg (by decide), ec, xbI_s, xlet_s, L_X4_firstError_9, if_pos rfl, q3]
    exact hK
/-! the reference's text -/
theorem pL_read {KK1 : xS → Option (Int32 × xS)} : ∀ (d fuel pos o T W : Nat) (s : xS), d + 1 < fuel → n ≤ pos + d → yTm s n c → s 824 10 = nI pos → s 824 11 = nI o → pos < 2 ^ 19 → o + d < 2 ^ 20 → yO (s (824 + 3)) T W → T + 99 * d < 90000 → W + 7200 * d < 2 ^ 24 → ∃ z, L_X6_readText_63 824 187 (824 + 3) (fun (σ9 : xS) => some ((σ9 824 10), σ9)) (fun (σ12 : xS) => some ((-1 : Int32), σ12)) fuel s = some (pErr n c d pos, z) ∧ (pErr n c d pos = -1 → z (824 + 3) = (pRun n c d pos (s (824 + 3)) o).1 ∧ z 824 11 = nI (pRun n c d pos (s (824 + 3)) o).2) ∧ (∀ i, i ≠ 824 → i ≠ 827 → z i = s i) ∧ ∀ j, j ≠ 10 → j ≠ 11 → z 824 j = s 824 j := by
  intro d
  induction d with
  | zero =>
    intro fuel pos o T W s hf hn hT h10 h11 hp ho hO hTT hWW
    obtain ⟨g, rfl⟩ : ∃ g, fuel = g + 1 := ⟨fuel - 1, by omega⟩
    refine ⟨s, ?_, fun _ => ⟨rfl, h11⟩, fun _ _ _ => rfl, fun _ _ _ => rfl⟩
    rw [L_X6_readText_63, if_pos (by rw [hT.2.1, h10]; exact nI_le (by omega) (by omega))]
    rfl
  | succ d ih =>
    intro fuel pos o T W s hf hn hT h10 h11 hp ho hO hTT hWW
    obtain ⟨g, rfl⟩ : ∃ g, fuel = g + 1 := ⟨fuel - 1, by omega⟩
    have hn120 := hT.1
    by_cases hnp : n ≤ pos
    · refine ⟨s, ?_, fun _ => ⟨by rw [pRun, if_pos hnp], by rw [pRun, if_pos hnp, h11]⟩, fun _ _ _ => rfl, fun _ _ _ => rfl⟩
      rw [L_X6_readText_63, if_pos (by rw [hT.2.1, h10]; exact nI_le (by omega) (by omega)), pErr, if_pos hnp]
    · have hlt : ¬ s 824 2 ≤ s 824 10 := by rw [hT.2.1, h10]; exact nI_ge (by omega) (by omega)
      obtain ⟨m1, m2⟩ := pM_cmd hT h10 (by omega) h11 hO (by omega) (by omega)
      cases hq : pCmd n c pos with
      | inr e =>
        refine ⟨xu s 824 10 (nI e), ?_, fun q => ?_, fun i a _ => xu_other a, fun j a _ => by rw [xu_same, up_n a]⟩
        · rw [L_X6_readText_63, if_neg hlt, m1 e hq, xbI_s, if_neg (by decide), pErr_e hnp hq, xu_same, up_s]
        · rw [pErr_e hnp hq] at q
          have he : e < 2 ^ 31 := by have := pCmd_er hq; omega
          exact absurd q (nI_nm1 he)
      | inl q =>
        obtain ⟨k, a, b, x, p2⟩ := q
        obtain ⟨k1, k2, k3⟩ := pCmd_ok hq
        have mm := m2 k a b x p2 hq
        obtain ⟨o2, ho2⟩ : ∃ y, y = o + (if (rDo k a b x (s (824 + 3))).1 = true then 0 else 1) := ⟨_, rfl⟩
        obtain ⟨r2, hr2⟩ : ∃ y, y = (rDo k a b x (s (824 + 3))).2 := ⟨_, rfl⟩
        rw [← ho2, ← hr2] at mm
        have ho3 : o2 ≤ o + 1 := by rw [ho2]; split <;> omega
        have z3 : (yZ s p2 r2 o2) (824 + 3) = r2 := by unfold yZ; rw [xu_other (by decide), xset_same]
        have z10 : (yZ s p2 r2 o2) 824 10 = nI p2 := by unfold yZ; rw [xu_same, up_n (by decide), xset_other (by decide), xu_same, up_s]
        have z11 : (yZ s p2 r2 o2) 824 11 = nI o2 := by unfold yZ; rw [xu_same, up_s]
        have zi : ∀ i, i ≠ 824 → i ≠ 827 → (yZ s p2 r2 o2) i = s i := fun i p q => by unfold yZ; rw [xu_other p, xset_other (show i ≠ 824 + 3 by omega), xu_other p]
        have zj : ∀ j, j ≠ 10 → j ≠ 11 → (yZ s p2 r2 o2) 824 j = s 824 j := fun j p q => by unfold yZ; rw [xu_same, up_n q, xset_other (by decide), xu_same, up_n p]
        have hT2 : yTm (yZ s p2 r2 o2) n c := ⟨hT.1, by rw [zj 2 (by decide) (by decide), hT.2.1], fun i hi => by rw [zi 825 (by decide) (by decide)]; exact hT.2.2 i hi⟩
        have hO2 := pO_do hO (by omega) (by omega) k1
        rw [← hr2] at hO2
        obtain ⟨z, e1, e2, e3, e4⟩ := ih g p2 o2 (T + 99) (W + 7200) (yZ s p2 r2 o2) (by omega) (by omega) hT2 z10 z11 (by omega) (by omega) (by rw [z3]; exact hO2) (by omega) (by omega)
        refine ⟨z, ?_, fun q => ?_, fun i p q => (e3 i p q).trans (zi i p q), fun j p q => (e4 j p q).trans (zj j p q)⟩
        · rw [L_X6_readText_63, if_neg hlt, mm, xbI_s, if_pos (by decide), e1, pErr_k hnp hq]
        · rw [pErr_k hnp hq] at q
          have := e2 q
          rw [pRun_k hnp hq, ← ho2, ← hr2, ← z3]
          exact this
end PT
