/-! UNDO, SLOTS -/
section ZU
variable {A : zA} {T W : Nat}
theorem z_undo3 {x : Nat} (hl : A.2.1 = []) : zT x (F_X5_undo x) 3 0 A A := by
  refine zT_look (fun σ hσ => ?_)
  obtain ⟨y, -, -, h3, -⟩ := hσ.2.1
  rw [hl] at h3
  have h3 : σ (x + 46) 2 = 0 := h3
  unfold F_X5_undo
  rw [xjn_s, h3, if_pos (by decide)]; dsimp only; rw [F5_dem03, xbT_3]
theorem z_undo {x : Nat} {r : Nat → Int32} {l : List (Nat → Int32)} (h : zAP A T W) (hl : A.2.1 = r :: l) : zT x (F_X5_undo x) 0 (nI l.length) A (r, l, A.2.2) := by
  intro σ hσ
  obtain ⟨hQ, ⟨y, hy, h1, h3, h4, h5⟩, hK⟩ := hσ
  rw [hl] at h1 h3 h5
  have hr : zP r T W := h.2.1 r (by rw [hl]; exact List.mem_cons_self)
  rw [List.length_cons] at h1 h3
  obtain ⟨c, hc⟩ : ∃ c, c = l.length := ⟨_, rfl⟩
  rw [← hc] at h1 h3 ⊢
  obtain ⟨x2, hx2⟩ : ∃ q, q = (y + 13) % 14 := ⟨_, rfl⟩
  have g3 := h5 0 r (by rw [List.getElem?_cons_zero])
  rw [Nat.sub_zero, ← hx2] at g3
  obtain ⟨σa, hσa⟩ : ∃ q, q = xu (xu σ (x + 46) 1 (nI x2)) (x + 46) 2 (nI c) := ⟨_, rfl⟩
  have fra : ∀ i, i ≠ x + 46 → σa i = σ i := fun i a => by rw [hσa, xu_other a, xu_other a]
  have sa1 : σa (x + 46) 1 = nI x2 := by rw [hσa, xu_same, up_n (by decide), xu_same, up_s]
  obtain ⟨z, c1, c2, c3⟩ := zQ.copy (σ := σa) (p := x + 3) hr (g3.ex (fun i a b => fra i (by omega))) (by omega)
  have zc : z (x + 46) 2 = nI c := by rw [c2 _ (by omega), hσa, xu_same, up_s]
  have mod : (nI y + 14 - 1) - (nI y + 14 - 1) / 14 * 14 = nI x2 := by
    rw [show nI y + 14 = nI (y + 14) from nI_add y 14, nI_s1 (by omega), show y + 14 - 1 = y + 13 by omega, show (14 : Int32) = nI 14 from rfl, pk_rem (by omega) (by decide) (by decide), hx2]
  refine ⟨z, ?_, fun i hi => by rw [c2 i (by omega), fra i (by omega)], c3, ⟨x2, by omega, (show l.length ≤ 14 by omega), by rw [← hc]; exact zc, by rw [c2 _ (by omega)]; exact sa1, fun j r2 hr2 => ?_⟩, hK.ex ?_ (fun i a b => ?_)⟩
  · have e1 : ∀ v, (xu σ (x + 46) 1 v) (x + 46) 2 = nI (c + 1) := fun v => by rw [xu_same, up_n (by decide), h3]
    unfold F_X5_undo F_X1_takeBack
    rw [xjn_s, h3, if_neg (nI_nle (by omega) (by omega))]; dsimp only; rw [F5_dem1, xbT_0, h3, if_neg (nI_nle (by omega) (by omega)), h4, mod, xlet_s, e1, nI_s1 (by omega), Nat.add_sub_cancel, xlet_s, ← hσa, sa1, if_neg (nI_pos (by omega)), if_neg (nI_ge (a := x2) (b := 14) (by omega) (by decide)), if_pos (xin_nI (by omega) (by decide)), nI_clamp (by omega), c1, xbV_s, xbV_s, zc]
  · have q := h5 (j + 1) r2 (by rw [List.getElem?_cons_succ]; exact hr2)
    have hj : j < c := by
      rw [hc]
      exact (List.getElem?_eq_some_iff.mp hr2).1
    rw [show (x2 + 13 - j) % 14 = (y + 13 - (j + 1)) % 14 by omega]
    exact q.ex (fun i a b => by rw [c2 i (by omega), fra i (by omega)])
  · rw [c2 _ (by omega), fra _ (by omega)]
  · rw [c2 i (by omega), fra i (by omega)]
theorem z_save1 {x : Nat} {c : Int32} (hc : c < 0 ∨ 1 < c) : zT x (F_X5_save x c) 1 0 A A := by
  refine zT_look (fun σ hσ => ?_)
  unfold F_X5_save
  rw [pF_within2, if_pos (show c < 0 ∨ 1 < c from hc), xbI_s, F5_dem01, xbT_1]
theorem z_save {x s : Nat} (h : zAP A T W) (hs : s ≤ 1) : zT x (F_X5_save x (nI s)) 0 (A.1 1) A (A.1, A.2.1, fun i => if i = s then some A.1 else A.2.2 i) := by
  intro σ hσ
  obtain ⟨hQ, hM, hK⟩ := hσ
  obtain ⟨z, c1, c2, c3⟩ := zQ.copy (p := x + 738 + 43 * s) h.1 hQ (by omega)
  have vn : vp_nar .boolean (1 : Int32) = 1 := by decide
  obtain ⟨σ1, hσ1⟩ : ∃ y, y = xu z (x + 651) s 1 := ⟨_, rfl⟩
  have fr1 : ∀ i, i ≠ x + 651 → ¬ (x + 738 + 43 * s ≤ i ∧ i < x + 738 + 43 * s + 43) → σ1 i = σ i := fun i a c => by
    rw [hσ1, xu_other a, c2 i (by omega)]
  have fz : ∀ i, i ≠ x + 651 → σ1 i = z i := fun i a => by rw [hσ1, xu_other a]
  have z3 : σ1 (x + 3) 1 = A.1 1 := by
    rw [fr1 _ (by omega) (by omega)]
    exact hQ.1.2.1
  refine ⟨σ1, ?_, fun i hi => fr1 i (by omega) (by omega), hQ.ex (fun i a b => fr1 i (by omega) (by omega)), hM.ex (fun i a b => fr1 i (by omega) (by omega)), fun s2 hs2 => ?_⟩
  · unfold F_X5_save
    rw [show F_X5_isWithin (nI s) 0 1 σ = _ from pF_wiN (a := 0) (b := 1) (Nat.zero_le _) hs (by decide), xbI_s, F5_dem1, xbT_0, if_pos (xin_nI (by omega) (by decide)), nI_clamp (by omega), c1, xbV_s, if_pos (xin_nI (by omega) (by decide)), vn, xlet_s, ← hσ1, z3]
  · have e651 : σ1 (x + 651) = upd (σ (x + 651)) s 1 := by rw [hσ1, xu_same, c2 _ (by omega)]
    rw [e651]
    by_cases e : s2 = s
    · subst e
      exact Or.inr ⟨A.1, if_pos rfl, up_s, c3.ex (fun i a b => fz i (by omega))⟩
    · rw [up_n e]
      rcases hK s2 hs2 with ⟨g1, g2⟩ | ⟨r, g1, g2, g3⟩
      · exact Or.inl ⟨by show (if s2 = s then _ else _) = _; rw [if_neg e]; exact g1, g2⟩
      · exact Or.inr ⟨r, by show (if s2 = s then _ else _) = _; rw [if_neg e]; exact g1, g2, g3.ex (fun i a b => fr1 i (by omega) (by omega))⟩
theorem z_restore1 {x : Nat} {c : Int32} (hc : c < 0 ∨ 1 < c) : zT x (F_X5_restore x c) 1 0 A A := by
  refine zT_look (fun σ hσ => ?_)
  unfold F_X5_restore
  rw [pF_within2, if_pos (show c < 0 ∨ 1 < c from hc), xbI_s, F5_dem01, xbT_1]
theorem z_restore3 {x s : Nat} (hs : s ≤ 1) (hn : A.2.2 s = none) : zT x (F_X5_restore x (nI s)) 3 0 A A := by
  refine zT_look (fun σ hσ => ?_)
  have g2 : σ (x + 651) s = 0 := by
    rcases hσ.2.2 s (by omega) with ⟨-, g⟩ | ⟨r, g, -⟩
    · exact g
    · rw [hn] at g; cases g
  unfold F_X5_restore
  rw [show F_X5_isWithin (nI s) 0 1 σ = _ from pF_wiN (a := 0) (b := 1) (Nat.zero_le _) hs (by decide), xbI_s, F5_dem1, xbT_0, if_pos (xin_nI (by omega) (by decide)), nI_clamp (by omega), g2, xlet_s, F5_dem03, xbT_3]
theorem z_restore {x s : Nat} {r : Nat → Int32} (h : zAP A T W) (hs : s ≤ 1) (hn : A.2.2 s = some r) : zT x (F_X5_restore x (nI s)) 0 (r 1) A (r, [], A.2.2) := by
  intro σ hσ
  obtain ⟨hQ, ⟨y, hy, h1, h3, h4, h5⟩, hK⟩ := hσ
  obtain ⟨g1, g2⟩ : σ (x + 651) s = 1 ∧ zQ σ (x + 738 + 43 * s) r := by
    rcases hK s (by omega) with ⟨g, -⟩ | ⟨r2, g, g2, g3⟩
    · rw [hn] at g; cases g
    · rw [hn] at g
      obtain rfl := Option.some.inj g
      exact ⟨g2, g3⟩
  obtain ⟨z, c1, c2, c3⟩ := zQ.copy (p := x + 3) (h.2.2 s r hn) g2 (by omega)
  obtain ⟨σ1, hσ1⟩ : ∃ q, q = xu z (x + 46) 2 0 := ⟨_, rfl⟩
  have fz : ∀ i, i ≠ x + 46 → σ1 i = z i := fun i a => by rw [hσ1, xu_other a]
  have zt : σ1 (x + 3) 1 = r 1 := by
    rw [fz _ (by omega)]
    exact c3.1.2.1
  refine ⟨σ1, ?_, fun i hi => by rw [fz i (by omega), c2 i (by omega)], c3.ex (fun i a b => fz i (by omega)), ⟨y, hy, by show 0 ≤ 14; omega, ?_, ?_, fun j r2 hr2 => ?_⟩, hK.ex ?_ (fun i a b => ?_)⟩
  · unfold F_X5_restore F_X1_forgetAll
    rw [show F_X5_isWithin (nI s) 0 1 σ = _ from pF_wiN (a := 0) (b := 1) (Nat.zero_le _) hs (by decide), xbI_s, F5_dem1, xbT_0, if_pos (xin_nI (by omega) (by decide)), nI_clamp (by omega), g1, xlet_s, F5_dem1, xbT_0, if_pos (xin_nI (by omega) (by decide)), c1, xbV_s, xlet_s, xbV_s, ← hσ1, zt]
  · rw [hσ1, xu_same, up_s]; rfl
  · rw [hσ1, xu_same, up_n (by decide), c2 _ (by omega)]; exact h4
  · have hr2 : ([] : List (Nat → Int32))[j]? = some r2 := hr2
    rw [List.getElem?_nil] at hr2; cases hr2
  · rw [fz _ (by omega), c2 _ (by omega)]
  · rw [fz i (by omega), c2 i (by omega)]
theorem zAP_undo {r : Nat → Int32} {l : List (Nat → Int32)} (h : zAP A T W) (hl : A.2.1 = r :: l) : zAP (r, l, A.2.2) T W :=
  ⟨h.2.1 r (by rw [hl]; exact List.mem_cons_self), fun r2 h2 => h.2.1 r2 (by rw [hl]; exact List.mem_cons_of_mem _ h2), h.2.2⟩
theorem zAP_save {s : Nat} (h : zAP A T W) : zAP (A.1, A.2.1, fun i => if i = s then some A.1 else A.2.2 i) T W := by
  refine ⟨h.1, h.2.1, fun i r hr => ?_⟩
  have hr : (if i = s then some A.1 else A.2.2 i) = some r := hr
  by_cases e : i = s
  · rw [if_pos e] at hr
    obtain rfl := Option.some.inj hr
    exact h.1
  · rw [if_neg e] at hr
    exact h.2.2 i r hr
theorem zAP_restore {s : Nat} {r : Nat → Int32} (h : zAP A T W) (hn : A.2.2 s = some r) : zAP (r, [], A.2.2) T W :=
  ⟨h.2.2 s r hn, fun r2 h2 => absurd h2 List.not_mem_nil, h.2.2⟩
/-! LOOKS AHEAD -/
theorem z_done1 {x : Nat} {k : Int32} (h : zAP A T W) (hk : rBad (mN (A.1 0)) k) : zT x (F_X5_doneIn x k) 1 0 A A := by
  obtain ⟨⟨m, t, tr, wt, sz, ms, L, w, h1, -, -, -⟩, -⟩ := h
  rw [h1.mm] at hk
  refine zT_look (fun σ hσ => ?_)
  have hQ : xQ3 σ (x + 3) A.1 L := hσ.1.to h1
  unfold F_X5_doneIn
  rw [pF_isW0 (hQ.1.1.trans h1.1.1) hk, xbI_s, F5_ref1, xbT_1]
theorem z_done {x j : Nat} (h : zAP A T W) (hT : T < 90000) (hW : W < 2 ^ 24) (hj : j < mN (A.1 0)) : zT x (F_X5_doneIn x (nI j)) 0 (rVal 0 (rFst (rTick 0 (mN (A.1 0))) (rDn j) 400 A.1)) A A := by
  obtain ⟨m, t, tr, wt, sg, ms, L, w, h1, -, ht, hw⟩ := id h.1
  have hm4 := h1.m4
  rw [h1.mm] at hj ⊢
  intro σ hσ
  have hQ : xQ3 σ (x + 3) A.1 L := hσ.1.to h1
  obtain ⟨z, c1, c2, c3⟩ := zQ.copy (p := x + 695) h.1 hσ.1 (by omega)
  obtain ⟨z2, d1, d2⟩ := pT_until (M := 400) hj (by omega) (by omega) (by omega) h1 (c3.to h1)
  have fr := c2.trans d2
  refine ⟨z2, ?_, fr.sub (by omega) (by omega), hσ.fr fr (by omega) (by omega)⟩
  unfold F_X5_doneIn
  rw [pF_isWriter0 (hQ.1.1.trans h1.1.1) hj hm4, xbI_s, F5_ref0, xbT_0, c1, xbV_s, show F_X3_ticksUntilDone (x + 695) (nI j) 400 z = _ from d1, xbI_s]
theorem z_there1 {x : Nat} {k s : Int32} (h : zAP A T W) (hk : rBad (mN (A.1 0)) k) : zT x (F_X5_thereIn x k s) 1 0 A A := by
  obtain ⟨⟨m, t, tr, wt, sz, ms, L, w, h1, -, -, -⟩, -⟩ := h
  rw [h1.mm] at hk
  refine zT_look (fun σ hσ => ?_)
  have hQ : xQ3 σ (x + 3) A.1 L := hσ.1.to h1
  unfold F_X5_thereIn
  rw [pT_fW, pT_fNote0 hQ.1 h1.1.1 hk, xbI_s, xbI_s, if_pos (by decide), F5_ref1, xbT_1]
theorem z_there2 {x j : Nat} {s : Int32} (h : zAP A T W) (hj : j < mN (A.1 0)) (hs : s < 1 ∨ 500 < s) : zT x (F_X5_thereIn x (nI j) s) 2 0 A A := by
  obtain ⟨⟨m, t, tr, wt, sz, ms, L, w, h1, -, -, -⟩, -⟩ := h
  have hm4 := h1.m4
  rw [h1.mm] at hj
  refine zT_look (fun σ hσ => ?_)
  have hQ : xQ3 σ (x + 3) A.1 L := hσ.1.to h1
  unfold F_X5_thereIn
  rw [pT_fW, pT_fNote1 hQ.1 h1.1.1 hj hm4 hs, xbI_s, xbI_s, if_pos (by decide), F5_ref2, xbT_2]
theorem z_there0 {x j y : Nat} (h : zAP A T W) (hj : j < mN (A.1 0)) (hy1 : 1 ≤ y) (hy : y ≤ 500) (hr : (9999 : Int32) < rRow A.1 j 0 + nI y) : zT x (F_X5_thereIn x (nI j) (nI y)) 0 (-1) A A := by
  obtain ⟨⟨m, t, tr, wt, sz, ms, L, w, h1, -, -, -⟩, -⟩ := h
  have hm4 := h1.m4
  rw [h1.mm] at hj
  refine zT_look (fun σ hσ => ?_)
  have hQ : xQ3 σ (x + 3) A.1 L := hσ.1.to h1
  unfold F_X5_thereIn
  rw [pT_fW, pF_faultOfNote hQ.1 h1.1.1 hj hm4 hy1 hy, if_pos hr, xbI_s, xbI_s, if_neg (by decide)]
theorem z_there {x j y : Nat} (h : zAP A T W) (hT : T < 90000) (hW : W < 2 ^ 24) (hj : j < mN (A.1 0)) (hy1 : 1 ≤ y) (hy : y ≤ 500) (hr : ¬ (9999 : Int32) < rRow A.1 j 0 + nI y) : zT x (F_X5_thereIn x (nI j) (nI y)) 0 (rVal 0 (rFst (rTick 0 (mN (A.1 0))) (rTh j (rRow (rW A.1 j (nI y)) j 2)) 400 (rW A.1 j (nI y)))) A A := by
  obtain ⟨m, t, tr, wt, sg, ms, L, w, h1, -, ht, hw⟩ := id h.1
  have hm4 := h1.m4
  rw [h1.mm] at hj ⊢
  intro σ hσ
  have hQ : xQ3 σ (x + 3) A.1 L := hσ.1.to h1
  obtain ⟨z, c1, c2, c3⟩ := zQ.copy (p := x + 695) h.1 hσ.1 (by omega)
  obtain ⟨z1, a1, a2, a3⟩ := pT_attW (c := 0) (by omega) h1 (c3.to h1) hj hy1 hy hr
  have hR2 := h1.write (by omega) rLo_le1 hj hy hr
  obtain ⟨all, hall⟩ : ∃ q, q = rRow (rW A.1 j (nI y)) j 2 := ⟨_, rfl⟩
  rw [← hall]
  obtain ⟨z2, d1, d2⟩ := pT_there (all := all) hj (by omega) (by omega) hR2 a3
  have fr := (c2.trans a2).trans d2
  have hwr : z1 (x + 695 + 7 + 9 * j) 4 = all := by
    obtain ⟨o, n, q⟩ := a3.1.2.2.2 j (by omega)
    rw [q.1.2.2.1, hall]
  refine ⟨z2, ?_, fr.sub (by omega) (by omega), hσ.fr fr (by omega) (by omega)⟩
  unfold F_X5_thereIn
  rw [pT_fW, pF_faultOfNote hQ.1 h1.1.1 hj hm4 hy1 hy, if_neg hr, xbI_s, xbI_s, if_pos (by decide), F5_ref0, xbT_0, c1, xbV_s, a1, xbI_s, if_pos (xin_nI (by omega) (by decide)), nI_clamp (by omega), hwr, d1, xbI_s]
end ZU
