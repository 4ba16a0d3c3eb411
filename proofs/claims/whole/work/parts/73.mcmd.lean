def yO (r : Nat → Int32) (T W : Nat) : Prop := ∃ m t tr wt sz ms L w, rOK r m t tr wt sz ms L (rLo 0 m (t + 1)) w ∧ t ≤ T ∧ w ≤ W
theorem yS.o {σ : xS} {p T W : Nat} {r : Nat → Int32} (h : yS σ p r T W) : yO r T W := by
  obtain ⟨m, t, tr, wt, sz, ms, L, w, h1, h2, h3, h4⟩ := h
  exact ⟨m, t, tr, wt, sz, ms, L, w, h1, h2, h3⟩
theorem pO_do {T W k a b d : Nat} {r : Nat → Int32} (h : yO r T W) (hT : T < 90000) (hW : W < 2 ^ 24) (hv : vOK k a b d) : yO (rDo k a b d r).2 (T + 99) (W + 7200) := by
  obtain ⟨m, t, tr, wt, sz, ms, L, w, h1, ht, hw⟩ := h
  have em := h1.mm
  have eL := h1.LL
  have keep : yO r (T + 99) (W + 7200) := ⟨m, t, tr, wt, sz, ms, L, w, h1, by omega, by omega⟩
  rcases hv with ⟨rfl, ha, hb1, hb⟩ | ⟨rfl, ha1, ha, hb, hd1, hd⟩ | ⟨rfl, ha, hb⟩ | ⟨rfl, ha⟩ | ⟨rfl, ha1, ha⟩
  · unfold rDo
    rw [if_pos rfl, em]
    by_cases c : a < m ∧ ¬ (9999 : Int32) < rRow r a 0 + nI b
    · rw [if_pos c]; exact ⟨m, t, tr, wt, sz, ms, L, w + 6, h1.write (by omega) rLo_le1 c.1 hb c.2, by omega, by omega⟩
    · rw [if_neg c]; exact keep
  · unfold rDo
    rw [if_neg (by decide), if_pos rfl, em, eL]
    by_cases c : b < m ∧ L < 8
    · rw [if_pos c]; exact ⟨m, t, tr, wt, sz, ms, L + 1, w, h1.plan c.2 c.1 hd1 hd, by omega, by omega⟩
    · rw [if_neg c]; exact keep
  · unfold rDo
    rw [if_neg (by decide), if_neg (by decide), if_pos rfl, em]
    by_cases c : a < m
    · rw [if_pos c]; exact ⟨m, t, tr, wt, sz, ms, L, w + 6, h1.hold (by omega) rLo_le1 c (b01 hb), by omega, by omega⟩
    · rw [if_neg c]; exact keep
  · unfold rDo
    rw [if_neg (by decide), if_neg (by decide), if_neg (by decide), if_pos rfl, em]
    by_cases c : a < m
    · rw [if_pos c]; exact ⟨m, t, tr, wt, sz, ms, L, w + 6, h1.flush (by omega) rLo_le1 c, by omega, by omega⟩
    · rw [if_neg c]; exact keep
  · unfold rDo
    rw [if_neg (by decide), if_neg (by decide), if_neg (by decide), if_neg (by decide), em]
    obtain ⟨L2, -, ok⟩ := pK_ticks (Nat.le_refl m) a t L w r (by omega) (by omega) h1
    exact ⟨m, t + a, tr, wt, sz, ms, L2, w + 72 * a, ok, by omega, by omega⟩
theorem pF_done0 {σ : xS} : F_X6_done 824 0 σ = some (1, xu σ 824 11 (σ 824 11 + 1)) := by unfold F_X6_done; rw [if_pos rfl, xlet_s]
theorem pF_done1 {σ : xS} : F_X6_done 824 1 σ = some (1, xu σ 824 11 (σ 824 11)) := by unfold F_X6_done; rw [if_neg (by decide), xlet_s, Int32.add_zero]
/-- what the reference's command leaves -/
def yZ (s : xS) (p2 : Nat) (r2 : Nat → Int32) (o : Nat) : xS := xu (xset (xu s 824 10 (nI p2)) (824 + 3) r2) 824 11 (nI o)
theorem yZ_0 {s : xS} {p2 o : Nat} (h : s 824 11 = nI o) : F_X6_done 824 0 (xu s 824 10 (nI p2)) = some (1, yZ s p2 (s (824 + 3)) (o + 1)) := by
  have e : xset (xu s 824 10 (nI p2)) (824 + 3) (s (824 + 3)) = xu s 824 10 (nI p2) := by
    have q := xset_self (σ := xu s 824 10 (nI p2)) (a := 824 + 3)
    rw [show (xu s 824 10 (nI p2)) (824 + 3) = s (824 + 3) from xu_other (by decide)] at q
    exact q
  unfold yZ
  rw [pF_done0, e, xu_same, up_n (by decide), h, nI_1]
theorem yZ_1 {s : xS} {p2 o : Nat} {r2 : Nat → Int32} (h : s 824 11 = nI o) : F_X6_done 824 1 (xset (xu s 824 10 (nI p2)) (824 + 3) r2) = some (1, yZ s p2 r2 o) := by
  unfold yZ
  rw [pF_done1, xset_other (by decide), xu_same, up_n (by decide), h]
theorem pM_fig {n D pos lo hi : Nat} {c : Nat → Nat} {ah : Int32} {s : xS} (h1 : 1 ≤ D) (hD : D ≤ 3) (hhi : hi < 1000) (hlo : lo < 1000) (hT : yTm s n c) (hp : pos < 2 ^ 19) (hah : ¬ ah = -1) : (∃ v2 p2, pNm n c lo hi D 0 pos = .inl (v2, p2) ∧ F_X6_figures 824 ah (nI D) (nI lo) (nI hi) (xu s 824 10 (nI pos)) = some (nI v2, xu s 824 10 (nI p2)) ∧ p2 ≤ n ∧ v2 ≤ hi) ∨ ∃ e, pNm n c lo hi D 0 pos = .inr e ∧ F_X6_figures 824 ah (nI D) (nI lo) (nI hi) (xu s 824 10 (nI pos)) = some (-1, xu s 824 10 (nI e)) := by
  obtain ⟨f1, f2⟩ := pF_fig h1 hD hhi hlo hT hp hah
  cases h : pNm n c lo hi D 0 pos with
  | inl q =>
    obtain ⟨v2, p2⟩ := q
    obtain ⟨-, a2, a3⟩ := (pNm_pos (lo := lo) (hi := hi) D 0 pos).1 v2 p2 h
    exact Or.inl ⟨v2, p2, rfl, f1 v2 p2 h, a2 (by omega), (a3 (by omega)).2⟩
  | inr e => exact Or.inr ⟨e, rfl, f2 e h⟩
theorem pM_cmd {s : xS} {n pos o T W : Nat} {c : Nat → Nat} (hT : yTm s n c) (h10 : s 824 10 = nI pos) (hp : pos < n) (h11 : s 824 11 = nI o) (hO : yO (s (824 + 3)) T W) (hTT : T < 90000) (hWW : W < 2 ^ 24) : (∀ e, pCmd n c pos = .inr e → F_X6_readCommand 824 187 (824 + 3) s = some (0, xu s 824 10 (nI e))) ∧ (∀ k a b d p2, pCmd n c pos = .inl (k, a, b, d, p2) → F_X6_readCommand 824 187 (824 + 3) s = some (1, yZ s p2 (rDo k a b d (s (824 + 3))).2 (o + if (rDo k a b d (s (824 + 3))).1 = true then 0 else 1))) := by
  have hn := hT.1
  obtain ⟨e25, hc255⟩ := hT.2.2 pos hp
  have e25 : s (824 + 1) pos = nI (c pos) := e25
  have lit : ∀ v : Nat, v < 256 → (nI (c pos) = nI v ↔ c pos = v) := fun v hv => nI_eq (by omega) (by omega)
  obtain ⟨m, t, tr, wt, sz, ms, L, w, h1, ht, hw⟩ := hO
  have hm4 := h1.m4
  have hL8 := h1.L8
  have em := h1.mm
  have eL := h1.LL
  have hR : ∀ p : Nat, rOK ((xu s 824 10 (nI p)) (824 + 3)) m t tr wt sz ms L (rLo 0 m (t + 1)) w := fun p => by rw [xu_other (by decide)]; exact h1
  have e27 : ∀ p : Nat, (xu s 824 10 (nI p)) (824 + 3) = s (824 + 3) := fun p => xu_other (by decide)
  have n1 : ∀ v : Nat, v < 2 ^ 31 → ¬ nI v = -1 := fun v hv => nI_nm1 hv
  have sk : ∀ (D lo hi : Nat) (s : xS), 1 ≤ D → D ≤ 3 → F_X6_figures 824 (-1) (nI D) (nI lo) (nI hi) s = some (-1, s) := fun D lo hi s a b => pF_fig_sk a b
  have hne : ¬ (0 : Int32) = -1 := by decide
  unfold F_X6_readCommand pCmd
  rw [h10, if_pos (xin_nI (by omega) (by decide)), nI_clamp (by omega), e25, xlet_s, nI_1, xlet_s]
  by_cases c1 : c pos = 102
  · rw [if_pos c1, if_pos (show nI (c pos) = 102 from (lit 102 (by decide)).mpr c1)]
    rcases pM_fig (D := 1) (lo := 0) (hi := 3) (pos := pos + 1) (by decide) (by decide) (by decide) (by decide) hT (by omega) hne with ⟨a, p, q1, q2, q3, q4⟩ | ⟨e, q1, q2⟩
    · rw [q1, show F_X6_figures 824 0 1 0 3 _ = _ from q2, xbI_s, pB_l, if_neg (n1 a (by omega))]
      refine ⟨fun e he => absurd he (by simp), fun k a' b d p2 he => ?_⟩
      have he := Sum.inl.inj he
      simp only [Prod.mk.injEq] at he
      obtain ⟨rfl, rfl, rfl, rfl, rfl⟩ := he
      unfold rDo
      rw [if_neg (by decide), if_neg (by decide), if_neg (by decide), if_pos rfl, em]
      by_cases g1 : a < m
      · obtain ⟨j, hj, ej⟩ := rFlush_6 h1 g1
        rw [if_pos g1, pS_isW1 (hR p) g1, xbI_s, xjn_s, xjn_s, if_neg (by decide), pS_flush (hR p) g1, xbI_s, e27, ej, if_neg (nI_pos (by omega))]
        dsimp only
        rw [yZ_1 h11, xbI_s, if_neg (by decide)]
        rfl
      · rw [if_neg g1, pS_isW0 (hR p) (rBad_ge g1 (by omega)), xbI_s, xjn_s, xjn_s, if_pos rfl]
        dsimp only
        rw [yZ_0 h11, xbI_s, if_neg (by decide)]
        rfl
    · rw [q1, show F_X6_figures 824 0 1 0 3 _ = _ from q2, xbI_s, pB_r, if_pos rfl]
      exact ⟨fun e' he => by rw [Sum.inr.inj he], fun k a b d p2 he => absurd he (by simp)⟩
  rw [if_neg c1, if_neg (show ¬ nI (c pos) = 102 from fun q => c1 ((lit 102 (by decide)).mp q))]
  by_cases c2 : c pos = 104
  · rw [if_pos c2, if_pos (show nI (c pos) = 104 from (lit 104 (by decide)).mpr c2)]
    rcases pM_fig (D := 1) (lo := 0) (hi := 3) (pos := pos + 1) (by decide) (by decide) (by decide) (by decide) hT (by omega) hne with ⟨a, p, q1, q2, q3, q4⟩ | ⟨e, q1, q2⟩
    · rw [q1, show F_X6_figures 824 0 1 0 3 _ = _ from q2, xbI_s, pB_l]
      dsimp only
      rcases pM_fig (D := 1) (lo := 0) (hi := 1) (pos := p) (ah := nI a) (by decide) (by decide) (by decide) (by decide) hT (by omega) (n1 a (by omega)) with ⟨b, p2, r1, r2, r3, r4⟩ | ⟨e, r1, r2⟩
      · rw [r1, show F_X6_figures 824 (nI a) 1 0 1 _ = _ from r2, xbI_s, pB_l, if_neg (n1 b (by omega))]
        refine ⟨fun e he => absurd he (by simp), fun k a' b' d p2' he => ?_⟩
        have he := Sum.inl.inj he
        simp only [Prod.mk.injEq] at he
        obtain ⟨rfl, rfl, rfl, rfl, rfl⟩ := he
        unfold rDo
        rw [if_neg (by decide), if_neg (by decide), if_pos rfl, em]
        by_cases g1 : a < m
        · obtain ⟨j, hj, ej⟩ := rHold_6 h1 g1 (b01 r4)
          have key : ∀ v, v = nI b → F_X6_holdOn 187 (824 + 3) (nI a) v (xu s 824 10 (nI p2)) = some (nI j, xset (xu s 824 10 (nI p2)) (824 + 3) (rHold (s (824 + 3)) a (nI b))) := by
            intro v hv
            rw [hv, pS_hold (hR p2) g1 (b01 r4), e27, ej]
          rw [if_pos g1, pS_isW1 (hR p2) g1, xbI_s, xjn_s, xjn_s, if_neg (by decide), xjn_s]
          obtain e | e : b = 0 ∨ b = 1 := by omega
          · rw [if_pos (by rw [e]; decide)]
            dsimp only
            rw [key 0 (by rw [e]; rfl), xbI_s, if_neg (nI_pos (by omega)), yZ_1 h11, xbI_s, if_neg (by decide)]
            rfl
          · rw [if_neg (by rw [e]; decide)]
            dsimp only
            rw [key 1 (by rw [e]; rfl), xbI_s, if_neg (nI_pos (by omega)), yZ_1 h11, xbI_s, if_neg (by decide)]
            rfl
        · rw [if_neg g1, pS_isW0 (hR p2) (rBad_ge g1 (by omega)), xbI_s, xjn_s, xjn_s, if_pos rfl]
          dsimp only
          rw [yZ_0 h11, xbI_s, if_neg (by decide)]
          rfl
      · rw [r1, show F_X6_figures 824 (nI a) 1 0 1 _ = _ from r2, xbI_s, pB_r, if_pos rfl]
        exact ⟨fun e' he => by rw [Sum.inr.inj he], fun k a b d p2 he => absurd he (by simp)⟩
    · rw [q1, show F_X6_figures 824 0 1 0 3 _ = _ from q2, xbI_s, pB_r, show F_X6_figures 824 (-1) 1 0 1 _ = _ from sk 1 0 1 _ (by decide) (by decide), xbI_s, if_pos rfl]
      exact ⟨fun e' he => by rw [Sum.inr.inj he], fun k a b d p2 he => absurd he (by simp)⟩
  rw [if_neg c2, if_neg (show ¬ nI (c pos) = 104 from fun q => c2 ((lit 104 (by decide)).mp q))]
  by_cases c3 : c pos = 112
  · rw [if_pos c3, if_pos (show nI (c pos) = 112 from (lit 112 (by decide)).mpr c3)]
    rcases pM_fig (D := 2) (lo := 1) (hi := 99) (pos := pos + 1) (by decide) (by decide) (by decide) (by decide) hT (by omega) hne with ⟨a, p, q1, q2, q3, q4⟩ | ⟨e, q1, q2⟩
    · rw [q1, show F_X6_figures 824 0 2 1 99 _ = _ from q2, xbI_s, pB_l]
      dsimp only
      rcases pM_fig (D := 1) (lo := 0) (hi := 3) (pos := p) (ah := nI a) (by decide) (by decide) (by decide) (by decide) hT (by omega) (n1 a (by omega)) with ⟨b, p2, r1, r2, r3, r4⟩ | ⟨e, r1, r2⟩
      · rw [r1, show F_X6_figures 824 (nI a) 1 0 3 _ = _ from r2, xbI_s, pB_l]
        dsimp only
        rcases pM_fig (D := 3) (lo := 1) (hi := 500) (pos := p2) (ah := nI b) (by decide) (by decide) (by decide) (by decide) hT (by omega) (n1 b (by omega)) with ⟨d, p3, t1, t2, t3, t4⟩ | ⟨e, t1, t2⟩
        · rw [t1, show F_X6_figures 824 (nI b) 3 1 500 _ = _ from t2, xbI_s, pB_l, if_neg (n1 d (by omega))]
          refine ⟨fun e he => absurd he (by simp), fun k a' b' d' p2' he => ?_⟩
          have he := Sum.inl.inj he
          simp only [Prod.mk.injEq] at he
          obtain ⟨rfl, rfl, rfl, rfl, rfl⟩ := he
          have e2 : (xu s 824 10 (nI p3)) (824 + 3) 2 = nI L := (hR p3).1.2.2.1
          unfold rDo
          rw [if_neg (by decide), if_pos rfl, em, eL]
          by_cases g1 : b < m
          · by_cases g2 : L < 8
            · rw [if_pos ⟨g1, g2⟩, pS_isW1 (hR p3) g1, xbI_s, xjn_s, xjn_s, if_neg (by decide), if_pos xin_2, xlet_s, cl_2, e2, if_neg (show ¬ (8 : Int32) ≤ nI L from nI_ge (a := L) (b := 8) g2 (by decide)), pS_plan (hR p3) g2, xbI_s, if_neg (nI_nle (by omega) (by omega)), e27]
              dsimp only
              rw [yZ_1 h11, xbI_s, if_neg (by decide)]
              rfl
            · rw [if_neg (fun q => g2 q.2), pS_isW1 (hR p3) g1, xbI_s, xjn_s, xjn_s, if_neg (by decide), if_pos xin_2, xlet_s, cl_2, e2, if_pos (show (8 : Int32) ≤ nI L from nI_le (a := 8) (b := L) (by omega) (by omega))]
              dsimp only
              rw [yZ_0 h11, xbI_s, if_neg (by decide)]
              rfl
          · rw [if_neg (fun q => g1 q.1), pS_isW0 (hR p3) (rBad_ge g1 (by omega)), xbI_s, xjn_s, xjn_s, if_pos rfl]
            dsimp only
            rw [yZ_0 h11, xbI_s, if_neg (by decide)]
            rfl
        · rw [t1, show F_X6_figures 824 (nI b) 3 1 500 _ = _ from t2, xbI_s, pB_r, if_pos rfl]
          exact ⟨fun e' he => by rw [Sum.inr.inj he], fun k a b d p2 he => absurd he (by simp)⟩
      · rw [r1, show F_X6_figures 824 (nI a) 1 0 3 _ = _ from r2, xbI_s, pB_r, show F_X6_figures 824 (-1) 3 1 500 _ = _ from sk 3 1 500 _ (by decide) (by decide), xbI_s, if_pos rfl]
        exact ⟨fun e' he => by rw [Sum.inr.inj he], fun k a b d p2 he => absurd he (by simp)⟩
    · rw [q1, show F_X6_figures 824 0 2 1 99 _ = _ from q2, xbI_s, pB_r, show F_X6_figures 824 (-1) 1 0 3 _ = _ from sk 1 0 3 _ (by decide) (by decide), xbI_s, show F_X6_figures 824 (-1) 3 1 500 _ = _ from sk 3 1 500 _ (by decide) (by decide), xbI_s, if_pos rfl]
      exact ⟨fun e' he => by rw [Sum.inr.inj he], fun k a b d p2 he => absurd he (by simp)⟩
  rw [if_neg c3, if_neg (show ¬ nI (c pos) = 112 from fun q => c3 ((lit 112 (by decide)).mp q))]
  by_cases c4 : c pos = 116
  · rw [if_pos c4, if_pos (show nI (c pos) = 116 from (lit 116 (by decide)).mpr c4)]
    rcases pM_fig (D := 2) (lo := 1) (hi := 99) (pos := pos + 1) (by decide) (by decide) (by decide) (by decide) hT (by omega) hne with ⟨a, p, q1, q2, q3, q4⟩ | ⟨e, q1, q2⟩
    · rw [q1, show F_X6_figures 824 0 2 1 99 _ = _ from q2, xbI_s, pB_l, if_neg (n1 a (by omega))]
      refine ⟨fun e he => absurd he (by simp), fun k a' b d p2 he => ?_⟩
      have he := Sum.inl.inj he
      simp only [Prod.mk.injEq] at he
      obtain ⟨rfl, rfl, rfl, rfl, rfl⟩ := he
      obtain ⟨S, s1, s2⟩ := pK_signs (Nat.le_refl m) (Nat.zero_le m) a t L w (s (824 + 3)) (by omega) (by omega) h1
      have e6 : ∀ x y : Int32, x + y - x = y := by intro x y; grind
      unfold rDo
      rw [if_neg (by decide), if_neg (by decide), if_neg (by decide), if_neg (by decide), em, pS_ticks (by omega) (by omega) (by omega) (hR p), xbI_s, xjn_s, e27, s2, e6, if_neg (nI_pos (by omega))]
      dsimp only
      rw [yZ_1 h11, xbI_s, if_neg (by decide)]
      rfl
    · rw [q1, show F_X6_figures 824 0 2 1 99 _ = _ from q2, xbI_s, pB_r, if_pos rfl]
      exact ⟨fun e' he => by rw [Sum.inr.inj he], fun k a b d p2 he => absurd he (by simp)⟩
  rw [if_neg c4, if_neg (show ¬ nI (c pos) = 116 from fun q => c4 ((lit 116 (by decide)).mp q))]
  by_cases c5 : c pos = 119
  · rw [if_pos c5, if_pos (show nI (c pos) = 119 from (lit 119 (by decide)).mpr c5)]
    rcases pM_fig (D := 1) (lo := 0) (hi := 3) (pos := pos + 1) (by decide) (by decide) (by decide) (by decide) hT (by omega) hne with ⟨a, p, q1, q2, q3, q4⟩ | ⟨e, q1, q2⟩
    · rw [q1, show F_X6_figures 824 0 1 0 3 _ = _ from q2, xbI_s, pB_l]
      dsimp only
      rcases pM_fig (D := 3) (lo := 1) (hi := 500) (pos := p) (ah := nI a) (by decide) (by decide) (by decide) (by decide) hT (by omega) (n1 a (by omega)) with ⟨b, p2, r1, r2, r3, r4⟩ | ⟨e, r1, r2⟩
      · rw [r1, show F_X6_figures 824 (nI a) 3 1 500 _ = _ from r2, xbI_s, pB_l, if_neg (n1 b (by omega))]
        refine ⟨fun e he => absurd he (by simp), fun k a' b' d p2' he => ?_⟩
        have he := Sum.inl.inj he
        simp only [Prod.mk.injEq] at he
        obtain ⟨rfl, rfl, rfl, rfl, rfl⟩ := he
        unfold rDo
        rw [if_pos rfl, em]
        by_cases g1 : a < m
        · by_cases g2 : (9999 : Int32) < rRow (s (824 + 3)) a 0 + nI b
          · rw [if_neg (fun q => q.2 g2), pS_isW1 (hR p2) g1, xbI_s, xjn_s, xjn_s, if_neg (by decide), pS_can (by omega), e27, if_pos g2, xbI_s, if_pos rfl]
            dsimp only
            rw [yZ_0 h11, xbI_s, if_neg (by decide)]
            rfl
          · obtain ⟨j, hj, ej⟩ := rW_6 h1 g1 r4 g2
            rw [if_pos ⟨g1, g2⟩, pS_isW1 (hR p2) g1, xbI_s, xjn_s, xjn_s, if_neg (by decide), pS_can (by omega), e27, if_neg g2, xbI_s, if_neg (by decide), pS_write (hR p2) g1, xbI_s, e27, ej, if_neg (nI_pos (by omega))]
            dsimp only
            rw [yZ_1 h11, xbI_s, if_neg (by decide)]
            rfl
        · rw [if_neg (fun q => g1 q.1), pS_isW0 (hR p2) (rBad_ge g1 (by omega)), xbI_s, xjn_s, xjn_s, if_pos rfl]
          dsimp only
          rw [yZ_0 h11, xbI_s, if_neg (by decide)]
          rfl
      · rw [r1, show F_X6_figures 824 (nI a) 3 1 500 _ = _ from r2, xbI_s, pB_r, if_pos rfl]
        exact ⟨fun e' he => by rw [Sum.inr.inj he], fun k a b d p2 he => absurd he (by simp)⟩
    · rw [q1, show F_X6_figures 824 0 1 0 3 _ = _ from q2, xbI_s, pB_r, show F_X6_figures 824 (-1) 3 1 500 _ = _ from sk 3 1 500 _ (by decide) (by decide), xbI_s, if_pos rfl]
      exact ⟨fun e' he => by rw [Sum.inr.inj he], fun k a b d p2 he => absurd he (by simp)⟩
  rw [if_neg c5, if_neg (show ¬ nI (c pos) = 119 from fun q => c5 ((lit 119 (by decide)).mp q))]
  refine ⟨fun e' he => ?_, fun k a b d p2 he => absurd he (by simp)⟩
  obtain rfl := Sum.inr.inj he
  rw [xu_same, up_s, nI_pred, xlet_s, xu_xu]
