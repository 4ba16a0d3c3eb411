/-! THE CLASS'S POST AND THE ARRAY -/
def xQ4 (σ : xS) (p : Nat) (r : Nat → Int32) : Prop := σ p 0 = r 0 ∧ σ p 1 = r 1 ∧ (∀ i, i < 4 → σ (p + 1) i = r (3 + i)) ∧ ∀ k, k < 4 → ∃ o n, xQ2 σ (p + 7 + 9 * k) (rRow r k) o n
def nIx (l i j : Nat) : Nat := if j < l then j else j - l + i
def xND (σ : xS) (d : Nat) (r : Nat → Int32) (l i n : Nat) : Prop := xD3 σ d n (fun j => r (7 + 3 * nIx l i j)) (fun j => r (7 + 3 * nIx l i j + 1)) (fun j => r (7 + 3 * nIx l i j + 2))
theorem rCut_row {r : Nat → Int32} {k : Nat} : rCut (rRow r k) = rRow r k := by
  funext j
  unfold rCut rRow
  by_cases h : j < 39
  · rw [if_pos h]
  · rw [if_neg h, if_neg h]
theorem rCut_up {u : Nat → Int32} {w : Nat} {x : Int32} (hw : w < 39) : rCut (upd u w x) = upd (rCut u) w x := by
  funext j
  unfold rCut
  by_cases e : j = w
  · subst e; rw [if_pos hw, up_s, up_s]
  · rw [up_n e, up_n e]
theorem rX_X {r u v : Nat → Int32} {k : Nat} : rX (rX r k u) k v = rX r k v := by
  funext i
  unfold rX
  by_cases h : 31 + 39 * k ≤ i ∧ i < 31 + 39 * k + 39
  · rw [if_pos h, if_pos h]
  · rw [if_neg h, if_neg h, if_neg h]
theorem xQ4.X {σ σ1 : xS} {p k o n : Nat} {r u : Nat → Int32} (h : xQ4 σ p r) (hk : k < 4) (hf : xfr σ σ1 (p + 7 + 9 * k) (p + 7 + 9 * k + 9)) (hq : xQ2 σ1 (p + 7 + 9 * k) u o n) : xQ4 σ1 p (rX r k u) := by
  obtain ⟨h0, h1, h2, h3⟩ := h
  refine ⟨by rw [hf p (by omega), rX_hd (by omega), h0], by rw [hf p (by omega), rX_hd (by omega), h1], fun i hi => by rw [hf _ (by omega), rX_hd (by omega), h2 i hi], fun j hj => ?_⟩
  by_cases e : j = k
  · subst e
    exact ⟨o, n, by rw [rRow_X]; exact hq.c39 (fun w hw => rCut_at hw)⟩
  · obtain ⟨o2, n2, g⟩ := h3 j hj
    refine ⟨o2, n2, ?_⟩
    rw [rRow_o e]
    exact g.ex (fun i a b => hf i (by omega))
section RD
variable {m t tr wt sz ms L : Nat} {lo : Nat → Nat}
theorem xI.on {u : Nat → Int32} {lo W o n b : Nat} {σ : xS} (hI : xI u t lo W) (hQ : xQ2 σ b u o n) : ∃ c a d x T F, xC1 u W o n c a d x T ∧ xC2 u t lo o c a F ∧ xC3 u t n := by
  obtain ⟨o', n', c, a, d, x, T, F, k1, k2, k3⟩ := hI
  obtain rfl : o' = o := (nI_eq (by have := k1.2.2.2.2.2.2.1; omega) (by have := hQ.2.2.2.1; omega)).mp (k1.1.symm.trans hQ.2.1)
  obtain rfl : n' = n := (nI_eq (by have := k1.cap; have := k1.2.2.2.2.2.2.2.2.1; have := k1.2.2.2.2.2.2.1; omega) (by have := hQ.2.2.2.2.1; omega)).mp (k1.2.1.symm.trans hQ.2.2.1)
  exact ⟨c, a, d, x, T, F, k1, k2, k3⟩
/-- pair k sends -/
theorem pT_send {σ : xS} {p k lo W : Nat} {r u : Nat → Int32} {h : Int32} (hk : k < 4) (ht : t < 2 ^ 29) (hH : rH r m t tr wt sz ms L) (hu : rRow r k = u) (hJ : xJ u t lo W) (hQ : xQ4 σ p r) : ∃ z, F_X2_sendLetters (p + 7 + 9 * k) (σ p 1) 4 (p + 1) h σ = some (mSends (r 1 + r 3) (r 5) (r 6) h u 3 - u 3, z) ∧ xfr σ z (p + 7 + 9 * k) (p + 7 + 9 * k + 9) ∧ xQ4 z p (rX r k (mSends (r 1 + r 3) (r 5) (r 6) h u)) := by
  subst hu
  obtain ⟨h0, h1, h2, h3⟩ := id hQ
  obtain ⟨o, n, q⟩ := h3 k hk
  obtain ⟨c, a, d, x, T, F, k1, k2, k3⟩ := hJ.1.on q
  have e0 : σ (p + 1) 0 = nI tr := by rw [h2 0 (by decide)]; exact hH.2.2.2.1
  have e2 : σ (p + 1) 2 = nI sz := by rw [h2 2 (by decide)]; exact hH.2.2.2.2.2.1
  have e3 : σ (p + 1) 3 = nI ms := by rw [h2 3 (by decide)]; exact hH.2.2.2.2.2.2.1
  have e1 : σ p 1 = nI t := h1.trans hH.2.1
  obtain ⟨b0, b1, b2, b3, b4, b5, b6, b7, b8, b9, b10, b11, b12, b13, b14, b15, b16⟩ := hH
  obtain ⟨z, o2, x2, g1, g2, g3, -, -, -⟩ := pP_send (now := σ p 1) (h := h) (st := p + 1) q (by omega) e2 e3 b15 (by omega) b13 k1.2.2.2.2.2.1 k1.2.2.2.2.2.2.2.2.2.2.1 (by rw [e0, e1, nI_add]; exact k2.coh (by omega))
  rw [e0, e1, e2, e3] at g1 g3
  rw [b1, b3, b5, b6, e1]
  exact ⟨z, g1, g2, hQ.X hk g2 g3⟩
/-- a note is written -/
theorem pT_note {σ : xS} {p k : Nat} {r : Nat → Int32} {s : Int32} (hk : k < 4) (hQ : xQ4 σ p r) : ∃ σ1, F_X2_addNote (p + 7 + 9 * k) s σ = some σ1 ∧ xfr σ σ1 (p + 7 + 9 * k) (p + 7 + 9 * k + 9) ∧ xQ4 σ1 p (rX r k (upd (upd (rRow r k) 0 (rRow r k 0 + s)) 2 (rRow r k 2 + s))) ∧ σ1 (p + 7 + 9 * k) 3 = rRow r k 1 := by
  obtain ⟨b, hb⟩ : ∃ b, b = p + 7 + 9 * k := ⟨_, rfl⟩
  obtain ⟨o, n, q⟩ := hQ.2.2.2 k hk
  obtain ⟨u, hu⟩ : ∃ u, u = rRow r k := ⟨_, rfl⟩
  have hX : ∀ σ1, xfr σ σ1 b (b + 9) → xQ2 σ1 b (upd (upd u 0 (u 0 + s)) 2 (u 2 + s)) o n → xQ4 σ1 p (rX r k (upd (upd u 0 (u 0 + s)) 2 (u 2 + s))) := by
    subst hb
    exact fun σ1 f g => hQ.X hk f g
  rw [← hu, ← hb] at q ⊢
  obtain ⟨q1, q2, q3, q4, q5, ⟨w, q6⟩, ⟨w2, q7⟩⟩ := q
  have f1 : xfr σ (xu (xu σ b 2 (σ b 2 + s)) b 4 ((xu σ b 2 (σ b 2 + s)) b 4 + s)) b (b + 9) := (xfr_xu (Nat.le_refl _) (by omega)).trans (xfr_xu (Nat.le_refl _) (by omega))
  refine ⟨_, rfl, f1, hX _ f1 ⟨?_, by rw [up_n (by decide), up_n (by decide), q2], by rw [up_n (by decide), up_n (by decide), q3], q4, q5, ⟨w, (q6.ex (fun i p1 p2 => by rw [xu_other (by omega), xu_other (by omega)])).cg (fun j hj => ⟨by rw [up_n (by omega), up_n (by omega)], rfl, by rw [up_n (by omega), up_n (by omega)]⟩)⟩, ⟨w2, (q7.ex (fun i p1 p2 => by rw [xu_other (by omega), xu_other (by omega)])).cg (fun j hj => ⟨by rw [up_n (by omega), up_n (by omega)], rfl, by rw [up_n (by omega), up_n (by omega)]⟩)⟩⟩, ?_⟩
  · obtain ⟨s1, s2, s3, s4, s5, s6, s7, s8, s9, s10, s11⟩ := q1
    unfold xS2
    rw [xu_same, xu_same]
    refine ⟨?_, ?_, ?_, ?_, ?_, ?_, ?_, ?_, ?_, ?_, ?_⟩
    · rw [up_n (by decide), up_s, up_n (by decide), up_s, s1]
    · rw [up_n (by decide), up_n (by decide), up_n (by decide), up_n (by decide), s2]
    · rw [up_s, up_s, up_n (by decide), s3]
    · rw [up_n (by decide), up_n (by decide), up_n (by decide), up_n (by decide), s4]
    · rw [up_n (by decide), up_n (by decide), up_n (by decide), up_n (by decide), s5]
    · rw [up_n (by decide), up_n (by decide), up_n (by decide), up_n (by decide), s6]
    · rw [up_n (by decide), up_n (by decide), up_n (by decide), up_n (by decide), s7]
    · rw [up_n (by decide), up_n (by decide), up_n (by decide), up_n (by decide), s8]
    · rw [up_n (by decide), up_n (by decide), up_n (by decide), up_n (by decide), s9]
    · rw [up_n (by decide), up_n (by decide), up_n (by decide), up_n (by decide), s10]
    · rw [up_n (by decide), up_n (by decide), up_n (by decide), up_n (by decide), s11]
  · rw [xu_same, up_n (by decide), xu_same, up_n (by decide), q1.2.1]
theorem pT_write {σ : xS} {p k y W lo : Nat} {r : Nat → Int32} (hk : k < 4) (ht : t < 2 ^ 29) (hH : rH r m t tr wt sz ms L) (hJ : xJ (rRow r k) t lo W) (hy2 : y ≤ 500) (hy : ¬ (9999 : Int32) < rRow r k 0 + nI y) (hQ : xQ4 σ p r) : ∃ σ1 z, F_X2_addNote (p + 7 + 9 * k) (nI y) σ = some σ1 ∧ F_X2_sendLetters (p + 7 + 9 * k) (σ1 p 1) 4 (p + 1) (σ1 (p + 7 + 9 * k) 3) σ1 = some (rRow (rW r k (nI y)) k 3 - rRow r k 3, z) ∧ xfr σ z (p + 7 + 9 * k) (p + 7 + 9 * k + 9) ∧ xQ4 z p (rW r k (nI y)) := by
  obtain ⟨σ1, e1, f1, q1, h3⟩ := pT_note (s := nI y) hk hQ
  obtain ⟨v, hv⟩ : ∃ v, v = upd (upd (rRow r k) 0 (rRow r k 0 + nI y)) 2 (rRow r k 2 + nI y) := ⟨_, rfl⟩
  have hJv : xJ v t lo W := by rw [hv]; exact pJ_note hJ hy2 hy
  have hcv : rCut v = v := by rw [hv, rCut_up (by decide), rCut_up (by decide), rCut_row]
  rw [← hv] at q1
  obtain ⟨z, e2, f2, q2⟩ := pT_send (h := σ1 (p + 7 + 9 * k) 3) hk ht (hH.cg (fun i hi => rX_hd (by omega))) (rRow_X.trans hcv) hJv q1
  have hh : σ1 (p + 7 + 9 * k) 3 = (if v 1 = 1 then 1 else 0) := by
    rw [h3, hv, up_n (by decide), up_n (by decide)]
    rcases hJ.2.1 with h | h
    · rw [h]; rfl
    · rw [h]; rfl
  have hm : mSends (rX r k v 1 + rX r k v 3) (rX r k v 5) (rX r k v 6) (σ1 (p + 7 + 9 * k) 3) v = mWrite (r 1 + r 3) (r 5) (r 6) (nI y) (rRow r k) := by
    rw [hh, rX_hd (by decide), rX_hd (by decide), rX_hd (by decide), rX_hd (by decide), hv]
    rfl
  rw [hm] at e2 q2
  rw [rX_X] at q2
  refine ⟨σ1, z, e1, ?_, f1.trans f2, q2⟩
  rw [e2]
  have e3 : v 3 = rRow r k 3 := by rw [hv, up_n (by decide), up_n (by decide)]
  unfold rW
  rw [rRow_X, rCut_at (by decide), e3]
theorem xQ4.mv {σ : xS} {p l i : Nat} {r : Nat → Int32} (h : xQ4 σ p r) (hl : l < 8) : xQ4 σ p (rMv r l i) := by
  obtain ⟨h0, h1, h2, h3⟩ := h
  refine ⟨by rw [rMv_n (by omega), h0], by rw [rMv_n (by omega), h1], fun j hj => by rw [rMv_n (by omega), h2 j hj], fun k hk => ?_⟩
  obtain ⟨o, n, q⟩ := h3 k hk
  exact ⟨o, n, by rw [rRow_cg (r := r) (fun x hx => rMv_n (by omega))]; exact q⟩
theorem xQ4.ex {σ σ2 : xS} {p : Nat} {r : Nat → Int32} (h : xQ4 σ p r) (h1 : σ2 p = σ p) (h2 : σ2 (p + 1) = σ (p + 1)) (h3 : ∀ i, p + 7 ≤ i → i < p + 43 → σ2 i = σ i) : xQ4 σ2 p r := by
  refine ⟨by rw [h1]; exact h.1, by rw [h1]; exact h.2.1, fun i hi => by rw [h2]; exact h.2.2.1 i hi, fun k hk => ?_⟩
  obtain ⟨o, n, q⟩ := h.2.2.2 k hk
  exact ⟨o, n, q.ex (fun i a b => h3 i (by omega) (by omega))⟩
theorem xND.ex {σ σ2 : xS} {d l i n : Nat} {r : Nat → Int32} (h : xND σ d r l i n) (hx : ∀ j, d ≤ j → j < d + 4 → σ2 j = σ j) : xND σ2 d r l i n := xD3.ex h hx
theorem pF_isWriter0 {σ : xS} {p k m : Nat} (h0 : σ p 0 = nI m) (hk : k < m) (hm : m ≤ 4) : F_X3_faultOfWriter p (nI k) σ = some (0, σ) := by
  unfold F_X3_faultOfWriter
  rw [if_neg (nI_pos (by omega)), h0, if_neg (nI_ge hk (by omega)), if_neg (show ¬ (4 : Int32) ≤ nI k from nI_ge (a := k) (b := 4) (by omega) (by decide))]
theorem pF_within {σ : xS} {x a b : Nat} (hx : x < 2 ^ 31) (ha : a < 2 ^ 31) (hb : b < 2 ^ 31) : F_X5_isWithin (nI x) (nI a) (nI b) σ = some (if a ≤ x ∧ x ≤ b then 1 else 0, σ) := by
  unfold F_X5_isWithin
  by_cases h1 : a ≤ x
  · by_cases h2 : x ≤ b
    · rw [if_neg (nI_nlt h1 hx), if_neg (nI_nlt h2 hb), if_pos ⟨h1, h2⟩]
    · rw [if_neg (nI_nlt h1 hx), if_pos (nI_lt (by omega) hx), if_neg (fun q => h2 q.2)]
  · rw [if_pos (nI_lt (by omega) ha), if_neg (fun q => h1 q.1)]
theorem pF_faultOfNote {σ : xS} {p k y m : Nat} {r : Nat → Int32} (hQ : xQ4 σ p r) (h0 : r 0 = nI m) (hk : k < m) (hm : m ≤ 4) (hy1 : 1 ≤ y) (hy : y ≤ 500) : F_X3_faultOfNote p (nI k) (nI y) σ = some (if 9999 < rRow r k 0 + nI y then 3 else 0, σ) := by
  obtain ⟨o, n, q⟩ := hQ.2.2.2 k (by omega)
  unfold F_X3_faultOfNote F_X2_hasRoomFor
  rw [pF_isWriter0 (hQ.1.trans h0) hk hm, xbI_s, if_pos rfl, show F_X5_isWithin (nI y) 1 500 σ = _ from pF_within (a := 1) (b := 500) (by omega) (by decide) (by decide), xbI_s, if_pos (show 1 ≤ y ∧ y ≤ 500 from ⟨hy1, hy⟩), if_pos (by decide), if_pos (xin_nI (by omega) (by decide)), nI_clamp (by omega), q.1.1]
  by_cases h : 9999 < rRow r k 0 + nI y
  · rw [if_pos h, if_pos h, xbI_s, if_pos rfl]
  · rw [if_neg h, if_neg h, xbI_s, if_neg (by decide)]
theorem pL_X3_due {p : Nat} {KK : xS → Option xS} (ht : t < 2 ^ 29) (hlo : ∀ k, lo k ≤ t + 1) : ∀ (q l i fuel W : Nat) (r : Nat → Int32) (σ : xS), i + q = L → l ≤ i → q < fuel → rH r m t tr wt sz ms L → (∀ j, (j < l ∨ i ≤ j ∧ j < L) → rN r m j) → rJ r m t lo W → xQ4 σ p r → xND σ (p + 2) r l i (l + q) → ∃ z, L_X3_writeDueNotes_10 p KK fuel (nI l) (nI q) σ = KK z ∧ xfr σ z p (p + 43) ∧ xQ4 z p (rNts q l i r).2 ∧ xND z (p + 2) (rNts q l i r).2 (rNts q l i r).1 0 (rNts q l i r).1 := by
  intro q
  induction q with
  | zero =>
    intro l i fuel W r σ hi hl hf hH hN hJ hQ hD
    obtain ⟨g, rfl⟩ : ∃ g, fuel = g + 1 := ⟨fuel - 1, by omega⟩
    refine ⟨σ, ?_, xfr.refl, hQ, ?_⟩
    · rw [L_X3_writeDueNotes_10, if_pos (by decide)]
    · refine xD3.cg hD (fun j hj => ?_)
      have e : nIx l 0 j = nIx l i j := by unfold nIx; rw [if_pos (by exact hj), if_pos (by exact hj)]
      exact ⟨by rw [show (rNts 0 l i r) = (l, r) from rfl]; dsimp only; rw [e], by rw [show (rNts 0 l i r) = (l, r) from rfl]; dsimp only; rw [e], by rw [show (rNts 0 l i r) = (l, r) from rfl]; dsimp only; rw [e]⟩
  | succ q ih =>
    intro l i fuel W r σ hi hl hf hH hN hJ hQ hD
    obtain ⟨g, rfl⟩ : ∃ g, fuel = g + 1 := ⟨fuel - 1, by omega⟩
    have hL8 : L ≤ 8 := hH.2.2.2.2.2.2.2.2.2.2.2.2.2.2.2.2
    have hm4 : m ≤ 4 := hH.2.2.2.2.2.2.2.2.1
    obtain ⟨k, s, e1, hk, e2, hs1, hs2⟩ := hN i (by omega)
    have hix : nIx l i l = i := by unfold nIx; rw [if_neg (by omega)]; omega
    have eT : F_X0_timeAt 8 (p + 2) (nI l) σ = some (r (7 + 3 * i), σ) := by
      have h := pD_time (c := 8) hD (i := l) (by omega) (by omega) (by decide)
      rw [hix] at h; exact h
    have eW : F_X0_writerAt 8 (p + 2) (nI l) σ = some (nI k, σ) := by
      have h := pD_writer (c := 8) hD (i := l) (by omega) (by omega) (by decide)
      rw [hix, e1] at h; exact h
    have eG : F_X0_numberAt 8 (p + 2) (nI l) σ = some (nI s, σ) := by
      have h := pD_number (c := 8) hD (i := l) (by omega) (by omega) (by decide)
      rw [hix, e2] at h; exact h
    rw [L_X3_writeDueNotes_10, if_neg (nI_nle (by omega) (by omega)), eT, xbI_s, hQ.2.1, pk_m1, rNts, e1, e2, mN_nI (by omega)]
    by_cases hd : r (7 + 3 * i) = r 1
    · rw [if_pos hd, if_pos hd]
      obtain ⟨z1, d1, d2, d3⟩ := pD_drop (c := 8) hD (i := l) (by omega) (by omega) (by decide)
      have hQ1 : xQ4 z1 p r := hQ.ex (d2 p (by omega)) (d2 _ (by omega)) (fun j a b => d2 j (by omega))
      have hD1 : xND z1 (p + 2) r l (i + 1) (l + q) := by
        refine xD3.cg d3 (fun j hj => ?_)
        have e : ∀ w : Nat → Int32, mCut (fun j => w (nIx l i j)) l j = w (nIx l (i + 1) j) := by
          intro w
          unfold mCut nIx
          by_cases h : j < l
          · rw [if_pos h, if_pos h]
            dsimp only
            rw [if_pos h]
          · rw [if_neg h, if_neg h]
            dsimp only
            rw [if_neg (by omega)]
            congr 1
            omega
        exact ⟨(e (fun x => r (7 + 3 * x))).symm, (e (fun x => r (7 + 3 * x + 1))).symm, (e (fun x => r (7 + 3 * x + 2))).symm⟩
      simp only [eW, eG, d1, xbI_s, xbV_s, pF_faultOfNote hQ1 hH.1 hk hm4 hs1 hs2]
      by_cases hy : (9999 : Int32) < rRow r k 0 + nI s
      · rw [if_pos hy, if_pos hy, if_pos (by decide)]
        obtain ⟨z, g1, g2, g3, g4⟩ := ih l (i + 1) g W r z1 (by omega) (by omega) (by omega) hH (fun j hj => hN j (by omega)) hJ hQ1 hD1
        exact ⟨z, g1, (d2.sub (by omega) (by omega)).trans g2, g3, g4⟩
      · rw [if_neg hy, if_neg hy, if_neg (by decide), if_pos (xin_nI (by omega) (by decide)), nI_clamp (by omega)]
        obtain ⟨σ1, z2, w1, w2, w3, w4⟩ := pT_write (show k < 4 by omega) ht hH (hJ.1 k hk) hs2 hy hQ1
        rw [w1, xbV_s, if_pos (xin_nI (by omega) (by decide)), if_pos (xin_nI (by omega) (by decide)), w2, xbI_s, xlet_s]
        have hD2 : xND z2 (p + 2) (rW r k (nI s)) l (i + 1) (l + q) := by
          refine xD3.cg (xND.ex hD1 (fun j a b => w3 j (by omega))) (fun j hj => ?_)
          have : nIx l (i + 1) j < 8 := by unfold nIx; split <;> omega
          exact ⟨rW_hd (by omega), rW_hd (by omega), rW_hd (by omega)⟩
        obtain ⟨z, g1, g2, g3, g4⟩ := ih l (i + 1) g (W + 6) _ z2 (by omega) (by omega) (by omega) (rW_H (k := k) (s := nI s) hH) (fun j hj => rW_N (hN j (by omega)) (by omega)) (rW_J ht hlo hH hJ hk hs2 hy) w4 hD2
        exact ⟨z, g1, ((d2.sub (by omega) (by omega)).trans (w3.sub (by omega) (by omega))).trans g2, g3, g4⟩
    · rw [if_neg hd, if_neg hd, nI_1]
      have hD1 : xND σ (p + 2) (rMv r l i) (l + 1) (i + 1) (l + 1 + q) := by
        rw [show l + 1 + q = l + (q + 1) by omega]
        refine xD3.cg hD (fun j hj => ?_)
        by_cases h : j = l
        · subst h
          have h1 : nIx (j + 1) (i + 1) j = j := by unfold nIx; rw [if_pos (by omega)]
          rw [h1, hix]
          exact ⟨rMv_0, rMv_1, rMv_2⟩
        · have h1 : nIx (l + 1) (i + 1) j = nIx l i j := by
            unfold nIx
            by_cases h2 : j < l
            · rw [if_pos h2, if_pos (by omega)]
            · rw [if_neg h2, if_neg (by omega)]; omega
          have h3 : nIx l i j ≠ l := by unfold nIx; split <;> omega
          rw [h1]
          exact ⟨rMv_n (by omega), rMv_n (by omega), rMv_n (by omega)⟩
      exact ih (l + 1) (i + 1) g W _ σ (by omega) (by omega) (by omega) (rMv_H (l := l) (i := i) hH) (rMv_N hl hN (by omega)) (rMv_J (by omega) hJ) (hQ.mv (by omega)) hD1
end RD
