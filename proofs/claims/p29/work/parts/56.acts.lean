/-! THE ACTIONS: what each leaves, in the reference and in the class -/
theorem xQ3.of4 {σ z : xS} {p L : Nat} {r r2 : Nat → Int32} (h : xQ3 σ p r L) (hL : L ≤ 8) (hf : xfr σ z (p + 7) (p + 43)) (he : ∀ i, i < 31 → r2 i = r i) (h4 : xQ4 z p r2) : xQ3 z p r2 L :=
  ⟨h4, (h.2.ex (fun i a b => hf i (by omega))).cg (fun j hj => ⟨he _ (by omega), he _ (by omega), he _ (by omega)⟩)⟩
section RA
variable {m t tr wt sz ms L : Nat} {lo : Nat → Nat}
theorem rOK.X {r u : Nat → Int32} {k W W2 : Nat} (h : rOK r m t tr wt sz ms L lo W) (hk : k < m) (hW : W ≤ W2) (hu : xJ u t (lo k) W2) : rOK (rX r k u) m t tr wt sz ms L lo W2 := by
  have hL8 := h.L8
  exact ⟨h.1.cg (fun i hi => rX_hd (by omega)), fun j hj => rN_hd (h.2.1 j hj) (by omega) (fun x hx => rX_hd hx), (h.2.2.mono hW).X hk (fun _ _ => rfl) hu⟩
theorem rOK.mono {r : Nat → Int32} {W W2 : Nat} (h : rOK r m t tr wt sz ms L lo W) (hW : W ≤ W2) : rOK r m t tr wt sz ms L lo W2 := ⟨h.1, h.2.1, h.2.2.mono hW⟩
/-! write -/
theorem rOK.write {r : Nat → Int32} {k y W : Nat} (ht : t < 2 ^ 29) (hlo : ∀ k, lo k ≤ t + 1) (h : rOK r m t tr wt sz ms L lo W) (hk : k < m) (hy2 : y ≤ 500) (hy : ¬ (9999 : Int32) < rRow r k 0 + nI y) : rOK (rW r k (nI y)) m t tr wt sz ms L lo (W + 6) := by
  have hL8 := h.L8
  exact ⟨rW_H h.1, fun j hj => rW_N (h.2.1 j hj) (by omega), rW_J ht hlo h.1 h.2.2 hk hy2 hy⟩
theorem pT_fNote0 {σ : xS} {p : Nat} {k s : Int32} {r : Nat → Int32} (hQ : xQ4 σ p r) (h0 : r 0 = nI m) (hk : rBad m k) : F_X3_faultOfNote p k s σ = some (1, σ) := by
  unfold F_X3_faultOfNote
  rw [pF_isW0 (hQ.1.trans h0) hk, xbI_s, if_neg (by decide)]
theorem pT_fNote1 {σ : xS} {p k : Nat} {s : Int32} {r : Nat → Int32} (hQ : xQ4 σ p r) (h0 : r 0 = nI m) (hk : k < m) (hm : m ≤ 4) (hs : s < 1 ∨ 500 < s) : F_X3_faultOfNote p (nI k) s σ = some (2, σ) := by
  unfold F_X3_faultOfNote
  rw [pF_isWriter0 (hQ.1.trans h0) hk hm, xbI_s, if_pos rfl, pF_within2, if_pos hs, xbI_s, if_neg (by decide)]
theorem pT_attW {σ : xS} {p k y W : Nat} {c : Int32} {r : Nat → Int32} (ht : t < 2 ^ 29) (h : rOK r m t tr wt sz ms L lo W) (hQ : xQ3 σ p r L) (hk : k < m) (hy1 : 1 ≤ y) (hy2 : y ≤ 500) (hy : ¬ (9999 : Int32) < rRow r k 0 + nI y) : ∃ z, F_X3_attempt p 1 (nI k) (nI y) c σ = some (rRow (rW r k (nI y)) k 3 - rRow r k 3, z) ∧ xfr σ z p (p + 43) ∧ xQ3 z p (rW r k (nI y)) L := by
  have hm4 := h.m4
  obtain ⟨σ1, z, e1, e2, e3, e4⟩ := pT_write (show k < 4 by omega) ht h.1 (h.2.2.1 k hk) hy2 hy hQ.1
  refine ⟨z, ?_, e3.sub (by omega) (by omega), hQ.of4 h.L8 (e3.sub (by omega) (by omega)) (fun i hi => rW_hd hi) e4⟩
  unfold F_X3_attempt F_X3_faultOf
  rw [if_neg (by decide), if_pos rfl, pF_faultOfNote hQ.1 h.1.1 hk hm4 hy1 hy2, if_neg hy, xbI_s, xbI_s, if_pos rfl, if_neg (by decide), if_pos rfl, if_pos (xin_nI (by omega) (by decide)), nI_clamp (by omega), e1, xbV_s, if_pos (xin_nI (by omega) (by decide)), if_pos (xin_nI (by omega) (by decide)), e2, xbI_s]
/-- how many letters go: none to six -/
theorem rW_6 {r : Nat → Int32} {k y W : Nat} (h : rOK r m t tr wt sz ms L lo W) (hk : k < m) (hy2 : y ≤ 500) (hy : ¬ (9999 : Int32) < rRow r k 0 + nI y) : ∃ j, j ≤ 6 ∧ rRow (rW r k (nI y)) k 3 - rRow r k 3 = nI j := by
  have hJ := pJ_note (h.2.2.1 k hk) hy2 hy
  obtain ⟨x, h0, hx⟩ := hJ.box
  obtain ⟨-, j, hj, e⟩ := hJ.2.2.sends (tt := r 1 + r 3) (most := r 6) (h := if (upd (upd (rRow r k) 0 (rRow r k 0 + nI y)) 2 (rRow r k 2 + nI y)) 1 = 1 then 1 else 0) h.1.2.2.2.2.2.2.2.2.2.2.2.2.2.1 h0 hx
  refine ⟨j, hj, ?_⟩
  unfold rW
  rw [rRow_X, rCut_at (by decide), h.1.2.2.2.2.2.1]
  unfold mWrite mAsIs
  rw [e, up_n (by decide), up_n (by decide)]
  have e3 : ∀ a b : Int32, a + b - a = b := by intro a b; grind
  exact e3 _ _
/-! hold, flush -/
def rHold (r : Nat → Int32) (k : Nat) (b : Int32) : Nat → Int32 := rX r k (mAsIs (r 1 + r 3) (r 5) (r 6) (upd (rRow r k) 1 b))
def rFlush (r : Nat → Int32) (k : Nat) : Nat → Int32 := rX r k (mSends (r 1 + r 3) (r 5) (r 6) 0 (rRow r k))
theorem xJ.hold {u : Nat → Int32} {t lo W : Nat} {b : Int32} (h : xJ u t lo W) (hb : b = 0 ∨ b = 1) : xJ (upd u 1 b) t lo W :=
  ⟨h.1.cg (fun j h1 _ _ _ _ _ => up_n h1), by rw [up_s]; exact hb, h.2.2.cg (up_n (by decide)) (fun j a b => up_n (by omega))⟩
theorem rOK.hold {r : Nat → Int32} {k W : Nat} {b : Int32} (ht : t < 2 ^ 29) (hlo : ∀ k, lo k ≤ t + 1) (h : rOK r m t tr wt sz ms L lo W) (hk : k < m) (hb : b = 0 ∨ b = 1) : rOK (rHold r k b) m t tr wt sz ms L lo (W + 6) := by
  refine h.X hk (by omega) ?_
  have l := hlo k
  obtain ⟨b0, b1, b2, b3, b4, b5, b6, b7, b8, b9, b10, b11, b12, b13, b14, b15, b16⟩ := h.1
  rw [b1, b3, b5, nI_add]
  exact pJ_sends b10 (by omega) ht b13 ((h.2.2.1 k hk).hold hb)
theorem rOK.flush {r : Nat → Int32} {k W : Nat} (ht : t < 2 ^ 29) (hlo : ∀ k, lo k ≤ t + 1) (h : rOK r m t tr wt sz ms L lo W) (hk : k < m) : rOK (rFlush r k) m t tr wt sz ms L lo (W + 6) := by
  refine h.X hk (by omega) ?_
  have l := hlo k
  obtain ⟨b0, b1, b2, b3, b4, b5, b6, b7, b8, b9, b10, b11, b12, b13, b14, b15, b16⟩ := h.1
  rw [b1, b3, b5, nI_add]
  exact pJ_sends b10 (by omega) ht b13 (h.2.2.1 k hk)
theorem rHold_6 {r : Nat → Int32} {k W : Nat} {b : Int32} (h : rOK r m t tr wt sz ms L lo W) (hk : k < m) (hb : b = 0 ∨ b = 1) : ∃ j, j ≤ 6 ∧ rRow (rHold r k b) k 3 - rRow r k 3 = nI j := by
  have hJ := (h.2.2.1 k hk).hold hb
  obtain ⟨x, h0, hx⟩ := hJ.box
  obtain ⟨-, j, hj, e⟩ := hJ.2.2.sends (tt := r 1 + r 3) (most := r 6) (h := if (upd (rRow r k) 1 b) 1 = 1 then 1 else 0) h.1.2.2.2.2.2.2.2.2.2.2.2.2.2.1 h0 hx
  refine ⟨j, hj, ?_⟩
  unfold rHold
  rw [rRow_X, rCut_at (by decide), h.1.2.2.2.2.2.1]
  unfold mAsIs
  rw [e, up_n (by decide)]
  have e3 : ∀ a b : Int32, a + b - a = b := by intro a b; grind
  exact e3 _ _
theorem rFlush_6 {r : Nat → Int32} {k W : Nat} (h : rOK r m t tr wt sz ms L lo W) (hk : k < m) : ∃ j, j ≤ 6 ∧ rRow (rFlush r k) k 3 - rRow r k 3 = nI j := by
  have hJ := h.2.2.1 k hk
  obtain ⟨x, h0, hx⟩ := hJ.box
  obtain ⟨-, j, hj, e⟩ := hJ.2.2.sends (tt := r 1 + r 3) (most := r 6) (h := 0) h.1.2.2.2.2.2.2.2.2.2.2.2.2.2.1 h0 hx
  refine ⟨j, hj, ?_⟩
  unfold rFlush
  rw [rRow_X, rCut_at (by decide), h.1.2.2.2.2.2.1, e]
  have e3 : ∀ a b : Int32, a + b - a = b := by intro a b; grind
  exact e3 _ _
theorem pR_holdOn {σ : xS} {a k W : Nat} {r : Nat → Int32} {b : Int32} (hk : k < m) (h : rOK r m t tr wt sz ms L lo W) (hb : b = 0 ∨ b = 1) : F_X6_holdOn 187 a (nI k) b (xset σ a r) = some (rRow (rHold r k b) k 3 - rRow r k 3, xset σ a (rHold r k b)) := by
  have hm4 := h.m4
  have hk4 : k < 4 := by omega
  obtain ⟨o, h6, ho⟩ := ((h.2.2.1 k hk).hold hb).o6
  have hms : (xset σ a r) a 6 = nI ms := by rw [xset_same]; exact h.1.2.2.2.2.2.2.1
  have el : ∀ v, F_X6_lay 187 a (nI k) 1 v (xset σ a r) = some (xX (xset σ a r) a k (upd (rRow r k) 1 v)) := fun v => by
    have e := pR_lay (σ := σ) (a := a) (r := r) (v := v) (w := 1) hk4 (by decide)
    rw [xX_set]; exact e
  have es := pF_X6_asItDoes (σ := xset σ a r) (a := a) (u := upd (rRow r k) 1 b) hk4 hms h.1.2.2.2.2.2.2.2.2.2.2.2.2.2.2.2.1 h6 ho
  have e3 : rRow (rHold r k b) k 3 = mAsIs (r 1 + r 3) (r 5) (r 6) (upd (rRow r k) 1 b) 3 := by unfold rHold; rw [rRow_X, rCut_at (by decide)]
  rw [xset_same, xX_set (u := mAsIs _ _ _ _), up_n (show 3 ≠ 1 by decide), ← e3] at es
  unfold F_X6_holdOn
  rcases hb with hb | hb <;> subst hb
  · rw [if_pos rfl, el, xbV_s, es, xbI_s]; rfl
  · rw [if_neg (by decide), el, xbV_s, es, xbI_s]; rfl
theorem pR_flush {σ : xS} {a k W : Nat} {r : Nat → Int32} (hk : k < m) (h : rOK r m t tr wt sz ms L lo W) : F_X6_sends 187 a (nI k) 0 (xset σ a r) = some (rRow (rFlush r k) k 3 - rRow r k 3, xset σ a (rFlush r k)) := by
  have hm4 := h.m4
  obtain ⟨o, h6, ho⟩ := (h.2.2.1 k hk).o6
  have hms : (xset σ a r) a 6 = nI ms := by rw [xset_same]; exact h.1.2.2.2.2.2.2.1
  have es := pF_X6_sends (σ := xset σ a r) (a := a) (h := 0) (u := rRow r k) (show k < 4 by omega) hms h.1.2.2.2.2.2.2.2.2.2.2.2.2.2.2.2.1 h6 ho
  rw [xset_same, xX_set, xX_set, rX_row] at es
  rw [es]
  unfold rFlush
  rw [rRow_X, rCut_at (by decide)]
theorem pT_holds {σ : xS} {p k : Nat} {r : Nat → Int32} {v : Int32} (hk : k < 4) (hQ : xQ4 σ p r) : xQ4 (xu σ (p + 7 + 9 * k) 3 v) p (rX r k (upd (rRow r k) 1 v)) := by
  obtain ⟨b, hb⟩ : ∃ b, b = p + 7 + 9 * k := ⟨_, rfl⟩
  obtain ⟨o, n, q⟩ := hQ.2.2.2 k hk
  refine hQ.X hk (xfr_xu (Nat.le_refl _) (by omega)) (o := o) (n := n) ?_
  rw [← hb] at q ⊢
  obtain ⟨⟨s1, s2, s3, s4, s5, s6, s7, s8, s9, s10, s11⟩, q2, q3, q4, q5, ⟨w, q6⟩, ⟨w2, q7⟩⟩ := q
  refine ⟨?_, by rw [up_n (by decide), q2], by rw [up_n (by decide), q3], q4, q5, ⟨w, (q6.ex (fun i p1 p2 => xu_other (by omega))).cg (fun j hj => ⟨up_n (by omega), rfl, up_n (by omega)⟩)⟩, ⟨w2, (q7.ex (fun i p1 p2 => xu_other (by omega))).cg (fun j hj => ⟨up_n (by omega), rfl, up_n (by omega)⟩)⟩⟩
  unfold xS2
  rw [xu_same]
  simp [upd, s1, s3, s4, s5, s6, s7, s8, s9, s10, s11]
theorem pT_attF {σ : xS} {p k W : Nat} {c d : Int32} {r : Nat → Int32} (ht : t < 2 ^ 29) (h : rOK r m t tr wt sz ms L lo W) (hQ : xQ3 σ p r L) (hk : k < m) : ∃ z, F_X3_attempt p 4 (nI k) c d σ = some (rRow (rFlush r k) k 3 - rRow r k 3, z) ∧ xfr σ z p (p + 43) ∧ xQ3 z p (rFlush r k) L := by
  have hm4 := h.m4
  obtain ⟨z, e2, e3, e4⟩ := pT_send (h := 0) (show k < 4 by omega) ht h.1 rfl (h.2.2.1 k hk) hQ.1
  refine ⟨z, ?_, e3.sub (by omega) (by omega), hQ.of4 h.L8 (e3.sub (by omega) (by omega)) (fun i hi => rX_hd hi) e4⟩
  have e5 : rRow (rFlush r k) k 3 = mSends (r 1 + r 3) (r 5) (r 6) 0 (rRow r k) 3 := by unfold rFlush; rw [rRow_X, rCut_at (by decide)]
  unfold F_X3_attempt F_X3_faultOf
  rw [if_neg (by decide), if_neg (by decide), if_neg (by decide), if_pos (by decide), pF_isWriter0 (hQ.1.1.trans h.1.1) hk hm4, xbI_s, xbI_s, if_pos rfl, if_neg (by decide), if_neg (by decide), if_neg (by decide), if_neg (by decide), if_pos rfl, if_pos (xin_nI (by omega) (by decide)), nI_clamp (by omega), e2, xbI_s, e5]
theorem pT_attH {σ : xS} {p k W : Nat} {c b : Int32} {r : Nat → Int32} (ht : t < 2 ^ 29) (h : rOK r m t tr wt sz ms L lo W) (hQ : xQ3 σ p r L) (hk : k < m) (hb : b = 0 ∨ b = 1) : ∃ z, F_X3_attempt p 3 (nI k) b c σ = some (rRow (rHold r k b) k 3 - rRow r k 3, z) ∧ xfr σ z p (p + 43) ∧ xQ3 z p (rHold r k b) L := by
  have hm4 := h.m4
  have hk4 : k < 4 := by omega
  have q1 := pT_holds (v := b) hk4 hQ.1
  have hcv : rCut (upd (rRow r k) 1 b) = upd (rRow r k) 1 b := by rw [rCut_up (by decide), rCut_row]
  obtain ⟨z, e2, e3, e4⟩ := pT_send (h := b) hk4 ht (h.1.cg (fun i hi => rX_hd (by omega))) (rRow_X.trans hcv) ((h.2.2.1 k hk).hold hb) q1
  have hm : mSends (rX r k (upd (rRow r k) 1 b) 1 + rX r k (upd (rRow r k) 1 b) 3) (rX r k (upd (rRow r k) 1 b) 5) (rX r k (upd (rRow r k) 1 b) 6) b (upd (rRow r k) 1 b) = mAsIs (r 1 + r 3) (r 5) (r 6) (upd (rRow r k) 1 b) := by
    rw [rX_hd (by decide), rX_hd (by decide), rX_hd (by decide), rX_hd (by decide)]
    unfold mAsIs
    rw [up_s]
    rcases hb with hb | hb <;> rw [hb] <;> rfl
  rw [hm] at e2 e4
  rw [rX_X] at e4
  have e5 : rRow (rHold r k b) k 3 = mAsIs (r 1 + r 3) (r 5) (r 6) (upd (rRow r k) 1 b) 3 := by unfold rHold; rw [rRow_X, rCut_at (by decide)]
  have f1 : xfr σ (xu σ (p + 7 + 9 * k) 3 b) (p + 7 + 9 * k) (p + 7 + 9 * k + 9) := xfr_xu (Nat.le_refl _) (by omega)
  have e6 : xu σ (p + 7 + 9 * k) 3 b (p + 7 + 9 * k) 3 = b := by rw [xu_same, up_s]
  refine ⟨z, ?_, (f1.trans e3).sub (by omega) (by omega), hQ.of4 h.L8 ((f1.trans e3).sub (by omega) (by omega)) (fun i hi => rX_hd hi) e4⟩
  rw [up_n (show 3 ≠ 1 by decide), ← e5] at e2
  have key : ∀ v, v = b → (if vp_nar .boolean v = v then (xlet (xu σ (p + 7 + 9 * k) 3 v) (fun (σ17 : xS) => if xin (nI k) 4 = true then (if xin (nI k) 4 = true then (xbI (F_X2_sendLetters (p + 7 + 9 * k) (σ17 p 1) 4 (p + 1) (σ17 (p + 7 + 9 * k) 3) σ17) (fun (zz21 : Int32) (σ20 : xS) => some (zz21, σ20))) else none) else none)) else none) = some (rRow (rHold r k b) k 3 - rRow r k 3, z) := by
    intro v hv
    subst hv
    rw [if_pos (by rcases hb with hb | hb <;> rw [hb] <;> decide), xlet_s, if_pos (xin_nI (by omega) (by decide)), if_pos (xin_nI (by omega) (by decide)), e6, e2, xbI_s]
  unfold F_X3_attempt F_X3_faultOf
  rw [if_neg (by decide), if_neg (by decide), if_neg (by decide), if_pos (by decide), pF_isWriter0 (hQ.1.1.trans h.1.1) hk hm4, xbI_s, xbI_s, if_pos rfl, if_neg (by decide), if_neg (by decide), if_neg (by decide), if_pos rfl, if_pos (xin_nI (by omega) (by decide)), nI_clamp (by omega), xjn_s]
  rcases hb with hb | hb
  · rw [if_pos (by rw [hb]; decide)]; exact key 0 hb.symm
  · rw [if_neg (by rw [hb]; decide)]; exact key 1 hb.symm
/-- hold, flush: not a writer -/
theorem pT_att34 {σ : xS} {p : Nat} {kd k c d : Int32} (h0 : σ p 0 = nI m) (hk : rBad m k) (hkd : kd = 3 ∨ kd = 4) : F_X3_faultOf p kd k c d σ = some (1, σ) ∧ F_X3_attempt p kd k c d σ = some (-1, σ) := by
  have e : F_X3_faultOf p kd k c d σ = some (1, σ) := by
    unfold F_X3_faultOf
    rcases hkd with h | h <;> subst h
    · rw [if_neg (by decide), if_neg (by decide), if_neg (by decide), if_pos (by decide), pF_isW0 h0 hk, xbI_s]
    · rw [if_neg (by decide), if_neg (by decide), if_neg (by decide), if_pos (by decide), pF_isW0 h0 hk, xbI_s]
  refine ⟨e, ?_⟩
  unfold F_X3_attempt
  rw [e, xbI_s, if_neg (by decide)]
end RA
