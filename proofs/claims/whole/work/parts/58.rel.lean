/-! THE TWO SIDES -/
theorem rRow_187 {r r2 : Nat → Int32} (e : ∀ i, i < 187 → r2 i = r i) {k : Nat} (hk : k < 4) : rRow r2 k = rRow r k := by
  funext j
  unfold rRow
  by_cases h : j < 39
  · rw [if_pos h, if_pos h, e _ (by omega)]
  · rw [if_neg h, if_neg h]
theorem rOK.c187 {r r2 : Nat → Int32} {m t tr wt sz ms L W : Nat} {lo : Nat → Nat} (h : rOK r m t tr wt sz ms L lo W) (e : ∀ i, i < 187 → r2 i = r i) : rOK r2 m t tr wt sz ms L lo W := by
  have hm4 := h.m4
  have hL8 := h.L8
  exact ⟨h.1.cg (fun i hi => e i (by omega)), fun j hj => rN_hd (h.2.1 j hj) (by omega) (fun x hx => e x (by omega)), fun k hk => by rw [rRow_187 e (by omega)]; exact h.2.2.1 k hk, fun k a b => by rw [rRow_187 e b]; exact h.2.2.2 k a b⟩
theorem xQ3.c187 {σ : xS} {p L : Nat} {r r2 : Nat → Int32} (h : xQ3 σ p r L) (hL : L ≤ 8) (e : ∀ i, i < 187 → r2 i = r i) : xQ3 σ p r2 L := by
  obtain ⟨⟨q0, q1, q2, q3⟩, q4⟩ := h
  exact ⟨⟨by rw [e 0 (by decide), q0], by rw [e 1 (by decide), q1], fun i hi => by rw [e _ (by omega), q2 i hi], fun k hk => by rw [rRow_187 e hk]; exact q3 k hk⟩, q4.cg (fun j hj => ⟨e _ (by omega), e _ (by omega), e _ (by omega)⟩)⟩
/-- post p looks as array r, and all is well -/
def yS (σ : xS) (p : Nat) (r : Nat → Int32) (T W : Nat) : Prop := ∃ m t tr wt sz ms L w, rOK r m t tr wt sz ms L (rLo 0 m (t + 1)) w ∧ t ≤ T ∧ w ≤ W ∧ xQ3 σ p r L
theorem yS.ex {σ σ2 : xS} {p T W : Nat} {r : Nat → Int32} (h : yS σ p r T W) (hx : ∀ i, p ≤ i → i < p + 43 → σ2 i = σ i) : yS σ2 p r T W := by
  obtain ⟨m, t, tr, wt, sz, ms, L, w, h1, h2, h3, h4⟩ := h
  exact ⟨m, t, tr, wt, sz, ms, L, w, h1, h2, h3, h4.ex hx⟩
theorem yS.c187 {σ : xS} {p T W : Nat} {r r2 : Nat → Int32} (h : yS σ p r T W) (e : ∀ i, i < 187 → r2 i = r i) : yS σ p r2 T W := by
  obtain ⟨m, t, tr, wt, sz, ms, L, w, h1, h2, h3, h4⟩ := h
  exact ⟨m, t, tr, wt, sz, ms, L, w, h1.c187 e, h2, h3, h4.c187 h1.L8 e⟩
theorem yS.mono {σ : xS} {p T W T2 W2 : Nat} {r : Nat → Int32} (h : yS σ p r T W) (hT : T ≤ T2) (hW : W ≤ W2) : yS σ p r T2 W2 := by
  obtain ⟨m, t, tr, wt, sz, ms, L, w, h1, h2, h3, h4⟩ := h
  exact ⟨m, t, tr, wt, sz, ms, L, w, h1, by omega, by omega, h4⟩
/-- the class copies -/
theorem yS.copy {σ : xS} {p p2 T W : Nat} {r : Nat → Int32} (h : yS σ p2 r T W) (hp : p + 43 ≤ p2 ∨ p2 + 43 ≤ p) : ∃ z, F_X3_copyFrom p p2 σ = some z ∧ xfr σ z p (p + 43) ∧ yS z p r T W := by
  obtain ⟨m, t, tr, wt, sz, ms, L, w, h1, h2, h3, h4⟩ := h
  obtain ⟨z, e1, e2, e3⟩ := pT_copy h4 h1.L8 hp h1.h01
  exact ⟨z, e1, e2, m, t, tr, wt, sz, ms, L, w, h1, h2, h3, e3⟩
/-- the text -/
def yX (σ : xS) : Prop := ∃ n, n ≤ 120 ∧ σ 1 1 = nI n ∧ σ 824 2 = nI n ∧ ∀ i, i < n → σ 825 i = σ 2 i ∧ ∃ c, c ≤ 255 ∧ σ 2 i = nI c
/-- what is remembered -/
def yM (σ : xS) (T W : Nat) : Prop := ∃ c x, c ≤ 14 ∧ x < 14 ∧ σ 46 2 = nI c ∧ σ 46 1 = nI x ∧ σ 824 7 = nI c ∧ ∀ j, j < c → yS σ (48 + 43 * ((x + 14 - c + j) % 14)) (fun i => σ 829 (187 * j + i)) T W
/-- the slots -/
def yK (σ : xS) (T W : Nat) : Prop := ∀ s, s < 2 → (σ 651 s = 0 ∧ σ 831 s = 0) ∨ (σ 651 s = 1 ∧ σ 831 s = 1 ∧ yS σ (738 + 43 * s) (fun i => σ 830 (187 * s + i)) T W)
def yR (T W : Nat) (σ : xS) : Prop := yS σ 3 (σ 826) T W ∧ yX σ ∧ yM σ T W ∧ yK σ T W
/-- what matters of a state -/
def ySame (σ σ2 : xS) : Prop := (∀ i, ((2 ≤ i ∧ i < 652) ∨ (738 ≤ i ∧ i < 824) ∨ i = 825 ∨ i = 826 ∨ (829 ≤ i ∧ i < 832)) → σ2 i = σ i) ∧ σ2 1 1 = σ 1 1 ∧ σ2 824 2 = σ 824 2 ∧ σ2 824 7 = σ 824 7
theorem ySame.trans {σ σ2 σ3 : xS} (h : ySame σ σ2) (h2 : ySame σ2 σ3) : ySame σ σ3 := ⟨fun i hi => (h2.1 i hi).trans (h.1 i hi), h2.2.1.trans h.2.1, h2.2.2.1.trans h.2.2.1, h2.2.2.2.trans h.2.2.2⟩
theorem yX.ex {σ σ2 : xS} (h : yX σ) (e2 : σ2 2 = σ 2) (e825 : σ2 825 = σ 825) (e1 : σ2 1 1 = σ 1 1) (e824 : σ2 824 2 = σ 824 2) : yX σ2 := by
  unfold yX
  rw [e2, e825, e1, e824]
  exact h
theorem yM.ex {σ σ2 : xS} {T W : Nat} (h : yM σ T W) (e : ∀ i, 46 ≤ i → i < 650 → σ2 i = σ i) (e829 : σ2 829 = σ 829) (e824 : σ2 824 7 = σ 824 7) : yM σ2 T W := by
  obtain ⟨c, x, h1, h2, h3, h4, h5, h6⟩ := h
  refine ⟨c, x, h1, h2, by rw [e 46 (by omega) (by omega), h3], by rw [e 46 (by omega) (by omega), h4], by rw [e824, h5], fun j hj => ?_⟩
  rw [e829]
  exact (h6 j hj).ex (fun i a b => e i (by omega) (by omega))
theorem yM.mono {σ : xS} {T W T2 W2 : Nat} (h : yM σ T W) (hT : T ≤ T2) (hW : W ≤ W2) : yM σ T2 W2 := by
  obtain ⟨c, x, h1, h2, h3, h4, h5, h6⟩ := h
  exact ⟨c, x, h1, h2, h3, h4, h5, fun j hj => (h6 j hj).mono hT hW⟩
theorem yK.ex {σ σ2 : xS} {T W : Nat} (h : yK σ T W) (e : ∀ i, (i = 651 ∨ (738 ≤ i ∧ i < 824) ∨ i = 830 ∨ i = 831) → σ2 i = σ i) : yK σ2 T W := by
  intro s hs
  rw [e 651 (by omega), e 830 (by omega), e 831 (by omega)]
  rcases h s hs with h | ⟨h1, h2, h3⟩
  · exact Or.inl h
  · exact Or.inr ⟨h1, h2, h3.ex (fun i a b => e i (by omega))⟩
theorem yK.mono {σ : xS} {T W T2 W2 : Nat} (h : yK σ T W) (hT : T ≤ T2) (hW : W ≤ W2) : yK σ T2 W2 := by
  intro s hs
  rcases h s hs with h | ⟨h1, h2, h3⟩
  · exact Or.inl h
  · exact Or.inr ⟨h1, h2, h3.mono hT hW⟩
theorem yR.ex {σ σ2 : xS} {T W : Nat} (h : yR T W σ) (e : ySame σ σ2) : yR T W σ2 := by
  obtain ⟨h1, h2, h3, h4⟩ := h
  obtain ⟨e1, e2, e3, e4⟩ := e
  refine ⟨?_, h2.ex (e1 2 (by omega)) (e1 825 (by omega)) e2 e3, h3.ex (fun i a b => e1 i (by omega)) (e1 829 (by omega)) e4, h4.ex (fun i hi => e1 i (by omega))⟩
  rw [e1 826 (by omega)]
  exact h1.ex (fun i a b => e1 i (by omega))
theorem yR.mono {σ : xS} {T W T2 W2 : Nat} (h : yR T W σ) (hT : T ≤ T2) (hW : W ≤ W2) : yR T2 W2 σ := ⟨h.1.mono hT hW, h.2.1, h.2.2.1.mono hT hW, h.2.2.2.mono hT hW⟩
/-- one call: the class's helper, then the reference's method -/
def yC (T W : Nat) (FL FM : xS → Option (Int32 × xS)) (σ : xS) : Prop := ∃ c σ1 b σ2, FL σ = some (c, σ1) ∧ FM σ1 = some (b, σ2) ∧ σ2 824 0 = c ∧ (c = 0 → σ2 832 0 = b) ∧ yR T W σ2
theorem pR_refused {σ : xS} {o : Nat} {c : Int32} : F_X6_refused o c σ = some (if c ≤ 0 then 0 else 1, xu σ o 0 c) := by
  unfold F_X6_refused
  rw [xlet_s]
  by_cases h : c ≤ 0
  · rw [if_pos h, if_pos h]
  · rw [if_neg h, if_neg h]
theorem pR_ref0 {σ : xS} {o : Nat} : F_X6_refused o 0 σ = some (0, xu σ o 0 0) := by rw [pR_refused, if_pos (by decide)]
theorem pR_ref1 {σ : xS} {o : Nat} : F_X6_refused o 1 σ = some (1, xu σ o 0 1) := by rw [pR_refused, if_neg (by decide)]
theorem pR_ref2 {σ : xS} {o : Nat} : F_X6_refused o 2 σ = some (1, xu σ o 0 2) := by rw [pR_refused, if_neg (by decide)]
theorem pR_ref3 {σ : xS} {o : Nat} : F_X6_refused o 3 σ = some (1, xu σ o 0 3) := by rw [pR_refused, if_neg (by decide)]
theorem xbH_0 {R' : Type} {v : Int32} {σ : xS} {K : Int32 → xS → Option R'} {H : Nat → xS → Option R'} : xbH (some (0, v, σ)) K H = K v σ := by show (if (0 : Nat) = 0 then K v σ else H 0 σ) = K v σ; exact if_pos rfl
theorem xbH_1 {R' : Type} {v : Int32} {σ : xS} {K : Int32 → xS → Option R'} {H : Nat → xS → Option R'} : xbH (some (1, v, σ)) K H = H 1 σ := by show (if (1 : Nat) = 0 then K v σ else H 1 σ) = H 1 σ; exact if_neg (by decide)
theorem xbH_2 {R' : Type} {v : Int32} {σ : xS} {K : Int32 → xS → Option R'} {H : Nat → xS → Option R'} : xbH (some (2, v, σ)) K H = H 2 σ := by show (if (2 : Nat) = 0 then K v σ else H 2 σ) = H 2 σ; exact if_neg (by decide)
theorem xbH_3 {R' : Type} {v : Int32} {σ : xS} {K : Int32 → xS → Option R'} {H : Nat → xS → Option R'} : xbH (some (3, v, σ)) K H = H 3 σ := by show (if (3 : Nat) = 0 then K v σ else H 3 σ) = H 3 σ; exact if_neg (by decide)
theorem xbT_0 {v : Int32} {σ : xS} {K : Int32 → xS → Option xR} : xbT (some (0, v, σ)) K = K v σ := by show (if (0 : Nat) = 0 then K v σ else some (0, v, σ)) = K v σ; exact if_pos rfl
theorem xbT_1 {v : Int32} {σ : xS} {K : Int32 → xS → Option xR} : xbT (some (1, v, σ)) K = some (1, v, σ) := by show (if (1 : Nat) = 0 then K v σ else some (1, v, σ)) = some (1, v, σ); exact if_neg (by decide)
theorem xbT_2 {v : Int32} {σ : xS} {K : Int32 → xS → Option xR} : xbT (some (2, v, σ)) K = some (2, v, σ) := by show (if (2 : Nat) = 0 then K v σ else some (2, v, σ)) = some (2, v, σ); exact if_neg (by decide)
theorem xbT_3 {v : Int32} {σ : xS} {K : Int32 → xS → Option xR} : xbT (some (3, v, σ)) K = some (3, v, σ) := by show (if (3 : Nat) = 0 then K v σ else some (3, v, σ)) = some (3, v, σ); exact if_neg (by decide)
theorem F5_ref0 {σ : xS} : F_X5_refuse 0 σ = some (0, 0, σ) := by unfold F_X5_refuse; rw [if_neg (by decide), if_neg (by decide), if_neg (by decide)]
theorem F5_ref1 {σ : xS} : F_X5_refuse 1 σ = some (1, 0, σ) := by unfold F_X5_refuse; rw [if_pos (by decide)]
theorem F5_ref2 {σ : xS} : F_X5_refuse 2 σ = some (2, 0, σ) := by unfold F_X5_refuse; rw [if_neg (by decide), if_pos (by decide)]
theorem F5_ref3 {σ : xS} : F_X5_refuse 3 σ = some (3, 0, σ) := by unfold F_X5_refuse; rw [if_neg (by decide), if_neg (by decide), if_pos (by decide)]
theorem F5_dem1 {σ : xS} {f : Int32} : F_X5_demand 1 f σ = some (0, 0, σ) := by unfold F_X5_demand; rw [if_pos (by decide)]
theorem F5_dem01 {σ : xS} : F_X5_demand 0 1 σ = some (1, 0, σ) := by unfold F_X5_demand; rw [if_neg (by decide), F5_ref1, xbT_1]
theorem F5_dem02 {σ : xS} : F_X5_demand 0 2 σ = some (2, 0, σ) := by unfold F_X5_demand; rw [if_neg (by decide), F5_ref2, xbT_2]
theorem F5_dem03 {σ : xS} : F_X5_demand 0 3 σ = some (3, 0, σ) := by unfold F_X5_demand; rw [if_neg (by decide), F5_ref3, xbT_3]
theorem ySame.ref {σ : xS} {c : Int32} : ySame σ (xu σ 824 0 c) := ⟨fun i hi => xu_other (by omega), by rw [xu_other (by decide)], by rw [xu_same, up_n (by decide)], by rw [xu_same, up_n (by decide)]⟩
theorem ySame.out {σ : xS} {v : Int32} : ySame σ (xu σ 832 0 v) := ⟨fun i hi => xu_other (by omega), by rw [xu_other (by decide)], by rw [xu_other (by decide)], by rw [xu_other (by decide)]⟩
theorem ySame.fr {σ σ2 : xS} {lo hi : Nat} (h : xfr σ σ2 lo hi) (h1 : (652 ≤ lo ∧ hi ≤ 738) ∨ (827 ≤ lo ∧ hi ≤ 829) ∨ (832 ≤ lo)) : ySame σ σ2 := ⟨fun i hi => h i (by omega), by rw [h 1 (by omega)], by rw [h 824 (by omega)], by rw [h 824 (by omega)]⟩
/-- a call that throws -/
theorem yC_thr {T W : Nat} {FL FM : xS → Option (Int32 × xS)} {σ : xS} {c b : Int32} (h : yR T W σ) (h1 : FL σ = some (c, σ)) (h2 : FM σ = some (b, xu σ 824 0 c)) (hc : ¬ c = 0) : yC T W FL FM σ :=
  ⟨c, σ, b, _, h1, h2, by rw [xu_same, up_s], fun q => absurd q hc, h.ex ySame.ref⟩
/-- a call that only looks -/
theorem yC_look {T W : Nat} {FL FM : xS → Option (Int32 × xS)} {σ : xS} {v : Int32} (h : yR T W σ) (h1 : FL σ = some (0, xu σ 832 0 v)) (h2 : FM (xu σ 832 0 v) = some (v, xu (xu σ 832 0 v) 824 0 0)) : yC T W FL FM σ :=
  ⟨0, _, v, _, h1, h2, by rw [xu_same, up_s], fun _ => by rw [xu_other (by decide), xu_same, up_s], (h.ex ySame.out).ex ySame.ref⟩
theorem xin01 : xin (0 : Int32) 1 = true := by decide
theorem cl0 : (0 : Int32).toNatClampNeg = 0 := by decide
