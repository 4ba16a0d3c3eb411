/-! THE OBJECT: an array for the state, a list of arrays that are remembered (the newest first), two slots -/
def zP (r : Nat → Int32) (T W : Nat) : Prop := ∃ m t tr wt sz ms L w, rOK r m t tr wt sz ms L (rLo 0 m (t + 1)) w ∧ zV r m t ∧ t ≤ T ∧ w ≤ W
theorem zP.mono {r : Nat → Int32} {T W T2 W2 : Nat} (h : zP r T W) (hT : T ≤ T2) (hW : W ≤ W2) : zP r T2 W2 := by
  obtain ⟨m, t, tr, wt, sz, ms, L, w, h1, h2, h3, h4⟩ := h
  exact ⟨m, t, tr, wt, sz, ms, L, w, h1, h2, by omega, by omega⟩
/-- post p looks as array r -/
def zQ (σ : xS) (p : Nat) (r : Nat → Int32) : Prop := xQ3 σ p r (mN (r 2))
theorem zQ.ex {σ σ2 : xS} {p : Nat} {r : Nat → Int32} (h : zQ σ p r) (hx : ∀ i, p ≤ i → i < p + 43 → σ2 i = σ i) : zQ σ2 p r := xQ3.ex h hx
section ZQ
variable {m t tr wt sz ms L w : Nat} {lo : Nat → Nat}
theorem zQ.to {σ : xS} {p : Nat} {r : Nat → Int32} (h : zQ σ p r) (h1 : rOK r m t tr wt sz ms L lo w) : xQ3 σ p r L := by
  unfold zQ at h
  rw [h1.LL] at h
  exact h
theorem zQ.of {σ : xS} {p : Nat} {r : Nat → Int32} (h : xQ3 σ p r L) (h1 : rOK r m t tr wt sz ms L lo w) : zQ σ p r := by
  unfold zQ
  rw [h1.LL]
  exact h
end ZQ
theorem zQ.copy {σ : xS} {p p2 T W : Nat} {r : Nat → Int32} (hP : zP r T W) (h : zQ σ p2 r) (hp : p + 43 ≤ p2 ∨ p2 + 43 ≤ p) : ∃ z, F_X3_copyFrom p p2 σ = some z ∧ xfr σ z p (p + 43) ∧ zQ z p r := by
  obtain ⟨m, t, tr, wt, sz, ms, L, w, h1, h2, h3, h4⟩ := hP
  obtain ⟨z, e1, e2, e3⟩ := pT_copy (h.to h1) h1.L8 hp h1.h01
  exact ⟨z, e1, e2, zQ.of e3 h1⟩
abbrev zA : Type := (Nat → Int32) × List (Nat → Int32) × (Nat → Option (Nat → Int32))
def zM (σ : xS) (x : Nat) (l : List (Nat → Int32)) : Prop := ∃ y, y < 14 ∧ l.length ≤ 14 ∧ σ (x + 46) 2 = nI l.length ∧ σ (x + 46) 1 = nI y ∧ ∀ j r, l[j]? = some r → zQ σ (x + 46 + 2 + 43 * ((y + 13 - j) % 14)) r
def zK (σ : xS) (x : Nat) (f : Nat → Option (Nat → Int32)) : Prop := ∀ s, s < 2 → (f s = none ∧ σ (x + 651) s = 0) ∨ ∃ r, f s = some r ∧ σ (x + 651) s = 1 ∧ zQ σ (x + 738 + 43 * s) r
def zAP (A : zA) (T W : Nat) : Prop := zP A.1 T W ∧ (∀ r, r ∈ A.2.1 → zP r T W) ∧ ∀ s r, A.2.2 s = some r → zP r T W
def zAM (σ : xS) (x : Nat) (A : zA) : Prop := zQ σ (x + 3) A.1 ∧ zM σ x A.2.1 ∧ zK σ x A.2.2
theorem zAP.mono {A : zA} {T W T2 W2 : Nat} (h : zAP A T W) (hT : T ≤ T2) (hW : W ≤ W2) : zAP A T2 W2 := ⟨h.1.mono hT hW, fun r hr => (h.2.1 r hr).mono hT hW, fun s r hr => (h.2.2 s r hr).mono hT hW⟩
theorem zM.ex {σ σ2 : xS} {x : Nat} {l : List (Nat → Int32)} (h : zM σ x l) (e : ∀ i, x + 46 ≤ i → i < x + 650 → σ2 i = σ i) : zM σ2 x l := by
  obtain ⟨y, h1, h2, h3, h4, h5⟩ := h
  exact ⟨y, h1, h2, by rw [e _ (by omega) (by omega)]; exact h3, by rw [e _ (by omega) (by omega)]; exact h4, fun j r hr => (h5 j r hr).ex (fun i a b => e i (by omega) (by omega))⟩
theorem zK.ex {σ σ2 : xS} {x : Nat} {f : Nat → Option (Nat → Int32)} (h : zK σ x f) (e1 : σ2 (x + 651) = σ (x + 651)) (e : ∀ i, x + 738 ≤ i → i < x + 824 → σ2 i = σ i) : zK σ2 x f := by
  intro s hs
  rw [e1]
  rcases h s hs with h | ⟨r, h1, h2, h3⟩
  · exact Or.inl h
  · exact Or.inr ⟨r, h1, h2, h3.ex (fun i a b => e i (by omega) (by omega))⟩
/-- the copies for scripts and looks ahead don't matter -/
theorem zAM.ex {σ σ2 : xS} {x : Nat} {A : zA} (h : zAM σ x A) (e : ∀ i, (x + 3 ≤ i ∧ i < x + 652) ∨ (x + 738 ≤ i ∧ i < x + 824) → σ2 i = σ i) : zAM σ2 x A :=
  ⟨h.1.ex (fun i a b => e i (by omega)), h.2.1.ex (fun i a b => e i (by omega)), h.2.2.ex (e _ (by omega)) (fun i a b => e i (by omega))⟩
theorem zAM.fr {σ σ2 : xS} {x : Nat} {A : zA} {lo hi : Nat} (h : zAM σ x A) (f : xfr σ σ2 lo hi) (h1 : x + 652 ≤ lo) (h2 : hi ≤ x + 738) : zAM σ2 x A := h.ex (fun i hi => f i (by omega))
theorem zAM.other {σ σ2 : xS} {x y : Nat} {A : zA} (h : zAM σ y A) (f : xfr σ σ2 x (x + 824)) (hxy : y + 824 ≤ x ∨ x + 824 ≤ y) : zAM σ2 y A := h.ex (fun i hi => f i (by omega))
/-- the class's method: it comes to e, v, and the object is A2 behind it -/
def zT (x : Nat) (F : xS → Option xR) (e : Nat) (v : Int32) (A A2 : zA) : Prop := ∀ σ, zAM σ x A → ∃ z, F σ = some (e, v, z) ∧ xfr σ z x (x + 824) ∧ zAM z x A2
theorem zT_look {x e : Nat} {F : xS → Option xR} {v : Int32} {A : zA} (h : ∀ σ, zAM σ x A → F σ = some (e, v, σ)) : zT x F e v A A := fun σ hσ => ⟨σ, h σ hσ, xfr.refl, hσ⟩
theorem xbH_0 {R' : Type} {v : Int32} {σ : xS} {K : Int32 → xS → Option R'} {H : Nat → xS → Option R'} : xbH (some (0, v, σ)) K H = K v σ := by show (if (0 : Nat) = 0 then K v σ else H 0 σ) = K v σ; exact if_pos rfl
theorem xbH_1 {R' : Type} {v : Int32} {σ : xS} {K : Int32 → xS → Option R'} {H : Nat → xS → Option R'} : xbH (some (1, v, σ)) K H = H 1 σ := by show (if (1 : Nat) = 0 then K v σ else H 1 σ) = H 1 σ; exact if_neg (by decide)
theorem xbH_2 {R' : Type} {v : Int32} {σ : xS} {K : Int32 → xS → Option R'} {H : Nat → xS → Option R'} : xbH (some (2, v, σ)) K H = H 2 σ := by show (if (2 : Nat) = 0 then K v σ else H 2 σ) = H 2 σ; exact if_neg (by decide)
theorem xbH_3 {R' : Type} {v : Int32} {σ : xS} {K : Int32 → xS → Option R'} {H : Nat → xS → Option R'} : xbH (some (3, v, σ)) K H = H 3 σ := by show (if (3 : Nat) = 0 then K v σ else H 3 σ) = H 3 σ; exact if_neg (by decide)
theorem xbT_0 {v : Int32} {σ : xS} {K : Int32 → xS → Option xR} : xbT (some (0, v, σ)) K = K v σ := by show (if (0 : Nat) = 0 then K v σ else some (0, v, σ)) = K v σ; exact if_pos rfl
theorem xbT_1 {v : Int32} {σ : xS} {K : Int32 → xS → Option xR} : xbT (some (1, v, σ)) K = some (1, v, σ) := by show (if (1 : Nat) = 0 then K v σ else some (1, v, σ)) = some (1, v, σ); exact if_neg (by decide)
theorem xbT_2 {v : Int32} {σ : xS} {K : Int32 → xS → Option xR} : xbT (some (2, v, σ)) K = some (2, v, σ) := by show (if (2 : Nat) = 0 then K v σ else some (2, v, σ)) = some (2, v, σ); exact if_neg (by decide)
theorem xbT_3 {v : Int32} {σ : xS} {K : Int32 → xS → Option xR} : xbT (some (3, v, σ)) K = some (3, v, σ) := by show (if (3 : Nat) = 0 then K v σ else some (3, v, σ)) = some (3, v, σ); exact if_neg (by decide)
theorem F5_ref0 {σ : xS} : F_X5_refuse 0 σ = some (0, 0, σ) := by unfold F_X5_refuse; rw [if_neg (by decide), if_neg (by decide), if_neg (by decide)]
theorem F5_ref1 {σ : xS} : F_X5_refuse 1 σ = some (1, 0, σ) := by unfold F_X5_refuse; rw [if_pos (by decide)]
theorem F5_ref2 {σ : xS} : F_X5_refuse 2 σ = some (2, 0, σ) := by unfold F_X5_refuse; rw [if_neg (by decide), if_pos (by decide)]
theorem F5_ref3 {σ : xS} : F_X5_refuse 3 σ = some (3, 0, σ) := by unfold F_X5_refuse; rw [if_neg (by decide), if_neg (by decide), if_pos (by decide)]
theorem F5_dem1 {σ : xS} {f : Int32} : F_X5_demand 1 f σ = some (0, 0, σ) := by unfold F_X5_demand; rw [if_pos (by decide)]
theorem F5_dem01 {σ : xS} : F_X5_demand 0 1 σ = some (1, 0, σ) := by unfold F_X5_demand; rw [if_neg (by decide), F5_ref1, xbT_1]
theorem F5_dem02 {σ : xS} : F_X5_demand 0 2 σ = some (2, 0, σ) := by unfold F_X5_demand; rw [if_neg (by decide), F5_ref2, xbT_2]
theorem F5_dem03 {σ : xS} : F_X5_demand 0 3 σ = some (3, 0, σ) := by unfold F_X5_demand; rw [if_neg (by decide), F5_ref3, xbT_3]
theorem xin01 : xin (0 : Int32) 1 = true := by decide
theorem cl0 : (0 : Int32).toNatClampNeg = 0 := by decide
theorem pF_wiN {σ : xS} {x a b : Nat} (h1 : a ≤ x) (h2 : x ≤ b) (hb : b < 2 ^ 31) : F_X5_isWithin (nI x) (nI a) (nI b) σ = some (1, σ) := by
  rw [pF_within2, if_neg]
  intro q
  rcases q with q | q
  · exact nI_nlt h1 (by omega) q
  · exact nI_nlt h2 (by omega) q
theorem rIx0 {x : Int32} {o : Nat} (ho : o ≤ 8) (h : x < 0 ∨ nI o ≤ x) : x < 0 ∨ nI o - 1 < x := by
  rcases h with h | h
  · exact Or.inl h
  · by_cases e : o = 0
    · subst e
      exact Or.inr (Int32.lt_of_lt_of_le (by decide) h)
    · refine Or.inr ?_
      rw [nI_s1 (by omega)]
      exact Int32.lt_of_lt_of_le (nI_lt (by omega) (by omega)) h
theorem rIx1 {j o : Nat} (hj : j < o) (ho : o ≤ 8) : ¬ (nI j < 0 ∨ nI o - 1 < nI j) := by
  intro h
  rw [nI_s1 (by omega)] at h
  rcases h with h | h
  · exact nI_pos (by omega) h
  · exact nI_nlt (by omega) (by omega) h
theorem rOK.mm {r : Nat → Int32} {m t tr wt sz ms L W : Nat} {lo : Nat → Nat} (h : rOK r m t tr wt sz ms L lo W) : mN (r 0) = m := by rw [h.1.1, mN_nI (by have := h.m4; omega)]
theorem rLo_le1 {m t : Nat} : ∀ k, rLo 0 m (t + 1) k ≤ t + 1 := rLo_le
theorem pT_fW {σ : xS} {p : Nat} {k s c : Int32} : F_X3_faultOf p 1 k s c σ = xbI (F_X3_faultOfNote p k s σ) (fun (zz5 : Int32) (σ4 : xS) => some (zz5, σ4)) := by
  unfold F_X3_faultOf
  rw [if_neg (by decide), if_pos rfl]
theorem pT_fHF {σ : xS} {p m j : Nat} {kd c d : Int32} (h0 : σ p 0 = nI m) (hj : j < m) (hm : m ≤ 4) (hkd : kd = 3 ∨ kd = 4) : F_X3_faultOf p kd (nI j) c d σ = some (0, σ) := by
  unfold F_X3_faultOf
  rcases hkd with h | h <;> subst h
  · rw [if_neg (by decide), if_neg (by decide), if_neg (by decide), if_pos (by decide), pF_isWriter0 h0 hj hm, xbI_s]
  · rw [if_neg (by decide), if_neg (by decide), if_neg (by decide), if_pos (by decide), pF_isWriter0 h0 hj hm, xbI_s]
