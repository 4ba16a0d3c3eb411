/-! TWO POSTS -/
def zX (w : Int32) (A3 B3 : zA) (o : Option (Int32 × xS)) : Prop := ∃ z, o = some (w, z) ∧ zAM z 0 A3 ∧ zAM z 824 B3
theorem zX_end {z : xS} {w : Int32} {A B : zA} (h : zAM z 0 A) (h2 : zAM z 824 B) : zX w A B (some (w, z)) := ⟨z, rfl, h, h2⟩
theorem zso {σ : xS} {v w : Int32} {A A2 B A3 B3 : zA} {F : xS → Option (Int32 × xS)} {K : Int32 → xS → Option (Int32 × xS)} (h : zL 0 F v A A2) (hσ : zAM σ 0 A) (hτ : zAM σ 824 B) (k : ∀ z, zAM z 0 A2 → zAM z 824 B → zX w A3 B3 (K v z)) : zX w A3 B3 (xbI (F σ) K) := by
  obtain ⟨z, h1, h2, h3⟩ := h σ hσ
  rw [h1, xbI_s]
  exact k z h3 (hτ.other h2 (by omega))
theorem zsq {σ : xS} {v w : Int32} {A B B2 A3 B3 : zA} {F : xS → Option (Int32 × xS)} {K : Int32 → xS → Option (Int32 × xS)} (h : zL 824 F v B B2) (hσ : zAM σ 0 A) (hτ : zAM σ 824 B) (k : ∀ z, zAM z 0 A → zAM z 824 B2 → zX w A3 B3 (K v z)) : zX w A3 B3 (xbI (F σ) K) := by
  obtain ⟨z, h1, h2, h3⟩ := h σ hτ
  rw [h1, xbI_s]
  exact k z (hσ.other h2 (by omega)) h3
theorem zpair {σ : xS} {v w : Int32} {A B A3 B3 : zA} {F : Nat → xS → Option (Int32 × xS)} {N : Int32 → Int32 → xS → Option (Int32 × xS)} {K : xS → Option (Int32 × xS)} (h : ∀ x, zL x (F x) v A B) (hσ : zAM σ 0 A) (hτ : zAM σ 824 A) (k : ∀ z, zAM z 0 B → zAM z 824 B → zX w A3 B3 (K z)) : zX w A3 B3 (xbI (F 0 σ) (fun (a : Int32) (s1 : xS) => xbI (F 824 s1) (fun (b : Int32) (s2 : xS) => if ¬ a = b then N a b s2 else K s2))) := by
  refine zso (h 0) hσ hτ (fun z h1 h2 => zsq (h 824) h1 h2 (fun z h1 h2 => ?_))
  rw [if_neg (fun q => q rfl)]
  exact k z h1 h2
section ZK
variable {A : zA} {T W : Nat}
theorem zE_2 {F : Nat → xS → Option xR} {es : List Nat} {G : Nat → xS → Option (Int32 × xS)} (h : zE F es A A) (hG : ∀ x e v, zT x (F x) e v A A → e ∈ es → zL x (G x) (cd e v) A A) : ∃ v, ∀ x, zL x (G x) v A A := by
  obtain ⟨e, v, h1, h2⟩ := h
  exact ⟨cd e v, fun x => hG x e v (h2 x) h1⟩
theorem es2 {e : Nat} (h : e ∈ [0, 2]) : e = 0 ∨ e = 2 := by simpa using h
theorem es12 {e : Nat} (h : e ∈ [0, 1, 2]) : e = 0 ∨ e = 1 ∨ e = 2 := by simpa using h
theorem ze_about (h : zAP A T W) (c a b : Int32) : ∃ v, ∀ x, zL x (F_L_call x 2 c a b) v A A := zE_2 (z_aboutE h c) (fun x e v q he => zc_2 q (es2 he))
theorem ze_setting (h : zAP A T W) (c a b : Int32) : ∃ v, ∀ x, zL x (F_L_call x 7 c a b) v A A := zE_2 (z_settingE h c) (fun x e v q he => zc_7 q (es2 he))
theorem ze_writer (h : zAP A T W) (k c b : Int32) : ∃ v, ∀ x, zL x (F_L_call x 3 k c b) v A A := zE_2 (z_writerE h k c) (fun x e v q he => zc_3 q (es12 he))
theorem ze_desk (h : zAP A T W) (k c b : Int32) : ∃ v, ∀ x, zL x (F_L_call x 4 k c b) v A A := zE_2 (z_deskE h k c) (fun x e v q he => zc_4 q (es12 he))
theorem ze_letter (h : zAP A T W) (k i c : Int32) : ∃ v, ∀ x, zL x (F_L_call x 5 k i c) v A A := zE_2 (z_letterE h k i c) (fun x e v q he => zc_5 q (es12 he))
theorem ze_planned (h : zAP A T W) (i c b : Int32) : ∃ v, ∀ x, zL x (F_L_call x 6 i c b) v A A := zE_2 (z_plannedE h i c) (fun x e v q he => zc_6 q (es12 he))
theorem alike_loop {p : Int32} (h : zAP A T W) : ∀ (q i fuel : Nat) (σ : xS), i + q = 9 → q < fuel → zAM σ 0 A → zAM σ 824 A → zX 1 A A (L_L_alike_36 0 824 p (fun (zz16 : Int32) (σ19 : xS) => if vp_nar .boolean zz16 = zz16 then some (zz16, σ19) else none) fuel 1 (nI i) σ) := by
  intro q
  induction q with
  | zero =>
    intro i fuel σ hi hf h1 h2
    obtain ⟨g, rfl⟩ : ∃ g, fuel = g + 1 := ⟨fuel - 1, by omega⟩
    rw [L_L_alike_36, if_pos (show (9 : Int32) ≤ nI i from nI_le (a := 9) (by omega) (by omega)), if_pos (by decide)]
    exact zX_end h1 h2
  | succ q ih =>
    intro i fuel σ hi hf h1 h2
    obtain ⟨g, rfl⟩ : ∃ g, fuel = g + 1 := ⟨fuel - 1, by omega⟩
    rw [L_L_alike_36, if_neg (show ¬ (9 : Int32) ≤ nI i from nI_ge (b := 9) (by omega) (by decide)), if_neg (by decide)]
    obtain ⟨v1, k1⟩ := ze_about h (nI i) 0 0
    obtain ⟨v2, k2⟩ := ze_setting h (nI i) 0 0
    obtain ⟨v3, k3⟩ := ze_writer h (nI i - nI i / 4 * 4) (p - p / 7 * 7) 0
    obtain ⟨v4, k4⟩ := ze_desk h (nI i - nI i / 4 * 4) (p - p / 6 * 6) 0
    obtain ⟨v5, k5⟩ := ze_letter h (p - p / 4 * 4) (nI i) (p - p / 2 * 2)
    obtain ⟨v6, k6⟩ := ze_planned h (nI i) (p - p / 3 * 3) 0
    refine zpair (F := fun x => F_L_call x 2 (nI i) 0 0) k1 h1 h2 (fun z h1 h2 => ?_)
    refine zpair (F := fun x => F_L_call x 7 (nI i) 0 0) k2 h1 h2 (fun z h1 h2 => ?_)
    refine zpair (F := fun x => F_L_call x 3 (nI i - nI i / 4 * 4) (p - p / 7 * 7) 0) k3 h1 h2 (fun z h1 h2 => ?_)
    refine zpair (F := fun x => F_L_call x 4 (nI i - nI i / 4 * 4) (p - p / 6 * 6) 0) k4 h1 h2 (fun z h1 h2 => ?_)
    refine zpair (F := fun x => F_L_call x 5 (p - p / 4 * 4) (nI i) (p - p / 2 * 2)) k5 h1 h2 (fun z h1 h2 => ?_)
    refine zpair (F := fun x => F_L_call x 6 (nI i) (p - p / 3 * 3) 0) k6 h1 h2 (fun z h1 h2 => ?_)
    rw [xlet_s, nI_1]
    exact ih (i + 1) g z (by omega) (by omega) h1 h2
theorem z_alike {X : Nat} {σ : xS} (h : zAP A T W) (hT : T < 80000) (hW : W < 6000000) (hX : X < 2 ^ 31) (h1 : zAM σ 0 A) (h2 : zAM σ 824 A) : zX 1 A A (F_L_alike 0 824 (nI X) σ) := by
  have e20 : (1 : Int32) + (nI X - nI X / 20 * 20) = nI (1 + X % 20) := by
    rw [show nI X - nI X / 20 * 20 = nI (X % 20) from pk_rem (d := 20) hX (by decide) (by decide)]
    exact nI_add 1 _
  obtain ⟨v, hv⟩ := z_sim (M := 1 + X % 20) h hT hW (nI X).toInt64 (by omega) (by omega)
  unfold F_L_alike
  rw [e20]
  refine zso (zc_doSimulate (hv 0) (Or.inl rfl)) h1 h2 (fun z h1 h2 => zsq (zc_doSimulate (hv 824) (Or.inl rfl)) h1 h2 (fun z h1 h2 => ?_))
  rw [xjn_s, if_neg (fun q => q rfl)]
  exact alike_loop h 9 0 10 z (by omega) (by omega) h1 h2
end ZK
