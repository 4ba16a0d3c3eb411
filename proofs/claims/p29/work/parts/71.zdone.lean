/-! ALL IS DONE WHEN IT WAS TOLD -/
theorem zdn_keep {m t tr wt sz ms L w k : Nat} {r : Nat → Int32} (h : rOK r m t tr wt sz ms L (rLo 0 m (t + 1)) w) (ht : t < 2 ^ 20) (hw : w < 2 ^ 26) (hk : k < m) : ∀ (q i : Nat), i + q ≤ 1000 → rDn k (rIt (rTick 0 m) i r) = true → rDn k (rIt (rTick 0 m) (i + q) r) = true := by
  intro q
  induction q with
  | zero => intro i _ h; exact h
  | succ q ih =>
    intro i hi hd
    have h2 := ih i (by omega) hd
    obtain ⟨L2, -, ok⟩ := pK_ticks (Nat.le_refl m) (i + q) t L w r (by omega) (by omega) h
    rw [rTicks_it] at ok
    have := rDn_tick (by omega) (by omega) ok hk h2
    rw [show i + (q + 1) = (i + q) + 1 by omega, ← rIt_add (i + q) 1 r]
    exact this
/-- the object behind an action that was taken back -/
def zU (A : zA) : zA := (A.1, A.2.1.take 13, A.2.2)
theorem zPu_l {A : zA} {r : Nat → Int32} : (zPu A r).2.1 = A.1 :: A.2.1.take 13 := by
  unfold zPu
  rw [List.take_succ_cons]
theorem zAP_take {A : zA} {T W : Nat} {l : List (Nat → Int32)} (h : zAP A T W) (hl : ∀ r, r ∈ l → r ∈ A.2.1) : zAP (A.1, l, A.2.2) T W := ⟨h.1, fun r hr => h.2.1 r (hl r hr), h.2.2⟩
theorem zU_P {A : zA} {T W : Nat} (h : zAP A T W) : zAP (zU A) T W := zAP_take h (fun _ hr => List.mem_of_mem_take hr)
theorem zL_undo {A : zA} {T W x : Nat} {r : Nat → Int32} {l : List (Nat → Int32)} (h : zAP A T W) (hl : A.2.1 = r :: l) : zL x (F_L_call x 14 0 0 0) (nI l.length) A (r, l, A.2.2) := zc_14 (z_undo h hl) (Or.inl rfl)
theorem thr_0 {n : Nat} {σ : xS} (h : n < 2 ^ 31) : F_L_thrown (nI n) σ = some (0, σ) := by rw [zc_thrown, if_neg (thr_n rfl h)]
theorem zo_undo {σ : xS} {w : Int32} {A B A3 B3 : zA} {T W : Nat} {r : Nat → Int32} {l : List (Nat → Int32)} {N K : xS → Option (Int32 × xS)} (h : zAP A T W) (hl : A.2.1 = r :: l) (hlen : l.length ≤ 14) (hσ : zAM σ 0 A) (hτ : zAM σ 824 B) (k : ∀ z, zAM z 0 (r, l, A.2.2) → zAM z 824 B → zX w A3 B3 (K z)) : zX w A3 B3 (xbI (F_L_call 0 14 0 0 0 σ) (fun (a : Int32) (s1 : xS) => xbI (F_L_thrown a s1) (fun (b : Int32) (s2 : xS) => if ¬ b = 0 then N s2 else K s2))) := by
  refine zso (zL_undo h hl) hσ hτ (fun z h1 h2 => ?_)
  rw [thr_0 (by omega), xbI_s, if_neg (fun q => q rfl)]
  exact k z h1 h2
theorem zq_undo {σ : xS} {w : Int32} {A B A3 B3 : zA} {T W : Nat} {r : Nat → Int32} {l : List (Nat → Int32)} {N K : xS → Option (Int32 × xS)} (h : zAP B T W) (hl : B.2.1 = r :: l) (hlen : l.length ≤ 14) (hσ : zAM σ 0 A) (hτ : zAM σ 824 B) (k : ∀ z, zAM z 0 A → zAM z 824 (r, l, B.2.2) → zX w A3 B3 (K z)) : zX w A3 B3 (xbI (F_L_call 824 14 0 0 0 σ) (fun (a : Int32) (s1 : xS) => xbI (F_L_thrown a s1) (fun (b : Int32) (s2 : xS) => if ¬ b = 0 then N s2 else K s2))) := by
  refine zsq (zL_undo h hl) hσ hτ (fun z h1 h2 => ?_)
  rw [thr_0 (by omega), xbI_s, if_neg (fun q => q rfl)]
  exact k z h1 h2
theorem zs_len {A : zA} {σ : xS} {x : Nat} (h : zAM σ x A) : A.2.1.length ≤ 14 := by
  obtain ⟨y, -, h2, -⟩ := h.2.1
  exact h2
theorem zjn_n {K : Int32 → xS → Option (Int32 × xS)} {D c : Int32} {σ : xS} {cc : Prop} [Decidable cc] {G : Option (Int32 × xS) → Prop} (h1 : G (K c σ)) (h2 : ¬ D ≤ 0 → ¬ 100 ≤ D → G (K D σ)) : G (xjn K (fun (KK13 : Int32 → xS → Option (Int32 × xS)) => xjn (fun (σ15 : xS) => KK13 c σ15)
 (fun (KK16 : xS → Option (Int32 × xS)) => if D ≤ 0 then (KK16 σ)
 else (if 100 ≤ D then (KK16 σ)
 else (if cc then (KK16 σ)
 else (KK13 D σ)))))) := by
  rw [xjn_s]
  try dsimp only
  rw [xjn_s]
  try dsimp only
  by_cases a : D ≤ 0
  · rw [if_pos a]; exact h1
  by_cases b : 100 ≤ D
  · rw [if_neg a, if_pos b]; exact h1
  by_cases e : cc
  · rw [if_neg a, if_neg b, if_pos e]; exact h1
  · rw [if_neg a, if_neg b, if_neg e]; exact h2 a b
theorem zjn_is {K : Int32 → xS → Option (Int32 × xS)} {σ20 : xS} {A1 B A3 B3 : zA} {zz4 zz21 v1 w : Int32} (h1 : zL 0 (F_L_call 0 3 zz4 1 0) v1 A1 A1) (hσ : zAM σ20 0 A1) (hτ : zAM σ20 824 B) (hK : ∀ v z, (v = 0 → ¬ (zz21 = 0 ∧ v1 = 0)) → zAM z 0 A1 → zAM z 824 B → zX w A3 B3 (K v z)) : zX w A3 B3 (xjn K (fun (KK24 : Int32 → xS → Option (Int32 × xS)) => xjn (fun (σ26 : xS) => KK24 0 σ26)
 (fun (KK27 : xS → Option (Int32 × xS)) => if ¬ zz21 = 0 then (KK27 σ20)
 else (xbI (F_L_call 0 3 zz4 1 0 σ20) (fun (zz30 : Int32) (σ29 : xS) => if ¬ zz30 = 0 then (KK27 σ29)
 else (KK24 1 σ29)))))) := by
  rw [xjn_s]
  try dsimp only
  rw [xjn_s]
  try dsimp only
  by_cases a : zz21 = 0
  · rw [if_neg (fun q => q a)]
    refine zso h1 hσ hτ (fun z hz hz2 => ?_)
    by_cases b : v1 = 0
    · rw [if_neg (fun q => q b)]
      exact hK 1 z (fun q => absurd q (by decide)) hz hz2
    · rw [if_pos b]
      exact hK 0 z (fun _ q => b q.2) hz hz2
  · rw [if_pos a]
    exact hK 0 σ20 (fun _ q => a q.1) hσ hτ
theorem zg_done {K : Int32 → xS → Option (Int32 × xS)} {zz4 zz6 zz8 zz10 zz11 zz19 zz22 zz32 v48 w : Int32} {σ31 : xS} {A B A3 B3 : zA} (e1 : zz32 = zz19) (c7 : zL 0 (F_L_call 0 2 7 0 0) (zz10 + zz19) A A) (c1 : zL 0 (F_L_call 0 2 1 0 0) (zz8 + zz11) A A) (cd : zL 0 (F_L_call 0 15 zz4 0 0) v48 A A) (h1 : ¬ zz6 = ((-1)) → ¬ zz11 < zz6 → ¬ zz22 = 0 ∧ v48 = 0) (h2 : ¬ zz6 = ((-1)) → ¬ zz6 ≤ zz11 → v48 = zz6 - zz11) (hσ : zAM σ31 0 A) (hτ : zAM σ31 824 B) (hK : ∀ z, zAM z 0 A → zAM z 824 B → zX w A3 B3 (K 1 z)) : zX w A3 B3 (xjn K (fun (KK35 : Int32 → xS → Option (Int32 × xS)) => xjn (fun (σ37 : xS) => KK35 0 σ37)
 (fun (KK38 : xS → Option (Int32 × xS)) => if ¬ zz32 = zz19 then (KK38 σ31)
 else (xbI (F_L_call 0 2 7 0 0 σ31) (fun (zz41 : Int32) (σ40 : xS) => if ¬ zz41 = (zz10 + zz19) then (KK38 σ40)
 else (xbI (F_L_call 0 2 1 0 0 σ40) (fun (zz43 : Int32) (σ42 : xS) => if ¬ zz43 = (zz8 + zz11) then (KK38 σ42)
 else (xjn (fun (σ44 : xS) => xjn (fun (σ49 : xS) => KK35 1 σ49)
 (fun (KK50 : xS → Option (Int32 × xS)) => if zz6 = ((-1)) then (KK50 σ44)
 else (if zz6 ≤ zz11 then (KK50 σ44)
 else (xbI (F_L_call 0 15 zz4 0 0 σ44) (fun (zz53 : Int32) (σ52 : xS) => if ¬ zz53 = (zz6 - zz11) then (KK38 σ52)
 else (KK50 σ52))))))
 (fun (KK45 : xS → Option (Int32 × xS)) => if zz6 = ((-1)) then (KK45 σ42)
 else (if zz11 < zz6 then (KK45 σ42)
 else (if zz22 = 0 then (KK38 σ42)
 else (xbI (F_L_call 0 15 zz4 0 0 σ42) (fun (zz48 : Int32) (σ47 : xS) => if ¬ zz48 = 0 then (KK38 σ47)
 else (KK45 σ47)))))))))))))) := by
  rw [xjn_s]
  try dsimp only
  rw [xjn_s]
  try dsimp only
  rw [if_neg (fun p => p e1)]
  refine zso c7 hσ hτ (fun z hσ hτ => ?_)
  rw [if_neg (fun p => p rfl)]
  refine zso c1 hσ hτ (fun z hσ hτ => ?_)
  rw [if_neg (fun p => p rfl), xjn_s]
  try dsimp only
  by_cases a : zz6 = ((-1))
  · rw [if_pos a, xjn_s]
    try dsimp only
    rw [if_pos a]
    exact hK z hσ hτ
  by_cases b : zz11 < zz6
  · rw [if_neg a, if_pos b, xjn_s]
    try dsimp only
    have b2 : ¬ zz6 ≤ zz11 := Int32.not_le.mpr b
    rw [if_neg a, if_neg b2]
    refine zso cd hσ hτ (fun z hσ hτ => ?_)
    rw [if_neg (fun p => p (h2 a b2))]
    exact hK z hσ hτ
  · have b2 : zz6 ≤ zz11 := Int32.not_lt.mp b
    obtain ⟨q1, q2⟩ := h1 a b
    rw [if_neg a, if_neg b, if_neg q1]
    refine zso cd hσ hτ (fun z hσ hτ => ?_)
    rw [if_neg (fun p => p q2), xjn_s]
    try dsimp only
    rw [if_neg a, if_pos b2]
    exact hK z hσ hτ
theorem zz_ab (a b : Int32) : a + (b - a) = b := by grind
section ZD
variable {A : zA} {T W : Nat}
set_option maxHeartbeats 1000000 in
theorem z_doneL {X : Nat} {σ : xS} (h : zAP A T W) (hT : T < 80000) (hW : W < 6000000) (hX : X < 2 ^ 31) (hσ : zAM σ 0 A) (hτ : zAM σ 824 A) : zX 1 (zU A) (zU A) (F_L_done 0 824 (nI X) σ) := by
  obtain ⟨m, t, tr, wt, sz, ms, L, w, h1, hv, ht, hw⟩ := id h.1
  obtain ⟨b1, b2, b3, b4, b5, b6, b7, b8, b9, b10⟩ := h1.1.b
  have em := h1.mm
  obtain ⟨k, hk⟩ : ∃ k, k = X % m := ⟨_, rfl⟩
  have hkm : k < m := by rw [hk]; exact Nat.mod_lt _ (by omega)
  have hkA : k < mN (A.1 0) := by rw [em]; exact hkm
  have len := zs_len hσ
  have ca : ∀ i : Nat, i ≤ 8 → ∀ x, zL x (F_L_call x 2 (nI i) 0 0) (abV A.1 i) A A := fun i hi x => zc_2 (z_about h hi) (Or.inl rfl)
  obtain ⟨D, hD⟩ : ∃ D, D = rVal 0 (rFst (rTick 0 m) (rDn k) 400 A.1) := ⟨_, rfl⟩
  have cD : ∀ x, zL x (F_L_call x 15 (nI k) 0 0) D A A := fun x => by
    rw [hD, ← em]
    exact zc_15 (z_done h (by omega) (by omega) hkA) (Or.inl rfl)
  have D1 : ∀ j, rFst (rTick 0 m) (rDn k) 400 A.1 = some j → j ≤ 400 ∧ D = nI j := fun j hj => by
    have := (rFst_some 400 j A.1 hj).1
    exact ⟨this, by rw [hD, hj, rVal_0 (by omega)]⟩
  have D0 : rFst (rTick 0 m) (rDn k) 400 A.1 = none → D = -1 := fun hj => by rw [hD, hj]; rfl
  unfold F_L_done
  refine zso (show zL 0 (F_L_call 0 2 0 0 0) (A.1 0) A A from ca 0 (by omega) 0) hσ hτ (fun z hσ hτ => ?_)
  rw [h1.1.1, if_pos (show ¬ nI m = 0 from nI_ne0 (by omega) (by omega)), xlet_s, show nI X - nI X / nI m * nI m = nI k by rw [hk]; exact pk_rem (by omega) (by omega) (by omega)]
  refine zso (cD 0) hσ hτ (fun z hσ hτ => ?_)
  refine zso (show zL 0 (F_L_call 0 2 1 0 0) (A.1 1) A A from ca 1 (by omega) 0) hσ hτ (fun z hσ hτ => ?_)
  refine zso (show zL 0 (F_L_call 0 2 7 0 0) (rS4 A.1 8) A A from ca 7 (by omega) 0) hσ hτ (fun z hσ hτ => ?_)
  -- the number of ticks
  have key : ∀ (G : Option (Int32 × xS) → Prop) (K : Int32 → xS → Option (Int32 × xS)) (s : xS) (cc : Prop) [Decidable cc], (∀ N : Nat, 1 ≤ N → N ≤ 99 → G (K (nI N) s)) → G (xjn K (fun (KK13 : Int32 → xS → Option (Int32 × xS)) => xjn (fun (σ15 : xS) => KK13 (1 + (nI X / 8 - nI X / 8 / 99 * 99)) σ15)
 (fun (KK16 : xS → Option (Int32 × xS)) => if D ≤ 0 then (KK16 s)
 else (if 100 ≤ D then (KK16 s)
 else (if cc then (KK16 s)
 else (KK13 D s)))))) := by
    intro G K s cc _ hG
    refine zjn_n ?_ (fun a b => ?_)
    · rw [show nI X / 8 = nI (X / 8) from pk_div (d := 8) hX (by decide) (by decide), show nI (X / 8) - nI (X / 8) / 99 * 99 = nI (X / 8 % 99) from pk_rem (d := 99) (by omega) (by decide) (by decide), show (1 : Int32) + nI (X / 8 % 99) = nI (1 + X / 8 % 99) from nI_add 1 _]
      exact hG _ (by omega) (by omega)
    · cases hq : rFst (rTick 0 m) (rDn k) 400 A.1 with
      | none => exact absurd (by rw [D0 hq]; decide) a
      | some j =>
        obtain ⟨j1, j2⟩ := D1 j hq
        rw [j2] at a b ⊢
        have a2 : 0 < j := by
          rcases Nat.eq_zero_or_pos j with e | e
          · subst e; exact absurd (by decide) a
          · exact e
        exact hG j a2 (Nat.le_of_lt_succ (Nat.not_le.mp fun q => b (nI_le (a := 100) q (by omega))))
  refine key _ _ _ _ (fun N hN1 hN => ?_)
  obtain ⟨r2, hr2⟩ : ∃ r2, r2 = rTicks 0 m N A.1 := ⟨_, rfl⟩
  obtain ⟨L2, -, ok⟩ := pK_ticks (Nat.le_refl m) N t L w A.1 (by omega) (by omega) h1
  rw [← hr2] at ok
  have hP2 : zAP (zPu A r2) (T + 99) (W + 8000) := by
    rw [hr2, ← em]
    exact zPu_P h (by omega) (by omega) (h.1.ticks (by omega) (by omega) hN)
  obtain ⟨B, hB⟩ : ∃ B, B = zPu A r2 := ⟨_, rfl⟩
  rw [← hB] at hP2
  have eB1 : B.1 = r2 := by rw [hB]; rfl
  have eBl : B.2.1 = A.1 :: A.2.1.take 13 := by rw [hB]; exact zPu_l
  have eB2 : B.2.2 = A.2.2 := by rw [hB]; rfl
  have cT : ∀ x, zL x (F_L_call x 12 (nI N) 0 0) (rS4 r2 8 - rS4 A.1 8) A B := fun x => by
    rw [hB, hr2, ← em]
    exact zc_12 (z_ticks h (by omega) (by omega) hN1 hN) (Or.inl rfl)
  have hkB : k < mN (B.1 0) := by rw [eB1, ok.mm]; exact hkm
  have w0 : zL 0 (F_L_call 0 3 (nI k) 0 0) (rRow r2 k 0) B B := by
    rw [← eB1]; exact zc_3 (z_writer (i := 0) hP2 hkB (by omega)) (Or.inl rfl)
  have w1 : zL 0 (F_L_call 0 3 (nI k) 1 0) (rRow r2 k 6) B B := by
    rw [← eB1]; exact zc_3 (z_writer (i := 1) hP2 hkB (by omega)) (Or.inl rfl)
  have b7 : zL 0 (F_L_call 0 2 7 0 0) (rS4 A.1 8 + (rS4 r2 8 - rS4 A.1 8)) B B := by
    rw [zz_ab, ← eB1]; exact zc_2 (z_about (i := 7) hP2 (by omega)) (Or.inl rfl)
  have b1_ : zL 0 (F_L_call 0 2 1 0 0) (A.1 1 + nI N) B B := by
    rw [h1.1.2.1, nI_add, ← ok.1.2.1, ← eB1]; exact zc_2 (z_about (i := 1) hP2 (by omega)) (Or.inl rfl)
  have bD : zL 0 (F_L_call 0 15 (nI k) 0 0) (rVal 0 (rFst (rTick 0 m) (rDn k) 400 r2)) B B := by
    rw [← eB1, show m = mN (B.1 0) by rw [eB1, ok.mm]]
    exact zc_15 (z_done hP2 (by omega) (by omega) hkB) (Or.inl rfl)
  have er2 : r2 = rIt (rTick 0 m) N A.1 := by rw [hr2, rTicks_it]
  refine zso (cT 0) hσ hτ (fun z hσ hτ => ?_)
  refine zso w0 hσ hτ (fun z hσ hτ => ?_)
  refine zjn_is w1 hσ hτ (fun v z hv2 hσ hτ => ?_)
  refine zsq (cT 824) hσ hτ (fun z hσ hτ => ?_)
  refine zg_done rfl b7 b1_ bD (fun a b => ?_) (fun a b => ?_) hσ hτ (fun z hσ hτ => ?_)
  · cases hq : rFst (rTick 0 m) (rDn k) 400 A.1 with
    | none => exact absurd (D0 hq) a
    | some j =>
      obtain ⟨j1, j2⟩ := D1 j hq
      rw [j2] at b
      have hjN : j ≤ N := Nat.not_lt.mp fun q => b (nI_lt q (by omega))
      obtain ⟨-, g2, -⟩ := rFst_some 400 j A.1 hq
      have g3 := zdn_keep h1 (by omega) (by omega) hkm (N - j) j (by omega) g2
      rw [show j + (N - j) = N by omega, ← er2] at g3
      obtain ⟨p0, p6, -⟩ := rDn_s g3
      refine ⟨fun q => hv2 q ⟨p0, p6⟩, ?_⟩
      rw [rFst_of (n := 0) (by omega) (by rw [rIt]; exact g3) (fun i hi => absurd hi (by omega))]
      rfl
  · cases hq : rFst (rTick 0 m) (rDn k) 400 A.1 with
    | none => exact absurd (D0 hq) a
    | some j =>
      obtain ⟨j1, j2⟩ := D1 j hq
      rw [j2] at b ⊢
      have hjN : N ≤ j := Nat.le_of_lt (Nat.not_le.mp fun q => b (nI_le q (by omega)))
      rw [er2, rFst_sh hq hjN, rVal_0 (by omega), pk_sub hjN]
  have lt13 : (A.2.1.take 13).length ≤ 14 := by rw [List.length_take]; omega
  rw [if_neg (by decide)]
  refine zo_undo hP2 eBl lt13 hσ hτ (fun z hσ hτ => ?_)
  refine zq_undo hP2 eBl lt13 hσ hτ (fun z hσ hτ => ?_)
  rw [eB2] at hσ hτ
  have hU : zAP (A.1, A.2.1.take 13, A.2.2) T W := zU_P h
  have uD : zL 0 (F_L_call 0 15 (nI k) 0 0) D (A.1, A.2.1.take 13, A.2.2) (A.1, A.2.1.take 13, A.2.2) := by
    rw [hD, ← em]
    exact zc_15 (z_done hU (by omega) (by omega) hkA) (Or.inl rfl)
  refine zso uD hσ hτ (fun z hσ hτ => ?_)
  rw [if_neg (fun p => p rfl)]
  refine zso (show zL 0 (F_L_call 0 2 7 0 0) (rS4 A.1 8) (A.1, A.2.1.take 13, A.2.2) (A.1, A.2.1.take 13, A.2.2) from zc_2 (z_about (i := 7) hU (by omega)) (Or.inl rfl)) hσ hτ (fun z hσ hτ => ?_)
  rw [if_neg (fun p => p rfl)]
  exact zX_end hσ hτ
end ZD
