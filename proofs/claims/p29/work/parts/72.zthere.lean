/-! ALL IS THERE WHEN IT WAS TOLD -/
/-- the law's answer is 1, and both objects stand behind the same calls -/
def zF (T W : Nat) (o : Option (Int32 × xS)) : Prop := ∃ B, zAP B T W ∧ zX 1 B B o
theorem zgo {G : Option (Int32 × xS) → Prop} {σ : xS} {v : Int32} {A A2 B : zA} {F : xS → Option (Int32 × xS)} {K : Int32 → xS → Option (Int32 × xS)} (h : zL 0 F v A A2) (hσ : zAM σ 0 A) (hτ : zAM σ 824 B) (k : ∀ z, zAM z 0 A2 → zAM z 824 B → G (K v z)) : G (xbI (F σ) K) := by
  obtain ⟨z, h1, h2, h3⟩ := h σ hσ
  rw [h1, xbI_s]
  exact k z h3 (hτ.other h2 (Or.inr (by omega)))
theorem zgq {G : Option (Int32 × xS) → Prop} {σ : xS} {v : Int32} {A B B2 : zA} {F : xS → Option (Int32 × xS)} {K : Int32 → xS → Option (Int32 × xS)} (h : zL 824 F v B B2) (hσ : zAM σ 0 A) (hτ : zAM σ 824 B) (k : ∀ z, zAM z 0 A → zAM z 824 B2 → G (K v z)) : G (xbI (F σ) K) := by
  obtain ⟨z, h1, h2, h3⟩ := h σ hτ
  rw [h1, xbI_s]
  exact k z (hσ.other h2 (Or.inl (by omega))) h3
theorem zgo_undo {G : Option (Int32 × xS) → Prop} {σ : xS} {A B : zA} {T W : Nat} {r : Nat → Int32} {l : List (Nat → Int32)} {N K : xS → Option (Int32 × xS)} (h : zAP A T W) (hl : A.2.1 = r :: l) (hσ : zAM σ 0 A) (hτ : zAM σ 824 B) (k : ∀ z, zAM z 0 (r, l, A.2.2) → zAM z 824 B → G (K z)) : G (xbI (F_L_call 0 14 0 0 0 σ) (fun (a : Int32) (s1 : xS) => xbI (F_L_thrown a s1) (fun (b : Int32) (s2 : xS) => if ¬ b = 0 then N s2 else K s2))) := by
  have len := zs_len hσ
  rw [hl, List.length_cons] at len
  refine zgo (zL_undo h hl) hσ hτ (fun z h1 h2 => ?_)
  rw [thr_0 (by omega), xbI_s, if_neg (fun q => q rfl)]
  exact k z h1 h2
theorem zgq_undo {G : Option (Int32 × xS) → Prop} {σ : xS} {A B : zA} {T W : Nat} {r : Nat → Int32} {l : List (Nat → Int32)} {N K : xS → Option (Int32 × xS)} (h : zAP B T W) (hl : B.2.1 = r :: l) (hσ : zAM σ 0 A) (hτ : zAM σ 824 B) (k : ∀ z, zAM z 0 A → zAM z 824 (r, l, B.2.2) → G (K z)) : G (xbI (F_L_call 824 14 0 0 0 σ) (fun (a : Int32) (s1 : xS) => xbI (F_L_thrown a s1) (fun (b : Int32) (s2 : xS) => if ¬ b = 0 then N s2 else K s2))) := by
  have len := zs_len hτ
  rw [hl, List.length_cons] at len
  refine zgq (zL_undo h hl) hσ hτ (fun z h1 h2 => ?_)
  rw [thr_0 (by omega), xbI_s, if_neg (fun q => q rfl)]
  exact k z h1 h2
theorem zPu_1 {A : zA} {r : Nat → Int32} : zPu A r = (r, A.1 :: A.2.1.take 13, A.2.2) := by
  unfold zPu
  rw [List.take_succ_cons]
theorem zPu_2 {r r1 a : Nat → Int32} {l : List (Nat → Int32)} {f : Nat → Option (Nat → Int32)} : zPu (r1, a :: l, f) r = (r, r1 :: a :: l.take 12, f) := by
  rw [zPu_1]
  try dsimp only
  rw [List.take_succ_cons]
/-- the number of ticks -/
theorem zjn_t {G : Option (Int32 × xS) → Prop} {K : Int32 → xS → Option (Int32 × xS)} {zz7 : Int32} {σ16 : xS} {o : Option Nat} (h0 : o = none → zz7 = ((-1))) (h1 : ∀ j, o = some j → 1 ≤ j ∧ j ≤ 400 ∧ zz7 = nI j) (hK : ∀ N : Nat, 1 ≤ N → N ≤ 99 → (∀ j, o = some j → j ≤ 99 → N = j) → G (K (nI N) σ16)) : G (xjn K (fun (KK20 : Int32 → xS → Option (Int32 × xS)) => xjn (fun (σ22 : xS) => KK20 99 σ22)
 (fun (KK23 : xS → Option (Int32 × xS)) => if zz7 = ((-1)) then (KK23 σ16)
 else (if 100 ≤ zz7 then (KK23 σ16)
 else (KK20 zz7 σ16))))) := by
  rw [xjn_s]
  try dsimp only
  rw [xjn_s]
  try dsimp only
  by_cases a : zz7 = ((-1))
  · rw [if_pos a]
    exact hK 99 (by decide) (by decide) (fun j hj hj2 => absurd ((h1 j hj).2.2.symm.trans a) (nI_nm1 (by omega)))
  by_cases b : 100 ≤ zz7
  · rw [if_neg a, if_pos b]
    refine hK 99 (by decide) (by decide) (fun j hj hj2 => ?_)
    rw [(h1 j hj).2.2] at b
    exact absurd b (nI_ge (b := 100) (a := j) (by omega) (by decide))
  · rw [if_neg a, if_neg b]
    cases ho : o with
    | none => exact absurd (h0 ho) a
    | some j =>
      obtain ⟨g1, g2, g3⟩ := h1 j ho
      rw [g3] at b ⊢
      refine hK j g1 (Nat.le_of_lt_succ (Nat.not_le.mp fun q => b (nI_le (a := 100) q (by omega)))) (fun j2 hj2 _ => ?_)
      rw [ho] at hj2
      exact Option.some.inj hj2
theorem zz_note2 (a b : Int32) : a + b - b = a := by grind
theorem zz_note3 (a b : Int32) : a + b - a = b := by grind
/-- that many ticks in both -/
theorem zg_th {G : Option (Int32 × xS) → Prop} {K : Int32 → xS → Option (Int32 × xS)} {zz4 zz7 zz12 zz17 zz18 vt v8 : Int32} {σ19 : xS} {A1 A2 : zA} (h12 : ¬ zz12 = 0) (cT : ∀ x, zL x (F_L_call x 12 zz18 0 0) vt A1 A2) (c4 : zL 0 (F_L_call 0 4 zz4 0 0) v8 A2 A2) (h1 : zz7 = ((-1)) → v8 < zz17) (h2 : ¬ zz7 = ((-1)) → zz18 < zz7 → v8 < zz17) (h3 : ¬ zz7 = ((-1)) → ¬ zz18 < zz7 → ¬ v8 < zz17) (hσ : zAM σ19 0 A1) (hτ : zAM σ19 824 A1) (hK : ∀ z, zAM z 0 A2 → zAM z 824 A2 → G (K 1 z)) : G (xjn K (fun (KK27 : Int32 → xS → Option (Int32 × xS)) => xjn (fun (σ29 : xS) => KK27 0 σ29)
 (fun (KK30 : xS → Option (Int32 × xS)) => if zz12 = 0 then (KK30 σ19)
 else (xbI (F_L_call 0 12 zz18 0 0 σ19) (fun (zz33 : Int32) (σ32 : xS) => xbI (F_L_call 824 12 zz18 0 0 σ32) (fun (zz35 : Int32) (σ34 : xS) => if ¬ zz33 = zz35 then (KK30 σ34)
 else (xbI (F_L_call 0 4 zz4 0 0 σ34) (fun (zz37 : Int32) (σ36 : xS) => xjn (fun (zz38 : Int32) (σ39 : xS) => xjn (fun (zz42 : Int32) (σ43 : xS) => if ¬ zz38 = zz42 then (KK30 σ43)
 else (KK27 1 σ43))
 (fun (KK44 : Int32 → xS → Option (Int32 × xS)) => xjn (fun (σ46 : xS) => KK44 0 σ46)
 (fun (KK47 : xS → Option (Int32 × xS)) => if zz7 = ((-1)) then (KK47 σ39)
 else (if zz18 < zz7 then (KK47 σ39)
 else (KK44 1 σ39)))))
 (fun (KK40 : Int32 → xS → Option (Int32 × xS)) => if zz37 < zz17 then (KK40 0 σ36)
 else (KK40 1 σ36)))))))))) := by
  rw [xjn_s]
  try dsimp only
  rw [xjn_s]
  try dsimp only
  rw [if_neg h12]
  refine zgo (cT 0) hσ hτ (fun z hσ hτ => ?_)
  refine zgq (cT 824) hσ hτ (fun z hσ hτ => ?_)
  rw [if_neg (fun p => p rfl)]
  refine zgo c4 hσ hτ (fun z hσ hτ => ?_)
  rw [xjn_s]
  try dsimp only
  by_cases c : v8 < zz17
  · rw [if_pos c, xjn_s]
    try dsimp only
    rw [xjn_s]
    try dsimp only
    by_cases a : zz7 = ((-1))
    · rw [if_pos a, if_neg (fun p => p rfl)]
      exact hK z hσ hτ
    by_cases b : zz18 < zz7
    · rw [if_neg a, if_pos b, if_neg (fun p => p rfl)]
      exact hK z hσ hτ
    · exact absurd c (h3 a b)
  · rw [if_neg c, xjn_s]
    try dsimp only
    rw [xjn_s]
    try dsimp only
    by_cases a : zz7 = ((-1))
    · exact absurd (h1 a) c
    by_cases b : zz18 < zz7
    · exact absurd (h2 a b) c
    · rw [if_neg a, if_neg b, if_neg (fun p => p rfl)]
      exact hK z hσ hτ
/-- a step earlier not: nothing to look at -/
theorem zg_u0 {G : Option (Int32 × xS) → Prop} {K : Int32 → xS → Option (Int32 × xS)} {zz4 zz7 zz17 zz18 zz25 : Int32} {σ26 : xS} (h25 : ¬ zz25 = 0) (hc : ¬ zz7 = zz18 ∨ zz7 ≤ 1) (hK : G (K zz25 σ26)) : G (xjn K (fun (KK51 : Int32 → xS → Option (Int32 × xS)) => if zz25 = 0 then (KK51 zz25 σ26)
 else (if ¬ zz7 = zz18 then (KK51 zz25 σ26)
 else (if zz7 ≤ 1 then (KK51 zz25 σ26)
 else (xbI (F_L_call 0 14 0 0 0 σ26) (fun (zz54 : Int32) (σ53 : xS) => xbI (F_L_thrown zz54 σ53) (fun (zz56 : Int32) (σ55 : xS) => xjn (fun (zz57 : Int32) (σ58 : xS) => KK51 zz57 σ58)
 (fun (KK59 : Int32 → xS → Option (Int32 × xS)) => xjn (fun (σ61 : xS) => KK59 0 σ61)
 (fun (KK62 : xS → Option (Int32 × xS)) => if ¬ zz56 = 0 then (KK62 σ55)
 else (xbI (F_L_call 824 14 0 0 0 σ55) (fun (zz65 : Int32) (σ64 : xS) => xbI (F_L_thrown zz65 σ64) (fun (zz67 : Int32) (σ66 : xS) => if ¬ zz67 = 0 then (KK62 σ66)
 else (xbI (F_L_call 0 12 (zz18 - 1) 0 0 σ66) (fun (zz69 : Int32) (σ68 : xS) => if zz69 < 0 then (KK62 σ68)
 else (xbI (F_L_call 824 12 (zz18 - 1) 0 0 σ68) (fun (zz71 : Int32) (σ70 : xS) => if zz71 < 0 then (KK62 σ70)
 else (xbI (F_L_call 0 4 zz4 0 0 σ70) (fun (zz73 : Int32) (σ72 : xS) => if zz17 ≤ zz73 then (KK62 σ72)
 else (KK59 1 σ72))))))))))))))))))) := by
  rw [xjn_s]
  try dsimp only
  rw [if_neg h25]
  by_cases a : zz7 = zz18
  · rw [if_neg (fun p => p a), if_pos (hc.resolve_left (fun p => p a))]
    exact hK
  · rw [if_pos a]
    exact hK
/-- a step earlier not -/
theorem zg_u1 {G : Option (Int32 × xS) → Prop} {K : Int32 → xS → Option (Int32 × xS)} {zz4 zz7 zz17 zz18 zz25 vt v8 : Int32} {σ26 : xS} {T2 W2 : Nat} {r1 r2 : Nat → Int32} {l1 : List (Nat → Int32)} {f : Nat → Option (Nat → Int32)} {A3 : zA} (h25 : ¬ zz25 = 0) (e : zz7 = zz18) (g : ¬ zz7 ≤ 1) (h : zAP (r2, r1 :: l1, f) T2 W2) (cT : ∀ x, zL x (F_L_call x 12 (zz18 - 1) 0 0) vt (r1, l1, f) A3) (hv : ¬ vt < 0) (c4 : zL 0 (F_L_call 0 4 zz4 0 0) v8 A3 A3) (h8 : ¬ zz17 ≤ v8) (hσ : zAM σ26 0 (r2, r1 :: l1, f)) (hτ : zAM σ26 824 (r2, r1 :: l1, f)) (hK : ∀ z, zAM z 0 A3 → zAM z 824 A3 → G (K 1 z)) : G (xjn K (fun (KK51 : Int32 → xS → Option (Int32 × xS)) => if zz25 = 0 then (KK51 zz25 σ26)
 else (if ¬ zz7 = zz18 then (KK51 zz25 σ26)
 else (if zz7 ≤ 1 then (KK51 zz25 σ26)
 else (xbI (F_L_call 0 14 0 0 0 σ26) (fun (zz54 : Int32) (σ53 : xS) => xbI (F_L_thrown zz54 σ53) (fun (zz56 : Int32) (σ55 : xS) => xjn (fun (zz57 : Int32) (σ58 : xS) => KK51 zz57 σ58)
 (fun (KK59 : Int32 → xS → Option (Int32 × xS)) => xjn (fun (σ61 : xS) => KK59 0 σ61)
 (fun (KK62 : xS → Option (Int32 × xS)) => if ¬ zz56 = 0 then (KK62 σ55)
 else (xbI (F_L_call 824 14 0 0 0 σ55) (fun (zz65 : Int32) (σ64 : xS) => xbI (F_L_thrown zz65 σ64) (fun (zz67 : Int32) (σ66 : xS) => if ¬ zz67 = 0 then (KK62 σ66)
 else (xbI (F_L_call 0 12 (zz18 - 1) 0 0 σ66) (fun (zz69 : Int32) (σ68 : xS) => if zz69 < 0 then (KK62 σ68)
 else (xbI (F_L_call 824 12 (zz18 - 1) 0 0 σ68) (fun (zz71 : Int32) (σ70 : xS) => if zz71 < 0 then (KK62 σ70)
 else (xbI (F_L_call 0 4 zz4 0 0 σ70) (fun (zz73 : Int32) (σ72 : xS) => if zz17 ≤ zz73 then (KK62 σ72)
 else (KK59 1 σ72))))))))))))))))))) := by
  have len := zs_len hσ
  rw [List.length_cons] at len
  rw [xjn_s]
  try dsimp only
  rw [if_neg h25, if_neg (fun p => p e), if_neg g]
  refine zgo (zL_undo h rfl) hσ hτ (fun z hσ hτ => ?_)
  rw [thr_0 (by omega), xbI_s, xjn_s]
  try dsimp only
  rw [xjn_s]
  try dsimp only
  rw [if_neg (fun p => p rfl)]
  refine zgq (zL_undo h rfl) hσ hτ (fun z hσ hτ => ?_)
  rw [thr_0 (by omega), xbI_s, if_neg (fun p => p rfl)]
  refine zgo (cT 0) hσ hτ (fun z hσ hτ => ?_)
  rw [if_neg hv]
  refine zgq (cT 824) hσ hτ (fun z hσ hτ => ?_)
  rw [if_neg hv]
  refine zgo c4 hσ hτ (fun z hσ hτ => ?_)
  rw [if_neg h8]
  exact hK z hσ hτ
/-- both actions are taken back -/
theorem zf_end {z : xS} {zz4 zz5 zz17 v3 : Int32} {T W T2 W2 : Nat} {r1 r2 a : Nat → Int32} {l2 : List (Nat → Int32)} {f : Nat → Option (Nat → Int32)} (h : zAP (r2, r1 :: a :: l2, f) T2 W2) (hA : zAP (a, l2, f) T W) (c3 : zL 0 (F_L_call 0 3 zz4 3 0) v3 (a, l2, f) (a, l2, f)) (e : v3 = zz17 - zz5) (hσ : zAM z 0 (r2, r1 :: a :: l2, f)) (hτ : zAM z 824 (r2, r1 :: a :: l2, f)) : zF T W ((fun (zz49 : Int32) (σ50 : xS) => if zz49 = 0 then (some ((0 : Int32), σ50))
 else (xbI (F_L_call 0 14 0 0 0 σ50) (fun (zz75 : Int32) (σ74 : xS) => xbI (F_L_thrown zz75 σ74) (fun (zz77 : Int32) (σ76 : xS) => if ¬ zz77 = 0 then (some ((0 : Int32), σ76))
 else (xbI (F_L_call 824 14 0 0 0 σ76) (fun (zz79 : Int32) (σ78 : xS) => xbI (F_L_thrown zz79 σ78) (fun (zz81 : Int32) (σ80 : xS) => if ¬ zz81 = 0 then (some ((0 : Int32), σ80))
 else (xbI (F_L_call 0 14 0 0 0 σ80) (fun (zz83 : Int32) (σ82 : xS) => xbI (F_L_thrown zz83 σ82) (fun (zz85 : Int32) (σ84 : xS) => if ¬ zz85 = 0 then (some ((0 : Int32), σ84))
 else (xbI (F_L_call 824 14 0 0 0 σ84) (fun (zz87 : Int32) (σ86 : xS) => xbI (F_L_thrown zz87 σ86) (fun (zz89 : Int32) (σ88 : xS) => if ¬ zz89 = 0 then (some ((0 : Int32), σ88))
 else (xbI (F_L_call 0 3 zz4 3 0 σ88) (fun (zz91 : Int32) (σ90 : xS) => if ¬ zz91 = (zz17 - zz5) then (some ((0 : Int32), σ90))
 else (some ((1 : Int32), σ90))))))))))))))))) 1 z) := by
  have h2 : zAP (r1, a :: l2, f) T2 W2 := zAP_undo h rfl
  try dsimp only
  rw [if_neg (show ¬ (1 : Int32) = 0 by decide)]
  refine zgo_undo h rfl hσ hτ (fun z hσ hτ => ?_)
  refine zgq_undo h rfl hσ hτ (fun z hσ hτ => ?_)
  refine zgo_undo h2 rfl hσ hτ (fun z hσ hτ => ?_)
  refine zgq_undo h2 rfl hσ hτ (fun z hσ hτ => ?_)
  refine zgo c3 hσ hτ (fun z hσ hτ => ?_)
  rw [if_neg (fun p => p e)]
  exact ⟨(a, l2, f), hA, zX_end hσ hτ⟩
/-! a note: what was written and what came -/
theorem mSend_28 {tt size most h : Int32} {j : Nat} (hj : j = 2 ∨ j = 8) : ∀ (f : Nat) (u : Nat → Int32), mSend tt size most h f u j = u j := by
  intro f
  induction f with
  | zero => intro u; rfl
  | succ f ih =>
    intro u
    have e : ∀ s, mGoes tt s u j = u j := fun s => mGoes_lo (by omega) (by omega) (by omega) (by omega) (by omega)
    rw [mSend]
    by_cases h1 : u 0 ≤ 0
    · rw [if_pos h1]
    rw [if_neg h1]
    by_cases h2 : most ≤ u 6
    · rw [if_pos h2]
    rw [if_neg h2]
    by_cases h3 : size ≤ u 0
    · rw [if_pos h3, ih, e]
    rw [if_neg h3]
    by_cases h4 : h = 0 ∨ u 6 = 0
    · rw [if_pos h4, ih, e]
    · rw [if_neg h4]
theorem rW_w {r : Nat → Int32} {k : Nat} {s : Int32} : rRow (rW r k s) k 2 = rRow r k 2 + s ∧ rRow (rW r k s) k 8 = rRow r k 8 := by
  unfold rW
  rw [rRow_X, rCut_at (by decide), rCut_at (by decide)]
  unfold mWrite mAsIs mSends
  rw [mSend_28 (Or.inl rfl), mSend_28 (Or.inr rfl), up_s, up_n (by decide), up_n (by decide)]
  exact ⟨rfl, rfl⟩
/-- not all that was written has come at once -/
theorem zw_all {r : Nat → Int32} {m t tr wt sz ms L w k S : Nat} (h1 : rOK r m t tr wt sz ms L (rLo 0 m (t + 1)) w) (hv : zV r m t) (hk : k < m) (hw : w < 6000000) (hS1 : 1 ≤ S) (hS : S ≤ 500) : ¬ rRow r k 2 + nI S ≤ rRow r k 8 := by
  have hJ := h1.2.2.1 k hk
  rw [show rLo 0 m (t + 1) k = t + 1 from if_pos (by omega)] at hJ
  obtain ⟨o, n, c, a, d, xx, Tt, F, k1, k2, k3⟩ := hJ.1
  have zy := (hv.1 k hk).to k1 (by omega)
  have ho := k1.2.2.2.2.2.2.1
  have hac := k1.2.2.2.2.2.2.2.1
  have hca := k1.2.2.2.2.2.2.2.2.1
  have haw := k1.2.2.2.2.2.2.2.2.2.1
  have hx := k1.2.2.2.2.2.1
  have hx2 := k1.2.2.2.2.2.2.2.2.2.2.1
  obtain ⟨y1, y2, y3, ⟨v, y4, y4'⟩, y5, y6, y7, y8⟩ := id zy
  obtain ⟨SU, e, hSU⟩ := lSum_n (fun j hj => (y6 j hj).1) (o - (c - a)) (c - a) (by omega)
  have hv2 : v ≤ 99 * 6000006 := by omega
  rw [y7, y4, e, hx, nI_add, nI_add, nI_add]
  exact nI_ge (by omega) (by omega)
section ZE
variable {A : zA} {T W : Nat}
set_option maxHeartbeats 1000000 in
theorem z_thereL {X : Nat} {σ : xS} (h : zAP A T W) (hT : T < 80000) (hW : W < 6000000) (hX : X < 2 ^ 31) (hσ : zAM σ 0 A) (hτ : zAM σ 824 A) : zF T W (F_L_there 0 824 (nI X) σ) := by
  obtain ⟨m, t, tr, wt, sz, ms, L, w, h1, hv, ht, hw⟩ := id h.1
  obtain ⟨b1, b2, b3, b4, b5, b6, b7, b8, b9, b10⟩ := h1.1.b
  have em := h1.mm
  obtain ⟨k, hk⟩ : ∃ k, k = X % m := ⟨_, rfl⟩
  have hkm : k < m := by rw [hk]; exact Nat.mod_lt _ (by omega)
  have hkA : k < mN (A.1 0) := by rw [em]; exact hkm
  obtain ⟨S, hS⟩ : ∃ S, S = 1 + X / 4 % 80 := ⟨_, rfl⟩
  have hS1 : 1 ≤ S := by omega
  have hS2 : S ≤ 500 := by omega
  unfold F_L_there
  refine zgo (show zL 0 (F_L_call 0 2 0 0 0) (A.1 0) A A from zc_2 (z_about (i := 0) h (by omega)) (Or.inl rfl)) hσ hτ (fun z hσ hτ => ?_)
  rw [h1.1.1, if_pos (show ¬ nI m = 0 from nI_ne0 (by omega) (by omega)), xlet_s, xlet_s, show nI X - nI X / nI m * nI m = nI k by rw [hk]; exact pk_rem (by omega) (by omega) (by omega), show nI X / 4 = nI (X / 4) from pk_div (d := 4) hX (by decide) (by decide), show nI (X / 4) - nI (X / 4) / 80 * 80 = nI (X / 4 % 80) from pk_rem (d := 80) (by omega) (by decide) (by decide), show (1 : Int32) + nI (X / 4 % 80) = nI S by rw [hS]; exact nI_add 1 _]
  by_cases hov : (9999 : Int32) < rRow A.1 k 0 + nI S
  · refine zgo (show zL 0 (F_L_call 0 16 (nI k) (nI S) 0) (-1) A A from zc_16 (z_there0 h hkA hS1 hS2 hov) (Or.inl rfl)) hσ hτ (fun z hσ hτ => ?_)
    refine zgo (show zL 0 (F_L_call 0 9 (nI k) (nI S) 0) (-9999003) A A from zc_9 (z_write3 h hkA hS1 hS2 hov) (Or.inr (Or.inr (Or.inr rfl)))) hσ hτ (fun z hσ hτ => ?_)
    refine zgq (show zL 824 (F_L_call 824 9 (nI k) (nI S) 0) (-9999003) A A from zc_9 (z_write3 h hkA hS1 hS2 hov) (Or.inr (Or.inr (Or.inr rfl)))) hσ hτ (fun z hσ hτ => ?_)
    rw [xjn_s]
    try dsimp only
    rw [if_neg (fun p => p rfl), if_neg (fun p => p rfl), if_neg (show ¬ (1 : Int32) = 0 by decide), if_neg (fun p => p rfl)]
    exact ⟨A, h, zX_end hσ hτ⟩
  obtain ⟨r1, hr1⟩ : ∃ r1, r1 = rW A.1 k (nI S) := ⟨_, rfl⟩
  have hR1 := h1.write (by omega) rLo_le1 hkm hS2 hov
  have hP1 := zPu_P (T2 := T + 99) (W2 := W + 8000) h (by omega) (by omega) (h.1.write (by omega) (by omega) hkA hS2 hov)
  obtain ⟨jw, hjw, ew⟩ := rW_6 h1 hkm hS2 hov
  obtain ⟨all, hall⟩ : ∃ q, q = rRow r1 k 2 := ⟨_, rfl⟩
  have eall : all = rRow A.1 k 2 + nI S := by rw [hall, hr1]; exact rW_w.1
  have e8 : rRow r1 k 8 = rRow A.1 k 8 := by rw [hr1]; exact rW_w.2
  obtain ⟨V, hV⟩ : ∃ V, V = rVal 0 (rFst (rTick 0 m) (rTh k all) 400 r1) := ⟨_, rfl⟩
  have cV : zL 0 (F_L_call 0 16 (nI k) (nI S) 0) V A A := by
    rw [hV, hall, hr1, ← em]
    exact zc_16 (z_there h (by omega) (by omega) hkA hS1 hS2 hov) (Or.inl rfl)
  have cW : ∀ x, zL x (F_L_call x 9 (nI k) (nI S) 0) (nI jw) A (zPu A r1) := fun x => by
    rw [← ew, hr1]
    exact zc_9 (z_write h (by omega) (by omega) hkA hS1 hS2 hov) (Or.inl rfl)
  rw [← hr1] at hR1 hP1
  have T0 : rTh k all r1 = false := by
    unfold rTh
    rw [eall, e8]
    exact decide_eq_false (zw_all h1 hv hkm (by omega) hS1 hS2)
  have V1 : ∀ j, rFst (rTick 0 m) (rTh k all) 400 r1 = some j → 1 ≤ j ∧ j ≤ 400 ∧ V = nI j ∧ rTh k all (rTicks 0 m j r1) = true ∧ ∀ i, i < j → rTh k all (rTicks 0 m i r1) = false := fun j hj => by
    obtain ⟨g1, g2, g3⟩ := rFst_some 400 j r1 hj
    refine ⟨?_, g1, by rw [hV, hj, rVal_0 (by omega)], by rw [rTicks_it]; exact g2, fun i hi => by rw [rTicks_it]; exact g3 i hi⟩
    rcases Nat.eq_zero_or_pos j with e | e
    · subst e
      rw [rIt] at g2
      rw [g2] at T0
      cases T0
    · exact e
  have V0 : rFst (rTick 0 m) (rTh k all) 400 r1 = none → V = -1 ∧ ∀ i, i ≤ 400 → rTh k all (rTicks 0 m i r1) = false := fun hj => by
    refine ⟨by rw [hV, hj]; rfl, fun i hi => ?_⟩
    rw [rTicks_it]
    exact rFst_none 400 r1 hj i hi
  have th0 : ∀ r : Nat → Int32, rTh k all r = false → ¬ all ≤ rRow r k 8 := fun r hr => by
    unfold rTh at hr
    exact of_decide_eq_false hr
  have th1 : ∀ r : Nat → Int32, rTh k all r = true → all ≤ rRow r k 8 := fun r hr => by
    unfold rTh at hr
    exact of_decide_eq_true hr
  have hk1 : k < mN ((zPu A r1).1 0) := by
    show k < mN (r1 0)
    rw [hR1.mm]; exact hkm
  -- behind the ticks
  have tick : ∀ (B : zA) (i : Nat), B.1 = r1 → zAP B (T + 99) (W + 8000) → 1 ≤ i → i ≤ 99 → zAP (zPu B (rTicks 0 m i r1)) (T + 99 + 99) (W + 8000 + 8000) ∧ (∀ x, zL x (F_L_call x 12 (nI i) 0 0) (rS4 (rTicks 0 m i r1) 8 - rS4 r1 8) B (zPu B (rTicks 0 m i r1))) ∧ zL 0 (F_L_call 0 4 (nI k) 0 0) (rRow (rTicks 0 m i r1) k 8) (zPu B (rTicks 0 m i r1)) (zPu B (rTicks 0 m i r1)) := fun B i e hB hi1 hi => by
    have eB : mN (B.1 0) = m := by rw [e, hR1.mm]
    have hP := hB.1.ticks (i := i) (by omega) (by omega) hi
    rw [eB, e] at hP
    have hP2 := zPu_P hB (by omega) (by omega) hP
    obtain ⟨L2, -, ok⟩ := pK_ticks (Nat.le_refl m) i t L (w + 6) r1 (by omega) (by omega) hR1
    refine ⟨hP2, fun x => ?_, ?_⟩
    · have q := zc_12 (b := 0) (c := 0) (z_ticks (x := x) hB (by omega) (by omega) hi1 hi) (Or.inl rfl)
      rw [eB, e] at q
      exact q
    · have hk2 : k < mN ((zPu B (rTicks 0 m i r1)).1 0) := by
        show k < mN (rTicks 0 m i r1 0)
        rw [ok.mm]; exact hkm
      exact zc_4 (z_desk (i := 0) hP2 hk2 (by omega)) (Or.inl rfl)
  have hl1 : zAP (A.1, (A.2.1.take 13).take 12, A.2.2) T W := zAP_take h (fun _ hr => List.mem_of_mem_take (List.mem_of_mem_take hr))
  have hl2 : zAP (A.1, ((A.2.1.take 13).take 12).take 12, A.2.2) T W := zAP_take h (fun _ hr => List.mem_of_mem_take (List.mem_of_mem_take (List.mem_of_mem_take hr)))
  have c3 : ∀ l, zAP (A.1, l, A.2.2) T W → zL 0 (F_L_call 0 3 (nI k) 3 0) (rRow A.1 k 2) (A.1, l, A.2.2) (A.1, l, A.2.2) := fun l hl => zc_3 (z_writer (i := 3) hl hkA (by omega)) (Or.inl rfl)
  have zz_d : rRow A.1 k 2 = all - nI S := by
    rw [eall]
    exact (zz_note2 _ _).symm
  refine zgo cV hσ hτ (fun z hσ hτ => ?_)
  refine zgo (cW 0) hσ hτ (fun z hσ hτ => ?_)
  refine zgq (cW 824) hσ hτ (fun z hσ hτ => ?_)
  rw [xjn_s]
  try dsimp only
  rw [if_neg (fun p => p rfl), if_pos (show ¬ nI jw = (-9999003) from fun q => thr_n (n := jw) rfl (by omega) (Or.inr (Or.inr q)))]
  refine zgo (show zL 0 (F_L_call 0 3 (nI k) 3 0) all (zPu A r1) (zPu A r1) from by rw [hall]; exact zc_3 (z_writer (i := 3) hP1 hk1 (by omega)) (Or.inl rfl)) hσ hτ (fun z hσ hτ => ?_)
  refine zjn_t (o := rFst (rTick 0 m) (rTh k all) 400 r1) (fun q => (V0 q).1) (fun j q => ⟨(V1 j q).1, (V1 j q).2.1, (V1 j q).2.2.1⟩) (fun N hN1 hN hNj => ?_)
  obtain ⟨hP2, cT, c4⟩ := tick (zPu A r1) N rfl hP1 hN1 hN
  refine zg_th (show ¬ (1 : Int32) = 0 by decide) cT c4 (fun a => ?_) (fun a b => ?_) (fun a b => ?_) hσ hτ (fun z hσ hτ => ?_)
  · cases hq : rFst (rTick 0 m) (rTh k all) 400 r1 with
    | none => exact Int32.not_le.mp (th0 _ ((V0 hq).2 N (by omega)))
    | some j => exact absurd ((V1 j hq).2.2.1.symm.trans a) (nI_nm1 (by have := (V1 j hq).2.1; omega))
  · cases hq : rFst (rTick 0 m) (rTh k all) 400 r1 with
    | none => exact absurd (V0 hq).1 a
    | some j =>
      obtain ⟨j1, j2, j3, j4, j5⟩ := V1 j hq
      rw [j3] at b
      exact Int32.not_le.mp (th0 _ (j5 N (Nat.not_le.mp fun q => nI_nlt q (by omega) b)))
  · cases hq : rFst (rTick 0 m) (rTh k all) 400 r1 with
    | none => exact absurd (V0 hq).1 a
    | some j =>
      obtain ⟨j1, j2, j3, j4, j5⟩ := V1 j hq
      rw [j3] at b
      have hjN : j ≤ N := Nat.not_lt.mp fun q => b (nI_lt q (by omega))
      have e := hNj j hq (by omega)
      rw [e]
      exact Int32.not_lt.mpr (th1 _ j4)
  · rw [zPu_1 (A := A), zPu_2] at hσ hτ hP2
    by_cases hc : V = nI N ∧ ¬ V ≤ 1
    · obtain ⟨e, g⟩ := hc
      have hNf : ∀ i, i < N → rTh k all (rTicks 0 m i r1) = false := by
        cases hq : rFst (rTick 0 m) (rTh k all) 400 r1 with
        | none => exact absurd (e.symm.trans (V0 hq).1) (nI_nm1 (by omega))
        | some j =>
          obtain ⟨j1, j2, j3, j4, j5⟩ := V1 j hq
          have : j = N := (nI_eq (by omega) (by omega)).mp (j3.symm.trans e)
          subst this
          exact j5
      have hN2 : 1 < N := Nat.not_le.mp fun q => g (by rw [e]; exact nI_le (b := 1) q (by decide))
      have hPv : zAP (r1, A.1 :: A.2.1.take 13, A.2.2) (T + 99) (W + 8000) := by rw [← zPu_1]; exact hP1
      have hPu : zAP (r1, A.1 :: (A.2.1.take 13).take 12, A.2.2) (T + 99) (W + 8000) := zAP_take hPv (fun r hr => by
        rcases List.mem_cons.mp hr with e | e
        · exact List.mem_cons.mpr (Or.inl e)
        · exact List.mem_cons.mpr (Or.inr (List.mem_of_mem_take e)))
      obtain ⟨hP3, cT3, c43⟩ := tick (r1, A.1 :: (A.2.1.take 13).take 12, A.2.2) (N - 1) rfl hPu (by omega) (by omega)
      rw [← nI_s1 (show 0 < N by omega)] at cT3
      obtain ⟨SS, hSS, eSS⟩ := pK_signs (Nat.le_refl m) (Nat.zero_le m) (N - 1) t L (w + 6) r1 (by omega) (by omega) hR1
      have hvt : ¬ rS4 (rTicks 0 m (N - 1) r1) 8 - rS4 r1 8 < 0 := by
        rw [eSS, zz_note3]
        exact nI_n0 (by omega)
      refine zg_u1 (show ¬ (1 : Int32) = 0 by decide) e g hP2 cT3 hvt c43 (th0 _ (hNf (N - 1) (by omega))) hσ hτ (fun z hσ hτ => ?_)
      rw [zPu_2] at hσ hτ hP3
      exact zf_end hP3 hl2 (c3 _ hl2) zz_d hσ hτ
    · refine zg_u0 (show ¬ (1 : Int32) = 0 by decide) ?_ ?_
      · by_cases e : V = nI N
        · exact Or.inr (Classical.byContradiction fun g => hc ⟨e, g⟩)
        · exact Or.inl e
      · exact zf_end hP2 hl1 (c3 _ hl1) zz_d hσ hτ
end ZE
