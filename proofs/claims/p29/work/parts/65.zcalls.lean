/-! CALLS THAT ARE ONLY REFUSED HERE -/
section ZR
variable {A : zA} {T W : Nat}
theorem z_append2 {x : Nat} {c : Int32} (hc : c < 0 ∨ 255 < c) : zT x (F_X5_append x c) 2 0 A A := by
  refine zT_look (fun σ hσ => ?_)
  unfold F_X5_append
  rw [pF_within2, if_pos (show c < 0 ∨ 255 < c from hc), xbI_s, F5_dem02, xbT_2]
theorem z_if1 {x : Nat} {k w : Int32} (h : zAP A T W) (hk : rBad (mN (A.1 0)) k) : zT x (F_X5_ifHeld x k w) 1 0 A A := by
  obtain ⟨⟨m, t, tr, wt, sz, ms, L, w, h1, -, -, -⟩, -⟩ := h
  rw [h1.mm] at hk
  refine zT_look (fun σ hσ => ?_)
  have hQ : xQ3 σ (x + 3) A.1 L := hσ.1.to h1
  unfold F_X5_ifHeld
  rw [pF_isW0 (hQ.1.1.trans h1.1.1) hk, xbI_s, F5_ref1, xbT_1]
theorem z_if2 {x j : Nat} {w : Int32} (h : zAP A T W) (hj : j < mN (A.1 0)) (hw : w < 0 ∨ 3 < w) : zT x (F_X5_ifHeld x (nI j) w) 2 0 A A := by
  obtain ⟨⟨m, t, tr, wt, sz, ms, L, w, h1, -, -, -⟩, -⟩ := h
  have hm4 := h1.m4
  rw [h1.mm] at hj
  refine zT_look (fun σ hσ => ?_)
  have hQ : xQ3 σ (x + 3) A.1 L := hσ.1.to h1
  unfold F_X5_ifHeld
  rw [pF_isWriter0 (hQ.1.1.trans h1.1.1) hj hm4, xbI_s, F5_ref0, xbT_0, pF_within2, if_pos hw, xbI_s, F5_dem02, xbT_2]
theorem z_best1 {x : Nat} {k w : Int32} (h : zAP A T W) (hk : rBad (mN (A.1 0)) k) : zT x (F_X5_best x w k) 1 0 A A := by
  obtain ⟨⟨m, t, tr, wt, sz, ms, L, w, h1, -, -, -⟩, -⟩ := h
  rw [h1.mm] at hk
  refine zT_look (fun σ hσ => ?_)
  have hQ : xQ3 σ (x + 3) A.1 L := hσ.1.to h1
  unfold F_X5_best
  rw [pF_isW0 (hQ.1.1.trans h1.1.1) hk, xbI_s, F5_ref1, xbT_1]
theorem z_best2 {x j : Nat} {w : Int32} (h : zAP A T W) (hj : j < mN (A.1 0)) (hw : w < 1 ∨ 2 < w) : zT x (F_X5_best x w (nI j)) 2 0 A A := by
  obtain ⟨⟨m, t, tr, wt, sz, ms, L, w, h1, -, -, -⟩, -⟩ := h
  have hm4 := h1.m4
  rw [h1.mm] at hj
  refine zT_look (fun σ hσ => ?_)
  have hQ : xQ3 σ (x + 3) A.1 L := hσ.1.to h1
  unfold F_X5_best
  rw [pF_isWriter0 (hQ.1.1.trans h1.1.1) hj hm4, xbI_s, F5_ref0, xbT_0, pF_within2, if_pos hw, xbI_s, F5_dem02, xbT_2]
theorem z_script0 {x : Nat} {s : Int64} : zT x (F_X5_runScript x 0 s) 2 0 A A := by
  refine zT_look (fun σ hσ => ?_)
  unfold F_X5_runScript
  rw [pF_within2, if_pos (by decide), xbI_s, F5_dem02, xbT_2]
theorem z_script1 {x : Nat} {s : Int64} (hs : ¬ (lg_cmp s 0) < 0) (hs2 : 0 ≤ lg_cmp s (1 * 100000)) : zT x (F_X5_runScript x 1 s) 2 0 A A := by
  refine zT_look (fun σ hσ => ?_)
  unfold F_X5_runScript
  rw [pF_within2, if_neg (by decide), xbI_s, F5_dem1, xbT_0, L_X5_runScript_16, if_pos (by decide), xjn_s, xjn_s, if_neg hs, if_pos hs2]
  dsimp only
  rw [F5_dem02, xbT_2]
end ZR
/-! THE LAW'S CALLS -/
/-- what a call tells -/
def cd (e : Nat) (v : Int32) : Int32 := if e = 0 then v else if e = 1 then (-9999001) else if e = 2 then (-9999002) else (-9999003)
def zL (x : Nat) (F : xS → Option (Int32 × xS)) (v : Int32) (A A2 : zA) : Prop := ∀ σ, zAM σ x A → ∃ z, F σ = some (v, z) ∧ xfr σ z x (x + 824) ∧ zAM z x A2
theorem zc_0 {x e : Nat} {a b c v : Int32} {A A2 : zA} (h : zT x (F_X5_append x a) e v A A2) (he : e = 0 ∨ e = 2 ∨ e = 3) : zL x (F_L_call x 0 a b c) (cd e v) A A2 := by
  intro σ hσ
  obtain ⟨z, h1, h2, h3⟩ := h σ hσ
  refine ⟨z, ?_, h2, h3⟩
  unfold F_L_call F_L_tryAppend
  rw [if_pos rfl, h1]
  rcases he with rfl | rfl | rfl
  · rw [xbH_0, xbI_s]; rfl
  · rw [xbH_2, if_pos rfl, xbI_s]; rfl
  · rw [xbH_3, if_neg (by decide), if_pos rfl, xbI_s]; rfl
theorem zc_2 {x e : Nat} {a b c v : Int32} {A A2 : zA} (h : zT x (F_X5_about x a) e v A A2) (he : e = 0 ∨ e = 2) : zL x (F_L_call x 2 a b c) (cd e v) A A2 := by
  intro σ hσ
  obtain ⟨z, h1, h2, h3⟩ := h σ hσ
  refine ⟨z, ?_, h2, h3⟩
  unfold F_L_call F_L_tryAbout
  rw [if_neg (by decide), if_neg (by decide), if_pos rfl, h1]
  rcases he with rfl | rfl
  · rw [xbH_0, xbI_s]; rfl
  · rw [xbH_2, if_pos rfl, xbI_s]; rfl
theorem zc_3 {x e : Nat} {a b c v : Int32} {A A2 : zA} (h : zT x (F_X5_writer x a b) e v A A2) (he : e = 0 ∨ e = 1 ∨ e = 2) : zL x (F_L_call x 3 a b c) (cd e v) A A2 := by
  intro σ hσ
  obtain ⟨z, h1, h2, h3⟩ := h σ hσ
  refine ⟨z, ?_, h2, h3⟩
  unfold F_L_call F_L_tryWriter
  rw [if_neg (by decide), if_neg (by decide), if_neg (by decide), if_pos rfl, h1]
  rcases he with rfl | rfl | rfl
  · rw [xbH_0, xbI_s]; rfl
  · rw [xbH_1, if_pos rfl, xbI_s]; rfl
  · rw [xbH_2, if_neg (by decide), if_pos rfl, xbI_s]; rfl
theorem zc_4 {x e : Nat} {a b c v : Int32} {A A2 : zA} (h : zT x (F_X5_desk x a b) e v A A2) (he : e = 0 ∨ e = 1 ∨ e = 2) : zL x (F_L_call x 4 a b c) (cd e v) A A2 := by
  intro σ hσ
  obtain ⟨z, h1, h2, h3⟩ := h σ hσ
  refine ⟨z, ?_, h2, h3⟩
  unfold F_L_call F_L_tryDesk
  rw [if_neg (by decide), if_neg (by decide), if_neg (by decide), if_neg (by decide), if_pos rfl, h1]
  rcases he with rfl | rfl | rfl
  · rw [xbH_0, xbI_s]; rfl
  · rw [xbH_1, if_pos rfl, xbI_s]; rfl
  · rw [xbH_2, if_neg (by decide), if_pos rfl, xbI_s]; rfl
theorem zc_5 {x e : Nat} {a b c v : Int32} {A A2 : zA} (h : zT x (F_X5_letter x a b c) e v A A2) (he : e = 0 ∨ e = 1 ∨ e = 2) : zL x (F_L_call x 5 a b c) (cd e v) A A2 := by
  intro σ hσ
  obtain ⟨z, h1, h2, h3⟩ := h σ hσ
  refine ⟨z, ?_, h2, h3⟩
  unfold F_L_call F_L_tryLetter
  rw [if_neg (by decide), if_neg (by decide), if_neg (by decide), if_neg (by decide), if_neg (by decide), if_pos rfl, h1]
  rcases he with rfl | rfl | rfl
  · rw [xbH_0, xbI_s]; rfl
  · rw [xbH_1, if_pos rfl, xbI_s]; rfl
  · rw [xbH_2, if_neg (by decide), if_pos rfl, xbI_s]; rfl
theorem zc_6 {x e : Nat} {a b c v : Int32} {A A2 : zA} (h : zT x (F_X5_planned x a b) e v A A2) (he : e = 0 ∨ e = 1 ∨ e = 2) : zL x (F_L_call x 6 a b c) (cd e v) A A2 := by
  intro σ hσ
  obtain ⟨z, h1, h2, h3⟩ := h σ hσ
  refine ⟨z, ?_, h2, h3⟩
  unfold F_L_call F_L_tryPlanned
  rw [if_neg (by decide), if_neg (by decide), if_neg (by decide), if_neg (by decide), if_neg (by decide), if_neg (by decide), if_pos rfl, h1]
  rcases he with rfl | rfl | rfl
  · rw [xbH_0, xbI_s]; rfl
  · rw [xbH_1, if_pos rfl, xbI_s]; rfl
  · rw [xbH_2, if_neg (by decide), if_pos rfl, xbI_s]; rfl
theorem zc_7 {x e : Nat} {a b c v : Int32} {A A2 : zA} (h : zT x (F_X5_setting x a) e v A A2) (he : e = 0 ∨ e = 2) : zL x (F_L_call x 7 a b c) (cd e v) A A2 := by
  intro σ hσ
  obtain ⟨z, h1, h2, h3⟩ := h σ hσ
  refine ⟨z, ?_, h2, h3⟩
  unfold F_L_call F_L_trySetting
  rw [if_neg (by decide), if_neg (by decide), if_neg (by decide), if_neg (by decide), if_neg (by decide), if_neg (by decide), if_neg (by decide), if_pos rfl, h1]
  rcases he with rfl | rfl
  · rw [xbH_0, xbI_s]; rfl
  · rw [xbH_2, if_pos rfl, xbI_s]; rfl
theorem zc_8 {x e : Nat} {a b c v : Int32} {A A2 : zA} (h : zT x (F_X5_post x a) e v A A2) (he : e = 0 ∨ e = 2) : zL x (F_L_call x 8 a b c) (cd e v) A A2 := by
  intro σ hσ
  obtain ⟨z, h1, h2, h3⟩ := h σ hσ
  refine ⟨z, ?_, h2, h3⟩
  unfold F_L_call F_L_tryPost
  rw [if_neg (by decide), if_neg (by decide), if_neg (by decide), if_neg (by decide), if_neg (by decide), if_neg (by decide), if_neg (by decide), if_neg (by decide), if_pos rfl, h1]
  rcases he with rfl | rfl
  · rw [xbH_0, xbI_s]; rfl
  · rw [xbH_2, if_pos rfl, xbI_s]; rfl
theorem zc_9 {x e : Nat} {a b c v : Int32} {A A2 : zA} (h : zT x (F_X5_write x a b) e v A A2) (he : e = 0 ∨ e = 1 ∨ e = 2 ∨ e = 3) : zL x (F_L_call x 9 a b c) (cd e v) A A2 := by
  intro σ hσ
  obtain ⟨z, h1, h2, h3⟩ := h σ hσ
  refine ⟨z, ?_, h2, h3⟩
  unfold F_L_call F_L_tryWrite
  rw [if_neg (by decide), if_neg (by decide), if_neg (by decide), if_neg (by decide), if_neg (by decide), if_neg (by decide), if_neg (by decide), if_neg (by decide), if_neg (by decide), if_pos rfl, h1]
  rcases he with rfl | rfl | rfl | rfl
  · rw [xbH_0, xbI_s]; rfl
  · rw [xbH_1, if_pos rfl, xbI_s]; rfl
  · rw [xbH_2, if_neg (by decide), if_pos rfl, xbI_s]; rfl
  · rw [xbH_3, if_neg (by decide), if_neg (by decide), if_pos rfl, xbI_s]; rfl
theorem zc_10 {x e : Nat} {a b c v : Int32} {A A2 : zA} (h : zT x (F_X5_plan x a b c) e v A A2) (he : e = 0 ∨ e = 1 ∨ e = 2 ∨ e = 3) : zL x (F_L_call x 10 a b c) (cd e v) A A2 := by
  intro σ hσ
  obtain ⟨z, h1, h2, h3⟩ := h σ hσ
  refine ⟨z, ?_, h2, h3⟩
  unfold F_L_call F_L_tryPlan
  rw [if_neg (by decide), if_neg (by decide), if_neg (by decide), if_neg (by decide), if_neg (by decide), if_neg (by decide), if_neg (by decide), if_neg (by decide), if_neg (by decide), if_neg (by decide), if_pos rfl, h1]
  rcases he with rfl | rfl | rfl | rfl
  · rw [xbH_0, xbI_s]; rfl
  · rw [xbH_1, if_pos rfl, xbI_s]; rfl
  · rw [xbH_2, if_neg (by decide), if_pos rfl, xbI_s]; rfl
  · rw [xbH_3, if_neg (by decide), if_neg (by decide), if_pos rfl, xbI_s]; rfl
theorem zc_11 {x e : Nat} {a b c v : Int32} {A A2 : zA} (h : zT x (F_X5_flush x a) e v A A2) (he : e = 0 ∨ e = 1) : zL x (F_L_call x 11 a b c) (cd e v) A A2 := by
  intro σ hσ
  obtain ⟨z, h1, h2, h3⟩ := h σ hσ
  refine ⟨z, ?_, h2, h3⟩
  unfold F_L_call F_L_tryFlush
  rw [if_neg (by decide), if_neg (by decide), if_neg (by decide), if_neg (by decide), if_neg (by decide), if_neg (by decide), if_neg (by decide), if_neg (by decide), if_neg (by decide), if_neg (by decide), if_neg (by decide), if_pos rfl, h1]
  rcases he with rfl | rfl
  · rw [xbH_0, xbI_s]; rfl
  · rw [xbH_1, if_pos rfl, xbI_s]; rfl
theorem zc_12 {x e : Nat} {a b c v : Int32} {A A2 : zA} (h : zT x (F_X5_ticks x a) e v A A2) (he : e = 0 ∨ e = 2 ∨ e = 3) : zL x (F_L_call x 12 a b c) (cd e v) A A2 := by
  intro σ hσ
  obtain ⟨z, h1, h2, h3⟩ := h σ hσ
  refine ⟨z, ?_, h2, h3⟩
  unfold F_L_call F_L_tryTicks
  rw [if_neg (by decide), if_neg (by decide), if_neg (by decide), if_neg (by decide), if_neg (by decide), if_neg (by decide), if_neg (by decide), if_neg (by decide), if_neg (by decide), if_neg (by decide), if_neg (by decide), if_neg (by decide), if_pos rfl, h1]
  rcases he with rfl | rfl | rfl
  · rw [xbH_0, xbI_s]; rfl
  · rw [xbH_2, if_pos rfl, xbI_s]; rfl
  · rw [xbH_3, if_neg (by decide), if_pos rfl, xbI_s]; rfl
theorem zc_13 {x e : Nat} {a b c v : Int32} {A A2 : zA} (h : zT x (F_X5_set x a b) e v A A2) (he : e = 0 ∨ e = 2) : zL x (F_L_call x 13 a b c) (cd e v) A A2 := by
  intro σ hσ
  obtain ⟨z, h1, h2, h3⟩ := h σ hσ
  refine ⟨z, ?_, h2, h3⟩
  unfold F_L_call F_L_tryLay
  rw [if_neg (by decide), if_neg (by decide), if_neg (by decide), if_neg (by decide), if_neg (by decide), if_neg (by decide), if_neg (by decide), if_neg (by decide), if_neg (by decide), if_neg (by decide), if_neg (by decide), if_neg (by decide), if_neg (by decide), if_pos rfl, h1]
  rcases he with rfl | rfl
  · rw [xbH_0, xbI_s]; rfl
  · rw [xbH_2, if_pos rfl, xbI_s]; rfl
theorem zc_14 {x e : Nat} {a b c v : Int32} {A A2 : zA} (h : zT x (F_X5_undo x) e v A A2) (he : e = 0 ∨ e = 3) : zL x (F_L_call x 14 a b c) (cd e v) A A2 := by
  intro σ hσ
  obtain ⟨z, h1, h2, h3⟩ := h σ hσ
  refine ⟨z, ?_, h2, h3⟩
  unfold F_L_call F_L_tryUndo
  rw [if_neg (by decide), if_neg (by decide), if_neg (by decide), if_neg (by decide), if_neg (by decide), if_neg (by decide), if_neg (by decide), if_neg (by decide), if_neg (by decide), if_neg (by decide), if_neg (by decide), if_neg (by decide), if_neg (by decide), if_neg (by decide), if_pos rfl, h1]
  rcases he with rfl | rfl
  · rw [xbH_0, xbI_s]; rfl
  · rw [xbH_3, if_pos rfl, xbI_s]; rfl
theorem zc_15 {x e : Nat} {a b c v : Int32} {A A2 : zA} (h : zT x (F_X5_doneIn x a) e v A A2) (he : e = 0 ∨ e = 1) : zL x (F_L_call x 15 a b c) (cd e v) A A2 := by
  intro σ hσ
  obtain ⟨z, h1, h2, h3⟩ := h σ hσ
  refine ⟨z, ?_, h2, h3⟩
  unfold F_L_call F_L_tryDone
  rw [if_neg (by decide), if_neg (by decide), if_neg (by decide), if_neg (by decide), if_neg (by decide), if_neg (by decide), if_neg (by decide), if_neg (by decide), if_neg (by decide), if_neg (by decide), if_neg (by decide), if_neg (by decide), if_neg (by decide), if_neg (by decide), if_neg (by decide), if_pos rfl, h1]
  rcases he with rfl | rfl
  · rw [xbH_0, xbI_s]; rfl
  · rw [xbH_1, if_pos rfl, xbI_s]; rfl
theorem zc_16 {x e : Nat} {a b c v : Int32} {A A2 : zA} (h : zT x (F_X5_thereIn x a b) e v A A2) (he : e = 0 ∨ e = 1 ∨ e = 2) : zL x (F_L_call x 16 a b c) (cd e v) A A2 := by
  intro σ hσ
  obtain ⟨z, h1, h2, h3⟩ := h σ hσ
  refine ⟨z, ?_, h2, h3⟩
  unfold F_L_call F_L_tryThere
  rw [if_neg (by decide), if_neg (by decide), if_neg (by decide), if_neg (by decide), if_neg (by decide), if_neg (by decide), if_neg (by decide), if_neg (by decide), if_neg (by decide), if_neg (by decide), if_neg (by decide), if_neg (by decide), if_neg (by decide), if_neg (by decide), if_neg (by decide), if_neg (by decide), if_pos rfl, h1]
  rcases he with rfl | rfl | rfl
  · rw [xbH_0, xbI_s]; rfl
  · rw [xbH_1, if_pos rfl, xbI_s]; rfl
  · rw [xbH_2, if_neg (by decide), if_pos rfl, xbI_s]; rfl
theorem zc_17 {x e : Nat} {a b c v : Int32} {A A2 : zA} (h : zT x (F_X5_ifHeld x a b) e v A A2) (he : e = 0 ∨ e = 1 ∨ e = 2) : zL x (F_L_call x 17 a b c) (cd e v) A A2 := by
  intro σ hσ
  obtain ⟨z, h1, h2, h3⟩ := h σ hσ
  refine ⟨z, ?_, h2, h3⟩
  unfold F_L_call F_L_tryIf
  rw [if_neg (by decide), if_neg (by decide), if_neg (by decide), if_neg (by decide), if_neg (by decide), if_neg (by decide), if_neg (by decide), if_neg (by decide), if_neg (by decide), if_neg (by decide), if_neg (by decide), if_neg (by decide), if_neg (by decide), if_neg (by decide), if_neg (by decide), if_neg (by decide), if_neg (by decide), if_pos rfl, h1]
  rcases he with rfl | rfl | rfl
  · rw [xbH_0, xbI_s]; rfl
  · rw [xbH_1, if_pos rfl, xbI_s]; rfl
  · rw [xbH_2, if_neg (by decide), if_pos rfl, xbI_s]; rfl
theorem zc_18 {x e : Nat} {a b c v : Int32} {A A2 : zA} (h : zT x (F_X5_best x a b) e v A A2) (he : e = 0 ∨ e = 1 ∨ e = 2) : zL x (F_L_call x 18 a b c) (cd e v) A A2 := by
  intro σ hσ
  obtain ⟨z, h1, h2, h3⟩ := h σ hσ
  refine ⟨z, ?_, h2, h3⟩
  unfold F_L_call F_L_tryBest
  rw [if_neg (by decide), if_neg (by decide), if_neg (by decide), if_neg (by decide), if_neg (by decide), if_neg (by decide), if_neg (by decide), if_neg (by decide), if_neg (by decide), if_neg (by decide), if_neg (by decide), if_neg (by decide), if_neg (by decide), if_neg (by decide), if_neg (by decide), if_neg (by decide), if_neg (by decide), if_neg (by decide), if_pos rfl, h1]
  rcases he with rfl | rfl | rfl
  · rw [xbH_0, xbI_s]; rfl
  · rw [xbH_1, if_pos rfl, xbI_s]; rfl
  · rw [xbH_2, if_neg (by decide), if_pos rfl, xbI_s]; rfl
theorem zc_19 {x e : Nat} {a b c v : Int32} {A A2 : zA} (h : zT x (F_X5_save x a) e v A A2) (he : e = 0 ∨ e = 1) : zL x (F_L_call x 19 a b c) (cd e v) A A2 := by
  intro σ hσ
  obtain ⟨z, h1, h2, h3⟩ := h σ hσ
  refine ⟨z, ?_, h2, h3⟩
  unfold F_L_call F_L_tryKeep
  rw [if_neg (by decide), if_neg (by decide), if_neg (by decide), if_neg (by decide), if_neg (by decide), if_neg (by decide), if_neg (by decide), if_neg (by decide), if_neg (by decide), if_neg (by decide), if_neg (by decide), if_neg (by decide), if_neg (by decide), if_neg (by decide), if_neg (by decide), if_neg (by decide), if_neg (by decide), if_neg (by decide), if_neg (by decide), if_pos rfl, h1]
  rcases he with rfl | rfl
  · rw [xbH_0, xbI_s]; rfl
  · rw [xbH_1, if_pos rfl, xbI_s]; rfl
theorem zc_20 {x e : Nat} {a b c v : Int32} {A A2 : zA} (h : zT x (F_X5_restore x a) e v A A2) (he : e = 0 ∨ e = 1 ∨ e = 3) : zL x (F_L_call x 20 a b c) (cd e v) A A2 := by
  intro σ hσ
  obtain ⟨z, h1, h2, h3⟩ := h σ hσ
  refine ⟨z, ?_, h2, h3⟩
  unfold F_L_call F_L_tryBack
  rw [if_neg (by decide), if_neg (by decide), if_neg (by decide), if_neg (by decide), if_neg (by decide), if_neg (by decide), if_neg (by decide), if_neg (by decide), if_neg (by decide), if_neg (by decide), if_neg (by decide), if_neg (by decide), if_neg (by decide), if_neg (by decide), if_neg (by decide), if_neg (by decide), if_neg (by decide), if_neg (by decide), if_neg (by decide), if_neg (by decide), h1]
  rcases he with rfl | rfl | rfl
  · rw [xbH_0, xbI_s]; rfl
  · rw [xbH_1, if_pos rfl, xbI_s]; rfl
  · rw [xbH_3, if_neg (by decide), if_pos rfl, xbI_s]; rfl
theorem zc_holds {x e : Nat} {v : Int32} {a b : Int32} {A A2 : zA} (h : zT x (F_X5_hold x a b) e v A A2) (he : e = 0 ∨ e = 1) : zL x (F_L_holds x a b) (cd e v) A A2 := by
  intro σ hσ
  obtain ⟨z, h1, h2, h3⟩ := h σ hσ
  refine ⟨z, ?_, h2, h3⟩
  unfold F_L_holds
  rw [h1]
  rcases he with rfl | rfl
  · rw [xbH_0]; rfl
  · rw [xbH_1, if_pos rfl]; rfl
theorem zc_doScript {x e : Nat} {v : Int32} {a : Int32} {b : Int64} {A A2 : zA} (h : zT x (F_X5_runScript x a b) e v A A2) (he : e = 0 ∨ e = 2) : zL x (F_L_doScript x a b) (cd e v) A A2 := by
  intro σ hσ
  obtain ⟨z, h1, h2, h3⟩ := h σ hσ
  refine ⟨z, ?_, h2, h3⟩
  unfold F_L_doScript
  rw [h1]
  rcases he with rfl | rfl
  · rw [xbH_0]; rfl
  · rw [xbH_2, if_pos rfl]; rfl
theorem zc_doSimulate {x e : Nat} {v : Int32} {a : Int64} {b : Int32} {A A2 : zA} (h : zT x (F_X5_simulate x a b) e v A A2) (he : e = 0 ∨ e = 2) : zL x (F_L_doSimulate x a b) (cd e v) A A2 := by
  intro σ hσ
  obtain ⟨z, h1, h2, h3⟩ := h σ hσ
  refine ⟨z, ?_, h2, h3⟩
  unfold F_L_doSimulate
  rw [h1]
  rcases he with rfl | rfl
  · rw [xbH_0]; rfl
  · rw [xbH_2, if_pos rfl]; rfl
theorem zc_thrown {σ : xS} {v : Int32} : F_L_thrown v σ = some (if v = (-9999001) ∨ v = (-9999002) ∨ v = (-9999003) then 1 else 0, σ) := by
  unfold F_L_thrown
  by_cases h1 : v = (-9999001)
  · rw [if_pos h1, if_pos (Or.inl h1)]
  by_cases h2 : v = (-9999002)
  · rw [if_neg h1, if_pos h2, if_pos (Or.inr (Or.inl h2))]
  by_cases h3 : v = (-9999003)
  · rw [if_neg h1, if_neg h2, if_neg (fun q => q h3), if_pos (Or.inr (Or.inr h3))]
  · rw [if_neg h1, if_neg h2, if_pos h3, if_neg (fun q => q.elim h1 (fun q => q.elim h2 h3))]
theorem thr_n {v : Int32} {n : Nat} (h : v = nI n) (hn : n < 2 ^ 31) : ¬ (v = (-9999001) ∨ v = (-9999002) ∨ v = (-9999003)) := by
  subst h
  intro q
  rcases q with q | q | q <;> exact nI_pos hn (by rw [q]; decide)
/-- the law goes on behind a call -/
def zW (x : Nat) (σ0 : xS) (w : Int32) (A3 : zA) (o : Option (Int32 × xS)) : Prop := ∃ z, o = some (w, z) ∧ xfr σ0 z x (x + 824) ∧ zAM z x A3
theorem zW_end {x : Nat} {σ0 z : xS} {w : Int32} {A : zA} (h : zAM z x A) (f : xfr σ0 z x (x + 824)) : zW x σ0 w A (some (w, z)) := ⟨z, rfl, f, h⟩
theorem zs {x : Nat} {σ0 σ : xS} {v w : Int32} {A A2 A3 : zA} {F : xS → Option (Int32 × xS)} {K : Int32 → xS → Option (Int32 × xS)} (h : zL x F v A A2) (hσ : zAM σ x A) (hf : xfr σ0 σ x (x + 824)) (k : ∀ z, zAM z x A2 → xfr σ0 z x (x + 824) → zW x σ0 w A3 (K v z)) : zW x σ0 w A3 (xbI (F σ) K) := by
  obtain ⟨z, h1, h2, h3⟩ := h σ hσ
  rw [h1, xbI_s]
  exact k z h3 (hf.trans h2)
/-- a call that is refused as it ought to be -/
theorem zsr {x : Nat} {σ0 σ : xS} {v c w : Int32} {A A2 A3 : zA} {F : xS → Option (Int32 × xS)} {N K : xS → Option (Int32 × xS)} (h : zL x F v A A2) (hv : v = c) (hσ : zAM σ x A) (hf : xfr σ0 σ x (x + 824)) (k : ∀ z, zAM z x A2 → xfr σ0 z x (x + 824) → zW x σ0 w A3 (K z)) : zW x σ0 w A3 (xbI (F σ) (fun (zz : Int32) (s : xS) => if ¬ zz = c then N s else K s)) := by
  refine zs h hσ hf (fun z h1 h2 => ?_)
  rw [if_neg (fun q => q hv)]
  exact k z h1 h2
theorem zj {R' : Type} {P : Int32 → Prop} {G : Option R' → Prop} {K : Int32 → xS → Option R'} {c : Prop} [Decidable c] {a b : Int32} {σ : xS} (ha : c → P a) (hb : ¬ c → P b) (hK : ∀ v, P v → G (K v σ)) : G (xjn K (fun (KK : Int32 → xS → Option R') => if c then (KK a σ) else (KK b σ))) := by
  rw [xjn_s]
  by_cases h : c
  · rw [if_pos h]; exact hK a (ha h)
  · rw [if_neg h]; exact hK b (hb h)
theorem zL_of {x : Nat} {F : xS → Option (Int32 × xS)} {v : Int32} {A A2 : zA} (h : ∀ σ, zAM σ x A → zW x σ v A2 (F σ)) : zL x F v A A2 := fun σ hσ => h σ hσ
