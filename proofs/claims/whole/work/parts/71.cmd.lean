/-! THE TEXT: commands -/
def pB {α β : Type} (x : α ⊕ Nat) (f : α → β ⊕ Nat) : β ⊕ Nat := match x with
  | .inl a => f a
  | .inr e => .inr e
theorem pB_l {α β : Type} {a : α} {f : α → β ⊕ Nat} : pB (.inl a) f = f a := rfl
theorem pB_r {α β : Type} {e : Nat} {f : α → β ⊕ Nat} : pB (.inr e) f = .inr e := rfl
def pCmd (n : Nat) (c : Nat → Nat) (pos : Nat) : (Nat × Nat × Nat × Nat × Nat) ⊕ Nat :=
  if c pos = 102 then pB (pNm n c 0 3 1 0 (pos + 1)) (fun q => .inl (4, q.1, 0, 0, q.2))
  else if c pos = 104 then pB (pNm n c 0 3 1 0 (pos + 1)) (fun q => pB (pNm n c 0 1 1 0 q.2) (fun q2 => .inl (3, q.1, q2.1, 0, q2.2)))
  else if c pos = 112 then pB (pNm n c 1 99 2 0 (pos + 1)) (fun q => pB (pNm n c 0 3 1 0 q.2) (fun q2 => pB (pNm n c 1 500 3 0 q2.2) (fun q3 => .inl (2, q.1, q2.1, q3.1, q3.2))))
  else if c pos = 116 then pB (pNm n c 1 99 2 0 (pos + 1)) (fun q => .inl (5, q.1, 0, 0, q.2))
  else if c pos = 119 then pB (pNm n c 0 3 1 0 (pos + 1)) (fun q => pB (pNm n c 1 500 3 0 q.2) (fun q2 => .inl (1, q.1, q2.1, 0, q2.2)))
  else .inr pos
theorem xbI_eta {e : Option (Int32 × xS)} : xbI e (fun (z : Int32) (s : xS) => some (z, s)) = e := by
  cases e with
  | none => rfl
  | some q => rfl
def yTk (s : xS) (a b c d : Int32) : xS := xu (xu (xu (xu s 1 4 a) 1 5 b) 1 6 c) 1 7 d
theorem pF_take {s : xS} {a b c d : Int32} : F_X4_takeCommand 1 a b c d s = some (yTk s a b c d) := by
  unfold F_X4_takeCommand
  rw [xlet_s, xlet_s, xlet_s, xlet_s]
  rfl
theorem yTk_n {s : xS} {a b c d : Int32} {j : Nat} (h : j < 4) : yTk s a b c d 1 j = s 1 j := by
  unfold yTk
  rw [xu_same, up_n (by omega), xu_same, up_n (by omega), xu_same, up_n (by omega), xu_same, up_n (by omega)]
theorem yTk_fr {s : xS} {a b c d : Int32} : xfr s (yTk s a b c d) 1 2 := fun i hi => by
  unfold yTk
  rw [xu_other (by omega), xu_other (by omega), xu_other (by omega), xu_other (by omega)]
theorem yTk_v {s : xS} {a b c d : Int32} : yTk s a b c d 1 4 = a ∧ yTk s a b c d 1 5 = b ∧ yTk s a b c d 1 6 = c ∧ yTk s a b c d 1 7 = d := by
  unfold yTk
  refine ⟨?_, ?_, ?_, ?_⟩
  · rw [xu_same, up_n (by decide), xu_same, up_n (by decide), xu_same, up_n (by decide), xu_same, up_s]
  · rw [xu_same, up_n (by decide), xu_same, up_n (by decide), xu_same, up_s]
  · rw [xu_same, up_n (by decide), xu_same, up_s]
  · rw [xu_same, up_s]
theorem y4_fr {s : xS} {a b : Int32} : xfr s (y4 s a b) 1 2 := fun i hi => y4_o (by omega)
section PC
variable {n : Nat} {c : Nat → Nat}
theorem pF_rn {D pos lo hi : Nat} {s : xS} (h1 : 1 ≤ D) (hD : D ≤ 3) (hhi : hi < 1000) (hlo : lo < 1000) (hT : yTx s n c) (hp : pos < 2 ^ 19) : (∃ v2 p2, pNm n c lo hi D 0 pos = .inl (v2, p2) ∧ F_X4_readNumber 1 (nI D) (nI lo) (nI hi) (y4 s (nI pos) (-1)) = some (nI v2, y4 s (nI p2) (-1)) ∧ p2 ≤ n) ∨ ∃ e x, pNm n c lo hi D 0 pos = .inr e ∧ F_X4_readNumber 1 (nI D) (nI lo) (nI hi) (y4 s (nI pos) (-1)) = some (x, y4 s (nI (e + 1)) (nI e)) ∧ e < 2 ^ 20 := by
  cases h : pNm n c lo hi D 0 pos with
  | inl q =>
    obtain ⟨v2, p2⟩ := q
    exact Or.inl ⟨v2, p2, rfl, pF_num_ok h1 hD hhi hlo hT hp h, ((pNm_pos D 0 pos).1 v2 p2 h).2.1 (by omega)⟩
  | inr e =>
    obtain ⟨x, hx⟩ := pF_num_er h1 hD hhi hlo hT hp h
    have := (pNm_pos D 0 pos).2 e h
    exact Or.inr ⟨e, x, rfl, hx, by omega⟩
/-- what a command leaves when all is well -/
theorem cmd_ok {s : xS} {p2 k a b d : Nat} {KK : xS → Option (Int32 × xS)} (hKK : ∀ s3, KK s3 = if ¬ s3 1 3 = (-1) then some ((0 : Int32), s3) else some ((1 : Int32), s3)) : ∃ z, xbV (F_X4_takeCommand 1 (nI k) (nI a) (nI b) (nI d) (y4 s (nI p2) (-1))) KK = some (1, z) ∧ xfr s z 1 2 ∧ z 1 2 = nI p2 ∧ z 1 3 = -1 ∧ z 1 4 = nI k ∧ z 1 5 = nI a ∧ z 1 6 = nI b ∧ z 1 7 = nI d ∧ z 1 1 = s 1 1 := by
  refine ⟨yTk (y4 s (nI p2) (-1)) (nI k) (nI a) (nI b) (nI d), ?_, y4_fr.trans yTk_fr, by rw [yTk_n (by decide), y4_2], by rw [yTk_n (by decide), y4_3], yTk_v.1, yTk_v.2.1, yTk_v.2.2.1, yTk_v.2.2.2, by rw [yTk_n (by decide), y4_n (by decide) (by decide)]⟩
  rw [pF_take, xbV_s, hKK, if_neg (by rw [yTk_n (by decide), y4_3]; exact fun q => q rfl)]
theorem cmd_er {s : xS} {e : Nat} {pl k a b d : Int32} {KK : xS → Option (Int32 × xS)} (he : e < 2 ^ 20) (hKK : ∀ s3, KK s3 = if ¬ s3 1 3 = (-1) then some ((0 : Int32), s3) else some ((1 : Int32), s3)) : ∃ z, xbV (F_X4_takeCommand 1 k a b d (y4 s pl (nI e))) KK = some (0, z) ∧ xfr s z 1 2 ∧ z 1 3 = nI e ∧ z 1 1 = s 1 1 := by
  refine ⟨yTk (y4 s pl (nI e)) k a b d, ?_, y4_fr.trans yTk_fr, by rw [yTk_n (by decide), y4_3], by rw [yTk_n (by decide), y4_n (by decide) (by decide)]⟩
  rw [pF_take, xbV_s, hKK, if_pos (by rw [yTk_n (by decide), y4_3]; exact nI_nm1 (by omega))]
theorem pF_cmd {σ : xS} {pos : Nat} (hT : yTx σ n c) (h2 : σ 1 2 = nI pos) (h3 : σ 1 3 = -1) (hp : pos < n) : (∃ k a b d p2 z, pCmd n c pos = .inl (k, a, b, d, p2) ∧ F_X4_readCommand 1 σ = some (1, z) ∧ xfr σ z 1 2 ∧ z 1 2 = nI p2 ∧ z 1 3 = -1 ∧ z 1 4 = nI k ∧ z 1 5 = nI a ∧ z 1 6 = nI b ∧ z 1 7 = nI d ∧ z 1 1 = σ 1 1) ∨ ∃ e z, pCmd n c pos = .inr e ∧ F_X4_readCommand 1 σ = some (0, z) ∧ xfr σ z 1 2 ∧ z 1 3 = nI e ∧ z 1 1 = σ 1 1 := by
  have hn := hT.1
  have hl := pF_letter hT h2 (by omega)
  rw [if_pos hp] at hl
  have e4 : xu σ 1 2 (nI (pos + 1)) = y4 σ (nI (pos + 1)) (-1) := by
    unfold y4
    exact (xu_id (by rw [xu_same, up_n (by decide), h3])).symm
  rw [e4] at hl
  have hc255 := (hT.2.2 pos hp).2
  have lit : ∀ v : Nat, v < 256 → (nI (c pos) = nI v ↔ c pos = v) := fun v hv => nI_eq (by omega) (by omega)
  have W1 : ∀ s : xS, F_X4_readWriter 1 s = F_X4_readNumber 1 1 0 3 s := fun s => by unfold F_X4_readWriter; exact xbI_eta
  have W2 : ∀ s : xS, F_X4_readSigns 1 s = F_X4_readNumber 1 3 1 500 s := fun s => by unfold F_X4_readSigns; exact xbI_eta
  have W3 : ∀ s : xS, F_X4_readTicks 1 s = F_X4_readNumber 1 2 1 99 s := fun s => by unfold F_X4_readTicks; exact xbI_eta
  have sk : ∀ (D lo hi : Nat) (s : xS) (pl : Int32) (e : Nat), 1 ≤ D → D ≤ 3 → e < 2 ^ 20 → F_X4_readNumber 1 (nI D) (nI lo) (nI hi) (y4 s pl (nI e)) = some (0, y4 s pl (nI e)) := fun D lo hi s pl e a b h => pF_num_sk a b (by omega)
  have KKp : ∀ s3 : xS, (fun (σ3 : xS) => if ¬ (σ3 1 3) = ((-1)) then (some ((0 : Int32), σ3)) else (some ((1 : Int32), σ3))) s3 = if ¬ s3 1 3 = (-1) then some ((0 : Int32), s3) else some ((1 : Int32), s3) := fun _ => rfl
  unfold F_X4_readCommand pCmd
  rw [if_neg (show ¬ ¬ σ 1 3 = -1 from fun q => q h3), if_pos (show σ 1 2 < σ 1 1 by rw [h2, hT.2.1]; exact nI_lt hp (by omega)), hl, xbI_s, xjn_s]
  by_cases c1 : c pos = 102
  · rw [if_pos c1, if_pos (show nI (c pos) = 102 from (lit 102 (by decide)).mpr c1), W1]
    rcases pF_rn (D := 1) (lo := 0) (hi := 3) (pos := pos + 1) (by decide) (by decide) (by decide) (by decide) hT (by omega) with ⟨a, p, q1, q2, q3⟩ | ⟨e, x, q1, q2, q3⟩
    · rw [q1, show F_X4_readNumber 1 1 0 3 _ = _ from q2, xbI_s]
      obtain ⟨z, g⟩ := cmd_ok (k := 4) (a := a) (b := 0) (d := 0) (s := σ) (p2 := p) KKp
      exact Or.inl ⟨4, a, 0, 0, p, z, rfl, g⟩
    · rw [q1, show F_X4_readNumber 1 1 0 3 _ = _ from q2, xbI_s]
      obtain ⟨z, g⟩ := cmd_er (s := σ) (k := 4) (a := x) (b := 0) (d := 0) (pl := nI (e + 1)) q3 KKp
      exact Or.inr ⟨e, z, rfl, g⟩
  rw [if_neg c1, if_neg (show ¬ nI (c pos) = 102 from fun q => c1 ((lit 102 (by decide)).mp q))]
  by_cases c2 : c pos = 104
  · rw [if_pos c2, if_pos (show nI (c pos) = 104 from (lit 104 (by decide)).mpr c2), W1]
    rcases pF_rn (D := 1) (lo := 0) (hi := 3) (pos := pos + 1) (by decide) (by decide) (by decide) (by decide) hT (by omega) with ⟨a, p, q1, q2, q3⟩ | ⟨e, x, q1, q2, q3⟩
    · rw [q1, show F_X4_readNumber 1 1 0 3 _ = _ from q2, xbI_s, pB_l]
      rcases pF_rn (D := 1) (lo := 0) (hi := 1) (pos := p) (by decide) (by decide) (by decide) (by decide) hT (by omega) with ⟨b, p2, r1, r2, r3⟩ | ⟨e, x, r1, r2, r3⟩
      · rw [r1, show F_X4_readNumber 1 1 0 1 _ = _ from r2, xbI_s, pB_l]
        obtain ⟨z, g⟩ := cmd_ok (k := 3) (a := a) (b := b) (d := 0) (s := σ) (p2 := p2) KKp
        exact Or.inl ⟨3, a, b, 0, p2, z, rfl, g⟩
      · rw [r1, show F_X4_readNumber 1 1 0 1 _ = _ from r2, xbI_s, pB_r]
        obtain ⟨z, g⟩ := cmd_er (s := σ) (k := 3) (a := nI a) (b := x) (d := 0) (pl := nI (e + 1)) r3 KKp
        exact Or.inr ⟨e, z, rfl, g⟩
    · rw [q1, show F_X4_readNumber 1 1 0 3 _ = _ from q2, xbI_s, pB_r, show F_X4_readNumber 1 1 0 1 _ = _ from sk 1 0 1 σ _ e (by decide) (by decide) q3, xbI_s]
      obtain ⟨z, g⟩ := cmd_er (s := σ) (k := 3) (a := x) (b := 0) (d := 0) (pl := nI (e + 1)) q3 KKp
      exact Or.inr ⟨e, z, rfl, g⟩
  rw [if_neg c2, if_neg (show ¬ nI (c pos) = 104 from fun q => c2 ((lit 104 (by decide)).mp q))]
  by_cases c3 : c pos = 112
  · rw [if_pos c3, if_pos (show nI (c pos) = 112 from (lit 112 (by decide)).mpr c3), W3]
    rcases pF_rn (D := 2) (lo := 1) (hi := 99) (pos := pos + 1) (by decide) (by decide) (by decide) (by decide) hT (by omega) with ⟨a, p, q1, q2, q3⟩ | ⟨e, x, q1, q2, q3⟩
    · rw [q1, show F_X4_readNumber 1 2 1 99 _ = _ from q2, xbI_s, pB_l, W1]
      rcases pF_rn (D := 1) (lo := 0) (hi := 3) (pos := p) (by decide) (by decide) (by decide) (by decide) hT (by omega) with ⟨b, p2, r1, r2, r3⟩ | ⟨e, x, r1, r2, r3⟩
      · rw [r1, show F_X4_readNumber 1 1 0 3 _ = _ from r2, xbI_s, pB_l, W2]
        rcases pF_rn (D := 3) (lo := 1) (hi := 500) (pos := p2) (by decide) (by decide) (by decide) (by decide) hT (by omega) with ⟨d, p3, t1, t2, t3⟩ | ⟨e, x, t1, t2, t3⟩
        · rw [t1, show F_X4_readNumber 1 3 1 500 _ = _ from t2, xbI_s, pB_l]
          obtain ⟨z, g⟩ := cmd_ok (k := 2) (a := a) (b := b) (d := d) (s := σ) (p2 := p3) KKp
          exact Or.inl ⟨2, a, b, d, p3, z, rfl, g⟩
        · rw [t1, show F_X4_readNumber 1 3 1 500 _ = _ from t2, xbI_s, pB_r]
          obtain ⟨z, g⟩ := cmd_er (s := σ) (k := 2) (a := nI a) (b := nI b) (d := x) (pl := nI (e + 1)) t3 KKp
          exact Or.inr ⟨e, z, rfl, g⟩
      · rw [r1, show F_X4_readNumber 1 1 0 3 _ = _ from r2, xbI_s, pB_r, W2, show F_X4_readNumber 1 3 1 500 _ = _ from sk 3 1 500 σ _ e (by decide) (by decide) r3, xbI_s]
        obtain ⟨z, g⟩ := cmd_er (s := σ) (k := 2) (a := nI a) (b := x) (d := 0) (pl := nI (e + 1)) r3 KKp
        exact Or.inr ⟨e, z, rfl, g⟩
    · rw [q1, show F_X4_readNumber 1 2 1 99 _ = _ from q2, xbI_s, pB_r, W1, show F_X4_readNumber 1 1 0 3 _ = _ from sk 1 0 3 σ _ e (by decide) (by decide) q3, xbI_s, W2, show F_X4_readNumber 1 3 1 500 _ = _ from sk 3 1 500 σ _ e (by decide) (by decide) q3, xbI_s]
      obtain ⟨z, g⟩ := cmd_er (s := σ) (k := 2) (a := x) (b := 0) (d := 0) (pl := nI (e + 1)) q3 KKp
      exact Or.inr ⟨e, z, rfl, g⟩
  rw [if_neg c3, if_neg (show ¬ nI (c pos) = 112 from fun q => c3 ((lit 112 (by decide)).mp q))]
  by_cases c4 : c pos = 116
  · rw [if_pos c4, if_pos (show nI (c pos) = 116 from (lit 116 (by decide)).mpr c4), W3]
    rcases pF_rn (D := 2) (lo := 1) (hi := 99) (pos := pos + 1) (by decide) (by decide) (by decide) (by decide) hT (by omega) with ⟨a, p, q1, q2, q3⟩ | ⟨e, x, q1, q2, q3⟩
    · rw [q1, show F_X4_readNumber 1 2 1 99 _ = _ from q2, xbI_s, pB_l]
      obtain ⟨z, g⟩ := cmd_ok (k := 5) (a := a) (b := 0) (d := 0) (s := σ) (p2 := p) KKp
      exact Or.inl ⟨5, a, 0, 0, p, z, rfl, g⟩
    · rw [q1, show F_X4_readNumber 1 2 1 99 _ = _ from q2, xbI_s, pB_r]
      obtain ⟨z, g⟩ := cmd_er (s := σ) (k := 5) (a := x) (b := 0) (d := 0) (pl := nI (e + 1)) q3 KKp
      exact Or.inr ⟨e, z, rfl, g⟩
  rw [if_neg c4, if_neg (show ¬ nI (c pos) = 116 from fun q => c4 ((lit 116 (by decide)).mp q))]
  by_cases c5 : c pos = 119
  · rw [if_pos c5, if_pos (show nI (c pos) = 119 from (lit 119 (by decide)).mpr c5), W1]
    rcases pF_rn (D := 1) (lo := 0) (hi := 3) (pos := pos + 1) (by decide) (by decide) (by decide) (by decide) hT (by omega) with ⟨a, p, q1, q2, q3⟩ | ⟨e, x, q1, q2, q3⟩
    · rw [q1, show F_X4_readNumber 1 1 0 3 _ = _ from q2, xbI_s, pB_l, W2]
      rcases pF_rn (D := 3) (lo := 1) (hi := 500) (pos := p) (by decide) (by decide) (by decide) (by decide) hT (by omega) with ⟨b, p2, r1, r2, r3⟩ | ⟨e, x, r1, r2, r3⟩
      · rw [r1, show F_X4_readNumber 1 3 1 500 _ = _ from r2, xbI_s, pB_l]
        obtain ⟨z, g⟩ := cmd_ok (k := 1) (a := a) (b := b) (d := 0) (s := σ) (p2 := p2) KKp
        exact Or.inl ⟨1, a, b, 0, p2, z, rfl, g⟩
      · rw [r1, show F_X4_readNumber 1 3 1 500 _ = _ from r2, xbI_s, pB_r]
        obtain ⟨z, g⟩ := cmd_er (s := σ) (k := 1) (a := nI a) (b := x) (d := 0) (pl := nI (e + 1)) r3 KKp
        exact Or.inr ⟨e, z, rfl, g⟩
    · rw [q1, show F_X4_readNumber 1 1 0 3 _ = _ from q2, xbI_s, pB_r, W2, show F_X4_readNumber 1 3 1 500 _ = _ from sk 3 1 500 σ _ e (by decide) (by decide) q3, xbI_s]
      obtain ⟨z, g⟩ := cmd_er (s := σ) (k := 1) (a := x) (b := 0) (d := 0) (pl := nI (e + 1)) q3 KKp
      exact Or.inr ⟨e, z, rfl, g⟩
  rw [if_neg c5, if_neg (show ¬ nI (c pos) = 119 from fun q => c5 ((lit 119 (by decide)).mp q))]
  refine Or.inr ⟨pos, y4 σ (nI (pos + 1)) (nI pos), rfl, ?_, y4_fr, y4_3, y4_n (by decide) (by decide)⟩
  rw [y4_2, nI_pred, y4_er, xlet_s, KKp, if_pos (by rw [y4_3]; exact nI_nm1 (by omega))]
end PC
