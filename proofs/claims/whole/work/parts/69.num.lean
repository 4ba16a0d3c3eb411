/-! THE TEXT: numbers -/
def tU (d : Nat) : Nat := if d = 0 then 1 else if d = 1 then 10 else if d = 2 then 100 else 1000
/-- a number of d more digits, v is read so far; or where it is wrong -/
def pNm (n : Nat) (c : Nat → Nat) (lo hi : Nat) : Nat → Nat → Nat → (Nat × Nat) ⊕ Nat
  | 0, v, pos => .inl (v, pos)
  | d + 1, v, pos => if pos < n ∧ 48 ≤ c pos ∧ c pos ≤ 57 ∧ (v * 10 + (c pos - 48)) * tU d ≤ hi ∧ lo ≤ (v * 10 + (c pos - 48)) * tU d + tU d - 1 then pNm n c lo hi d (v * 10 + (c pos - 48)) (pos + 1) else .inr pos
/-- the class's text -/
def yTx (σ : xS) (n : Nat) (c : Nat → Nat) : Prop := n ≤ 120 ∧ σ 1 1 = nI n ∧ ∀ i, i < n → σ 2 i = nI (c i) ∧ c i ≤ 255
/-- the reference's text -/
def yTm (σ : xS) (n : Nat) (c : Nat → Nat) : Prop := n ≤ 120 ∧ σ 824 2 = nI n ∧ ∀ i, i < n → σ 825 i = nI (c i) ∧ c i ≤ 255
theorem yTx.up {σ : xS} {n k : Nat} {c : Nat → Nat} {v : Int32} (h : yTx σ n c) (hk : k ≠ 1) : yTx (xu σ 1 k v) n c := by
  refine ⟨h.1, by rw [xu_same, up_n (Ne.symm hk), h.2.1], fun i hi => ?_⟩
  rw [xu_other (by decide)]
  exact h.2.2 i hi
theorem yTm.up {σ : xS} {n k : Nat} {c : Nat → Nat} {v : Int32} (h : yTm σ n c) (hk : k ≠ 2) : yTm (xu σ 824 k v) n c := by
  refine ⟨h.1, by rw [xu_same, up_n (Ne.symm hk), h.2.1], fun i hi => ?_⟩
  rw [xu_other (by decide)]
  exact h.2.2 i hi
theorem xu_xu {σ : xS} {o k : Nat} {v v2 : Int32} : xu (xu σ o k v) o k v2 = xu σ o k v2 := by
  funext i
  by_cases h : i = o
  · subst h
    rw [xu_same, xu_same, xu_same]
    funext j
    by_cases hj : j = k
    · subst hj; rw [up_s, up_s]
    · rw [up_n hj, up_n hj, up_n hj]
  · rw [xu_other h, xu_other h, xu_other h]
theorem xu_id {σ : xS} {o k : Nat} {v : Int32} (h : σ o k = v) : xu σ o k v = σ := by
  funext i
  by_cases hi : i = o
  · subst hi
    rw [xu_same]
    funext j
    by_cases hj : j = k
    · subst hj; rw [up_s, h]
    · rw [up_n hj]
  · rw [xu_other hi]
theorem xu_sw {σ : xS} {o k k2 : Nat} {v v2 : Int32} (h : k ≠ k2) : xu (xu σ o k v) o k2 v2 = xu (xu σ o k2 v2) o k v := by
  funext i
  by_cases hi : i = o
  · subst hi
    rw [xu_same, xu_same, xu_same, xu_same]
    funext j
    by_cases h1 : j = k
    · subst h1; rw [up_n h, up_s, up_s]
    · by_cases h2 : j = k2
      · subst h2; rw [up_s, up_n h1, up_s]
      · rw [up_n h2, up_n h1, up_n h1, up_n h2]
  · rw [xu_other hi, xu_other hi, xu_other hi, xu_other hi]
theorem pF_letter {σ : xS} {n pos : Nat} {c : Nat → Nat} (h : yTx σ n c) (h2 : σ 1 2 = nI pos) (hp : pos < 2 ^ 20) : F_X4_readLetter 1 σ = some (nI (if pos < n then c pos else 32), xu σ 1 2 (nI (pos + 1))) := by
  obtain ⟨hn, h1, hc⟩ := h
  unfold F_X4_readLetter
  rw [xjn_s, xjn_s, h2, h1, if_neg (nI_pos (by omega))]
  by_cases e : pos < n
  · rw [if_neg (nI_ge e (by omega)), if_neg (show ¬ nI 120 ≤ nI pos from nI_ge (by omega) (by decide)), if_pos (xin_nI (by omega) (by decide)), nI_clamp (by omega), xlet_s, (hc pos e).1, if_pos e]
    dsimp only
    rw [h2, nI_1, xlet_s, if_pos (nar_char (by have := (hc pos e).2; omega))]
  · rw [if_pos (nI_le (by omega) (by omega)), if_neg e]
    dsimp only
    rw [h2, nI_1, xlet_s, if_pos (by decide)]
    rfl
section PN
variable {n : Nat} {c : Nat → Nat} {lo hi : Nat}
/-- the class's place and its error -/
def y4 (s : xS) (pl er : Int32) : xS := xu (xu s 1 2 pl) 1 3 er
theorem y4_2 {s : xS} {a b : Int32} : y4 s a b 1 2 = a := by unfold y4; rw [xu_same, up_n (by decide), xu_same, up_s]
theorem y4_3 {s : xS} {a b : Int32} : y4 s a b 1 3 = b := by unfold y4; rw [xu_same, up_s]
theorem y4_n {s : xS} {a b : Int32} {j : Nat} (h2 : j ≠ 2) (h3 : j ≠ 3) : y4 s a b 1 j = s 1 j := by unfold y4; rw [xu_same, up_n h3, xu_same, up_n h2]
theorem y4_o {s : xS} {a b : Int32} {i : Nat} (h : i ≠ 1) : y4 s a b i = s i := by unfold y4; rw [xu_other h, xu_other h]
theorem y4_y4 {s : xS} {a b a2 b2 : Int32} : y4 (y4 s a b) a2 b2 = y4 s a2 b2 := by
  unfold y4
  rw [xu_sw (k := 3) (k2 := 2) (by decide), xu_xu, xu_xu]
theorem y4_id {s : xS} : y4 s (s 1 2) (s 1 3) = s := by
  unfold y4
  rw [xu_id rfl, xu_id rfl]
theorem y4_pl {s : xS} {a b p : Int32} : xu (y4 s a b) 1 2 p = y4 s p b := by
  unfold y4
  rw [xu_sw (k := 3) (k2 := 2) (by decide), xu_xu]
theorem y4_er {s : xS} {a b e : Int32} : xu (y4 s a b) 1 3 e = y4 s a e := by unfold y4; rw [xu_xu]
theorem yTx.y4 {s : xS} {a b : Int32} (h : yTx s n c) : yTx (y4 s a b) n c := (h.up (by decide)).up (by decide)
theorem pL_num {D : Nat} {KK : Int32 → xS → Option (Int32 × xS)} (hD : D ≤ 3) (hhi : hi < 1000) (hlo : lo < 1000) : ∀ (d v pos fuel : Nat) (s : xS), d ≤ D → d < fuel → (d < 3 → v < tU (3 - d)) → (d = 3 → v = 0) → yTx s n c → pos + d < 2 ^ 20 → (∀ v2 p2, pNm n c lo hi d v pos = .inl (v2, p2) → L_X4_readNumber_31 1 (nI D) (nI lo) (nI hi) KK fuel (nI v) (nI (tU d)) (nI (D - d)) (y4 s (nI pos) (-1)) = KK (nI v2) (y4 s (nI p2) (-1))) ∧ (∀ e, pNm n c lo hi d v pos = .inr e → ∃ x, L_X4_readNumber_31 1 (nI D) (nI lo) (nI hi) KK fuel (nI v) (nI (tU d)) (nI (D - d)) (y4 s (nI pos) (-1)) = KK x (y4 s (nI (e + 1)) (nI e))) := by
  intro d
  induction d with
  | zero =>
    intro v pos fuel s hd hf hv hv3 hT hp
    obtain ⟨g, rfl⟩ : ∃ g, fuel = g + 1 := ⟨fuel - 1, by omega⟩
    constructor
    · intro v2 p2 e
      obtain ⟨rfl, rfl⟩ := Prod.mk.inj (Sum.inl.inj e)
      rw [L_X4_readNumber_31, if_pos (nI_le (by omega) (by omega))]
    · intro e he
      exact absurd he (by simp [pNm])
  | succ d ih =>
    intro v pos fuel s hd hf hv hv3 hT hp
    obtain ⟨g, rfl⟩ : ∃ g, fuel = g + 1 := ⟨fuel - 1, by omega⟩
    obtain ⟨g', rfl⟩ : ∃ g', g = g' + 1 := ⟨g - 1, by omega⟩
    have hdiv : nI (tU (d + 1)) / 10 = nI (tU d) := by
      have h3 : d = 0 ∨ d = 1 ∨ d = 2 := by omega
      rcases h3 with h | h | h <;> subst h <;> decide
    have hl := pF_letter (σ := y4 s (nI pos) (-1)) (pos := pos) hT.y4 y4_2 (by omega)
    obtain ⟨ch, hch⟩ : ∃ y, y = (if pos < n then c pos else 32) := ⟨_, rfl⟩
    have hch255 : ch ≤ 255 := by
      rw [hch]
      split
      · exact (hT.2.2 pos ‹_›).2
      · decide
    rw [← hch, y4_pl] at hl
    have hlt : ¬ nI D ≤ nI (D - (d + 1)) := nI_ge (by omega) (by omega)
    -- what follows a wrong digit
    have bad : ∀ z16 : Int32, ∃ x, (xlet (xu (y4 s (nI (pos + 1)) (-1)) 1 3 ((y4 s (nI (pos + 1)) (-1)) 1 2 - 1)) (fun (σ20 : xS) => xlet (nI (D - (d + 1)) + 1) (fun (zz21 : Int32) => L_X4_readNumber_31 1 (nI D) (nI lo) (nI hi) KK (g' + 1) z16 (nI (tU d)) zz21 σ20))) = KK x (y4 s (nI (pos + 1)) (nI pos)) := by
      intro z16
      refine ⟨z16, ?_⟩
      rw [y4_2, nI_pred, y4_er, xlet_s, xlet_s, nI_1, L_X4_readNumber_31]
      by_cases hd0 : d = 0
      · rw [if_pos (nI_le (by omega) (by omega))]
      · rw [if_neg (nI_ge (by omega) (by omega)), if_pos (by rw [y4_3]; exact nI_nm1 (by omega))]
    have hstep := fun K => (show L_X4_readNumber_31 1 (nI D) (nI lo) (nI hi) KK (g' + 1 + 1) (nI v) (nI (tU (d + 1))) (nI (D - (d + 1))) (y4 s (nI pos) (-1)) = K → L_X4_readNumber_31 1 (nI D) (nI lo) (nI hi) KK (g' + 1 + 1) (nI v) (nI (tU (d + 1))) (nI (D - (d + 1))) (y4 s (nI pos) (-1)) = K from id)
    by_cases hdig : pos < n ∧ 48 ≤ c pos ∧ c pos ≤ 57
    · obtain ⟨hpn, h48, h57⟩ := hdig
      have hcp : ch = c pos := by rw [hch, if_pos hpn]
      obtain ⟨v', hv'⟩ : ∃ y, y = v * 10 + (c pos - 48) := ⟨_, rfl⟩
      have ez : nI v * 10 + (nI ch - 48) = nI v' := by
        rw [show (10 : Int32) = nI 10 from rfl, show (48 : Int32) = nI 48 from rfl, pk_mul, pk_sub (by omega), nI_add, hv', hcp]
      have hvb : v' * tU d < 1000 ∧ (d < 3 → v' < tU (3 - d)) ∧ tU d ≤ 100 ∧ 1 ≤ tU d := by
        have h3 : d = 0 ∨ d = 1 ∨ d = 2 := by omega
        rcases h3 with h | h | h <;> subst h
        · have := hv (by decide); simp [tU] at this ⊢; omega
        · have := hv (by decide); simp [tU] at this ⊢; omega
        · have := hv3 rfl; simp [tU] at this ⊢; omega
      have e1 : nI v' * nI (tU d) = nI (v' * tU d) := pk_mul _ _
      have e2 : nI v' * nI (tU d) + nI (tU d) - 1 = nI (v' * tU d + tU d - 1) := by rw [e1, nI_add, nI_s1 (by omega)]
      have n48 : ¬ nI ch < 48 := nI_nlt (a := ch) (b := 48) (by omega) (by omega)
      have n57 : ¬ 57 < nI ch := nI_nlt (a := 57) (b := ch) (by omega) (by decide)
      by_cases hr : v' * tU d ≤ hi ∧ lo ≤ v' * tU d + tU d - 1
      · have ep : pNm n c lo hi (d + 1) v pos = pNm n c lo hi d v' (pos + 1) := by
          rw [pNm, if_pos ⟨hpn, h48, h57, by rw [← hv']; exact hr.1, by rw [← hv']; exact hr.2⟩, ← hv']
        have er : L_X4_readNumber_31 1 (nI D) (nI lo) (nI hi) KK (g' + 1 + 1) (nI v) (nI (tU (d + 1))) (nI (D - (d + 1))) (y4 s (nI pos) (-1)) = L_X4_readNumber_31 1 (nI D) (nI lo) (nI hi) KK (g' + 1) (nI v') (nI (tU d)) (nI (D - d)) (y4 s (nI (pos + 1)) (-1)) := by
          rw [L_X4_readNumber_31, if_neg hlt, if_neg (by rw [y4_3]; exact fun q => q rfl), hl, xbI_s]
          simp only [xlet_s, xjn_s, hdiv, ez, nI_1]
          rw [e2, e1, if_neg (nI_nlt hr.1 (by omega)), if_neg (nI_nlt hr.2 (by omega)), if_neg n48, if_neg n57, if_pos (by decide), show D - (d + 1) + 1 = D - d by omega]
        obtain ⟨i1, i2⟩ := ih v' (pos + 1) (g' + 1) s (by omega) (by omega) hvb.2.1 (fun q => absurd q (by omega)) hT (by omega)
        rw [ep, er]
        exact ⟨i1, i2⟩
      · have ep : pNm n c lo hi (d + 1) v pos = .inr pos := by
          rw [pNm, if_neg (fun q => hr ⟨by rw [hv']; exact q.2.2.2.1, by rw [hv']; exact q.2.2.2.2⟩)]
        rw [ep]
        refine ⟨fun v2 p2 e => absurd e (by simp), fun e he => ?_⟩
        obtain rfl := Sum.inr.inj he
        obtain ⟨x, hx⟩ := bad (nI v')
        refine ⟨x, ?_⟩
        rw [L_X4_readNumber_31, if_neg hlt, if_neg (by rw [y4_3]; exact fun q => q rfl), hl, xbI_s]
        simp only [xlet_s] at hx
        simp only [xlet_s, xjn_s, hdiv, ez]
        rw [e2, e1, if_neg n48, if_neg n57]
        by_cases h1 : v' * tU d ≤ hi
        · rw [if_neg (nI_nlt h1 (by omega)), if_pos (nI_lt (by omega) (by omega)), if_neg (by decide)]
          exact hx
        · rw [if_pos (nI_lt (by omega) (by omega)), if_neg (by decide)]
          exact hx
    · have ep : pNm n c lo hi (d + 1) v pos = .inr pos := by
        rw [pNm, if_neg (fun q => hdig ⟨q.1, q.2.1, q.2.2.1⟩)]
      rw [ep]
      refine ⟨fun v2 p2 e => absurd e (by simp), fun e he => ?_⟩
      obtain rfl := Sum.inr.inj he
      obtain ⟨x, hx⟩ := bad (nI v * 10 + (nI ch - 48))
      refine ⟨x, ?_⟩
      rw [L_X4_readNumber_31, if_neg hlt, if_neg (by rw [y4_3]; exact fun q => q rfl), hl, xbI_s]
      simp only [xlet_s] at hx
      simp only [xlet_s, xjn_s, hdiv]
      have hout : nI ch < 48 ∨ 57 < nI ch := by
        by_cases hpn : pos < n
        · have hcp : ch = c pos := by rw [hch, if_pos hpn]
          by_cases h48 : 48 ≤ c pos
          · exact Or.inr (nI_lt (a := 57) (b := ch) (by omega) (by omega))
          · exact Or.inl (nI_lt (a := ch) (b := 48) (by omega) (by decide))
        · have hcp : ch = 32 := by rw [hch, if_neg hpn]
          rw [hcp]
          exact Or.inl (by decide)
      have fin : ∀ z17 : Int32, (if nI ch < 48 then L_X4_readNumber_31 1 (nI D) (nI lo) (nI hi) KK (g' + 1) (nI v * 10 + (nI ch - 48)) (nI (tU d)) (nI (D - (d + 1)) + 1) (xu (y4 s (nI (pos + 1)) (-1)) 1 3 ((y4 s (nI (pos + 1)) (-1)) 1 2 - 1)) else if 57 < nI ch then L_X4_readNumber_31 1 (nI D) (nI lo) (nI hi) KK (g' + 1) (nI v * 10 + (nI ch - 48)) (nI (tU d)) (nI (D - (d + 1)) + 1) (xu (y4 s (nI (pos + 1)) (-1)) 1 3 ((y4 s (nI (pos + 1)) (-1)) 1 2 - 1)) else if ¬ z17 = 0 then L_X4_readNumber_31 1 (nI D) (nI lo) (nI hi) KK (g' + 1) (nI v * 10 + (nI ch - 48)) (nI (tU d)) (nI (D - (d + 1)) + 1) (y4 s (nI (pos + 1)) (-1)) else L_X4_readNumber_31 1 (nI D) (nI lo) (nI hi) KK (g' + 1) (nI v * 10 + (nI ch - 48)) (nI (tU d)) (nI (D - (d + 1)) + 1) (xu (y4 s (nI (pos + 1)) (-1)) 1 3 ((y4 s (nI (pos + 1)) (-1)) 1 2 - 1))) = KK x (y4 s (nI (pos + 1)) (nI pos)) := by
        intro z17
        rcases hout with h | h
        · rw [if_pos h]; exact hx
        · by_cases h2 : nI ch < 48
          · rw [if_pos h2]; exact hx
          · rw [if_neg h2, if_pos h]; exact hx
      by_cases h1 : nI hi < (nI v * 10 + (nI ch - 48)) * nI (tU d)
      · rw [if_pos h1]; exact fin 0
      · rw [if_neg h1]
        by_cases h2 : ((nI v * 10 + (nI ch - 48)) * nI (tU d) + nI (tU d) - 1) < nI lo
        · rw [if_pos h2]; exact fin 0
        · rw [if_neg h2]; exact fin 1
end PN
