section PF
variable {n : Nat} {c : Nat → Nat} {lo hi : Nat}
def rP : Nat → Int32 → Int32
  | 0, z => z
  | q + 1, z => rP q (z * 10)
theorem pL_num9 {D : Nat} {KK : Int32 → xS → Option (Int32 × xS)} {σ : xS} (hD : D ≤ 3) : ∀ (q i fuel : Nat) (z : Int32), i + q = D → q < fuel → L_X4_readNumber_9 (nI D) KK fuel z (nI i) σ = KK (rP q z) σ := by
  intro q
  induction q with
  | zero =>
    intro i fuel z hi hf
    obtain ⟨g, rfl⟩ : ∃ g, fuel = g + 1 := ⟨fuel - 1, by omega⟩
    rw [L_X4_readNumber_9, if_pos (nI_le (by omega) (by omega))]
    rfl
  | succ q ih =>
    intro i fuel z hi hf
    obtain ⟨g, rfl⟩ : ∃ g, fuel = g + 1 := ⟨fuel - 1, by omega⟩
    rw [L_X4_readNumber_9, if_neg (nI_ge (by omega) (by omega)), xlet_s, xlet_s, nI_1, ih (i + 1) g _ (by omega) (by omega)]
    rfl
theorem rP_D {D : Nat} (h1 : 1 ≤ D) (h : D ≤ 3) : rP D 1 = nI (tU D) := by
  have h3 : D = 1 ∨ D = 2 ∨ D = 3 := by omega
  rcases h3 with h | h | h <;> subst h <;> decide
theorem pF_numH {D : Nat} {σ : xS} (h1 : 1 ≤ D) (hD : D ≤ 3) : F_X4_readNumber 1 (nI D) (nI lo) (nI hi) σ = L_X4_readNumber_31 1 (nI D) (nI lo) (nI hi) (fun (zz3 : Int32) (σ4 : xS) => some (zz3, σ4)) 1000 0 (nI (tU D)) 0 σ := by
  unfold F_X4_readNumber
  refine (show _ = _ from pL_num9 (KK := fun (zz1 : Int32) (σ2 : xS) => L_X4_readNumber_31 1 (nI D) (nI lo) (nI hi) (fun (zz3 : Int32) (σ4 : xS) => some (zz3, σ4)) 1000 0 zz1 0 σ2) hD D 0 1000 1 (by omega) (by omega)).trans ?_
  rw [rP_D h1 hD]
theorem pF_num_ok {D v2 p2 pos : Nat} {s : xS} (h1 : 1 ≤ D) (hD : D ≤ 3) (hhi : hi < 1000) (hlo : lo < 1000) (hT : yTx s n c) (hp : pos < 2 ^ 19) (h : pNm n c lo hi D 0 pos = .inl (v2, p2)) : F_X4_readNumber 1 (nI D) (nI lo) (nI hi) (y4 s (nI pos) (-1)) = some (nI v2, y4 s (nI p2) (-1)) := by
  rw [pF_numH h1 hD]
  have q := (pL_num (KK := fun (zz3 : Int32) (σ4 : xS) => some (zz3, σ4)) hD hhi hlo D 0 pos 1000 s (Nat.le_refl _) (by omega) (fun _ => by
    have h3 : D = 1 ∨ D = 2 ∨ D = 3 := by omega
    rcases h3 with h | h | h <;> subst h <;> decide) (fun _ => rfl) hT (by omega)).1 v2 p2 h
  rw [Nat.sub_self] at q
  exact q
theorem pF_num_er {D e pos : Nat} {s : xS} (h1 : 1 ≤ D) (hD : D ≤ 3) (hhi : hi < 1000) (hlo : lo < 1000) (hT : yTx s n c) (hp : pos < 2 ^ 19) (h : pNm n c lo hi D 0 pos = .inr e) : ∃ x, F_X4_readNumber 1 (nI D) (nI lo) (nI hi) (y4 s (nI pos) (-1)) = some (x, y4 s (nI (e + 1)) (nI e)) := by
  rw [pF_numH h1 hD]
  obtain ⟨x, q⟩ := (pL_num (KK := fun (zz3 : Int32) (σ4 : xS) => some (zz3, σ4)) hD hhi hlo D 0 pos 1000 s (Nat.le_refl _) (by omega) (fun _ => by
    have h3 : D = 1 ∨ D = 2 ∨ D = 3 := by omega
    rcases h3 with h | h | h <;> subst h <;> decide) (fun _ => rfl) hT (by omega)).2 e h
  rw [Nat.sub_self] at q
  exact ⟨x, q⟩
theorem pF_num_sk {D e : Nat} {s : xS} {pl : Int32} (h1 : 1 ≤ D) (hD : D ≤ 3) (he : e < 2 ^ 31) : F_X4_readNumber 1 (nI D) (nI lo) (nI hi) (y4 s pl (nI e)) = some (0, y4 s pl (nI e)) := by
  rw [pF_numH h1 hD]
  show L_X4_readNumber_31 1 (nI D) (nI lo) (nI hi) (fun (zz3 : Int32) (σ4 : xS) => some (zz3, σ4)) (999 + 1) 0 (nI (tU D)) (nI 0) (y4 s pl (nI e)) = _
  rw [L_X4_readNumber_31, if_neg (nI_ge (by omega) (by omega)), if_pos (by rw [y4_3]; exact nI_nm1 he)]
theorem pNm_pos : ∀ (d v pos : Nat), (∀ v2 p2, pNm n c lo hi d v pos = .inl (v2, p2) → p2 = pos + d ∧ (0 < d → p2 ≤ n) ∧ (0 < d → lo ≤ v2 ∧ v2 ≤ hi)) ∧ (∀ e, pNm n c lo hi d v pos = .inr e → pos ≤ e ∧ e < pos + d) := by
  intro d
  induction d with
  | zero =>
    intro v pos
    constructor
    · intro v2 p2 h
      obtain ⟨rfl, rfl⟩ := Prod.mk.inj (Sum.inl.inj h)
      exact ⟨rfl, fun q => absurd q (by omega), fun q => absurd q (by omega)⟩
    · intro e h
      exact absurd h (by simp [pNm])
  | succ d ih =>
    intro v pos
    rw [pNm]
    by_cases hc : pos < n ∧ 48 ≤ c pos ∧ c pos ≤ 57 ∧ (v * 10 + (c pos - 48)) * tU d ≤ hi ∧ lo ≤ (v * 10 + (c pos - 48)) * tU d + tU d - 1
    · rw [if_pos hc]
      obtain ⟨i1, i2⟩ := ih (v * 10 + (c pos - 48)) (pos + 1)
      constructor
      · intro v2 p2 h
        obtain ⟨a1, a2, a3⟩ := i1 v2 p2 h
        by_cases h0 : d = 0
        · subst h0
          obtain ⟨rfl, rfl⟩ := Prod.mk.inj (Sum.inl.inj h)
          have e1 : tU 0 = 1 := rfl
          rw [e1] at hc
          exact ⟨by omega, fun _ => by omega, fun _ => by omega⟩
        · exact ⟨by omega, fun _ => a2 (by omega), fun _ => a3 (by omega)⟩
      · intro e h
        have := i2 e h
        omega
    · rw [if_neg hc]
      constructor
      · intro v2 p2 h; exact absurd h (by simp)
      · intro e h
        obtain rfl := Sum.inr.inj h
        omega
/-! the reference's -/
def uL (d : Nat) : Nat := if d = 0 then 0 else tU (d - 1)
theorem pL_fig {D : Nat} {ah : Int32} {K4 : xS → Option (Int32 × xS)} {K8 : Int32 → xS → Option (Int32 × xS)} (hah : ¬ ah = -1) (hhi : hi < 1000) (hlo : lo < 1000) (hD : D ≤ 3) : ∀ (d v pos fuel : Nat) (s : xS), d ≤ D → d < fuel → (d < 3 → v < tU (3 - d)) → (d = 3 → v = 0) → yTm s n c → pos + d < 2 ^ 20 → (∀ v2 p2, pNm n c lo hi d v pos = .inl (v2, p2) → L_X6_figures_26 824 ah (nI lo) (nI hi) K4 K8 fuel (nI (v * tU d)) (nI (uL d)) (xu s 824 10 (nI pos)) = K8 (nI v2) (xu s 824 10 (nI p2))) ∧ (∀ e, pNm n c lo hi d v pos = .inr e → L_X6_figures_26 824 ah (nI lo) (nI hi) K4 K8 fuel (nI (v * tU d)) (nI (uL d)) (xu s 824 10 (nI pos)) = K4 (xu s 824 10 (nI e))) := by
  intro d
  induction d with
  | zero =>
    intro v pos fuel s hd hf hv hv3 hT hp
    obtain ⟨g, rfl⟩ : ∃ g, fuel = g + 1 := ⟨fuel - 1, by omega⟩
    constructor
    · intro v2 p2 e
      obtain ⟨rfl, rfl⟩ := Prod.mk.inj (Sum.inl.inj e)
      rw [L_X6_figures_26, if_pos (show nI (uL 0) ≤ 0 by decide), show v * tU 0 = v from Nat.mul_one v]
    · intro e he
      exact absurd he (by simp [pNm])
  | succ d ih =>
    intro v pos fuel s hd hf hv hv3 hT hp
    obtain ⟨g, rfl⟩ : ∃ g, fuel = g + 1 := ⟨fuel - 1, by omega⟩
    have h3 : d = 0 ∨ d = 1 ∨ d = 2 := by omega
    have hu : uL (d + 1) = tU d := by unfold uL; rw [if_neg (by omega)]; rfl
    have hu0 : ¬ nI (tU d) ≤ 0 := by rcases h3 with h | h | h <;> subst h <;> decide
    have hdiv : nI (tU d) / 10 = nI (uL d) := by rcases h3 with h | h | h <;> subst h <;> decide
    have s10 : (xu s 824 10 (nI pos)) 824 10 = nI pos := by rw [xu_same, up_s]
    have s2 : (xu s 824 10 (nI pos)) 824 2 = nI n := by rw [xu_same, up_n (by decide), hT.2.1]
    have hn := hT.1
    by_cases hpn : pos < n
    · have e25 : (xu s 824 10 (nI pos)) (824 + 1) pos = nI (c pos) := by rw [xu_other (by decide)]; exact (hT.2.2 pos hpn).1
      have hc255 := (hT.2.2 pos hpn).2
      have hin : ¬ nI n ≤ nI pos := nI_ge hpn (by omega)
      have hx : xin (nI pos) 120 = true := xin_nI (by omega) (by decide)
      have hcl : (nI pos).toNatClampNeg = pos := nI_clamp (by omega)
      have i9 : ∀ (x : Int32) (s : xS), F_X6_in x.toInt64 0 9 s = some (if x < 0 ∨ 9 < x then 0 else 1, s) := fun x s => pR_in (a := 0) (b := 9)
      by_cases hdig : 48 ≤ c pos ∧ c pos ≤ 57
      · obtain ⟨h48, h57⟩ := hdig
        obtain ⟨v', hv'⟩ : ∃ y, y = v * 10 + (c pos - 48) := ⟨_, rfl⟩
        have ed : nI (c pos) - 48 = nI (c pos - 48) := pk_sub (b := 48) h48
        have ez : nI (v * tU (d + 1)) + nI (c pos - 48) * nI (tU d) = nI (v' * tU d) := by
          rw [pk_mul, nI_add, hv']
          refine congrArg nI ?_
          rcases h3 with h | h | h <;> subst h <;> simp [tU] <;> omega
        have hvb : v' * tU d < 1000 ∧ (d < 3 → v' < tU (3 - d)) ∧ tU d ≤ 100 ∧ 1 ≤ tU d := by
          rcases h3 with h | h | h <;> subst h
          · have := hv (by decide); simp [tU] at this ⊢; omega
          · have := hv (by decide); simp [tU] at this ⊢; omega
          · have := hv3 rfl; simp [tU] at this ⊢; omega
        have i1 : ∀ s, F_X6_in (nI (c pos - 48)).toInt64 0 9 s = some (1, s) := fun s => by
          rw [i9, if_neg]
          intro q
          rcases q with q | q
          · exact nI_pos (by omega) q
          · exact nI_nlt (a := 9) (b := c pos - 48) (by omega) (by decide) q
        have e2 : nI (v' * tU d) + nI (tU d) - 1 = nI (v' * tU d + tU d - 1) := by rw [nI_add, nI_s1 (by omega)]
        by_cases hr : v' * tU d ≤ hi ∧ lo ≤ v' * tU d + tU d - 1
        · have ep : pNm n c lo hi (d + 1) v pos = pNm n c lo hi d v' (pos + 1) := by
            rw [pNm, if_pos ⟨hpn, h48, h57, by rw [← hv']; exact hr.1, by rw [← hv']; exact hr.2⟩, ← hv']
          have er : L_X6_figures_26 824 ah (nI lo) (nI hi) K4 K8 (g + 1) (nI (v * tU (d + 1))) (nI (uL (d + 1))) (xu s 824 10 (nI pos)) = L_X6_figures_26 824 ah (nI lo) (nI hi) K4 K8 g (nI (v' * tU d)) (nI (uL d)) (xu s 824 10 (nI (pos + 1))) := by
            rw [L_X6_figures_26, hu, if_neg hu0, if_neg hah]
            simp only [xjn_s, s2, s10, hx, hcl, if_true, xlet_s, e25, ed, ez, i1, xbI_s]
            rw [if_neg hin, if_neg (by decide), if_neg (nI_nlt hr.1 (by omega)), e2, if_pos (nI_le hr.2 (by omega)), hdiv, xu_xu, nI_1]
          rw [ep, er]
          exact ih v' (pos + 1) g s (by omega) (by omega) hvb.2.1 (fun q => absurd q (by omega)) hT (by omega)
        · have ep : pNm n c lo hi (d + 1) v pos = .inr pos := by
            rw [pNm, if_neg (fun q => hr ⟨by rw [hv']; exact q.2.2.2.1, by rw [hv']; exact q.2.2.2.2⟩)]
          rw [ep]
          refine ⟨fun v2 p2 e => absurd e (by simp), fun e he => ?_⟩
          obtain rfl := Sum.inr.inj he
          rw [L_X6_figures_26, hu, if_neg hu0, if_neg hah]
          simp only [xjn_s, s2, s10, hx, hcl, if_true, xlet_s, e25, ed, ez, i1, xbI_s]
          rw [if_neg hin, if_neg (by decide)]
          by_cases h1 : v' * tU d ≤ hi
          · rw [if_neg (nI_nlt h1 (by omega)), e2, if_neg (nI_ge (by omega) (by omega))]
          · rw [if_pos (nI_lt (by omega) (by omega))]
      · have ep : pNm n c lo hi (d + 1) v pos = .inr pos := by
          rw [pNm, if_neg (fun q => hdig ⟨q.2.1, q.2.2.1⟩)]
        rw [ep]
        refine ⟨fun v2 p2 e => absurd e (by simp), fun e he => ?_⟩
        obtain rfl := Sum.inr.inj he
        have i0 : ∀ s, F_X6_in (nI (c pos) - 48).toInt64 0 9 s = some (0, s) := fun s => by
          rw [i9, if_pos]
          by_cases h48 : 48 ≤ c pos
          · refine Or.inr ?_
            rw [show nI (c pos) - 48 = nI (c pos - 48) from pk_sub (b := 48) h48]
            exact nI_lt (a := 9) (b := c pos - 48) (by omega) (by omega)
          · exact Or.inl (pk_sneg (a := c pos) (b := 48) (by decide) (by omega))
        rw [L_X6_figures_26, hu, if_neg hu0, if_neg hah]
        simp only [xjn_s, s2, s10, hx, hcl, if_true, xlet_s, e25, i0, xbI_s]
        rw [if_neg hin]
    · have ep : pNm n c lo hi (d + 1) v pos = .inr pos := by
        rw [pNm, if_neg (fun q => hpn q.1)]
      rw [ep]
      refine ⟨fun v2 p2 e => absurd e (by simp), fun e he => ?_⟩
      obtain rfl := Sum.inr.inj he
      have i0 : ∀ s, F_X6_in ((-1 : Int32)).toInt64 0 9 s = some (0, s) := fun s => by
        rw [show F_X6_in ((-1 : Int32)).toInt64 0 9 s = _ from pR_in (a := 0) (b := 9), if_pos (by decide)]
      rw [L_X6_figures_26, hu, if_neg hu0, if_neg hah]
      simp only [xjn_s, s2, s10, xlet_s, i0, xbI_s]
      rw [if_pos (nI_le (by omega) (by omega))]
      rfl
theorem pF_figH {D : Nat} {ah : Int32} {s : xS} (h1 : 1 ≤ D) (hD : D ≤ 3) (hah : ¬ ah = -1) : F_X6_figures 824 ah (nI D) (nI lo) (nI hi) s = L_X6_figures_26 824 ah (nI lo) (nI hi) (fun (σ3 : xS) => some ((-1 : Int32), σ3)) (fun (zz6 : Int32) (σ7 : xS) => some (zz6, σ7)) 1000 0 (nI (uL D)) s := by
  unfold F_X6_figures
  simp only [if_pos hah]
  rw [xjn_s]
  have h3 : D = 1 ∨ D = 2 ∨ D = 3 := by omega
  rcases h3 with h | h | h <;> subst h
  · rw [if_pos (by decide), if_pos (by decide)]; rfl
  · rw [if_pos (by decide), if_neg (by decide)]; rfl
  · rw [if_neg (by decide)]; rfl
theorem pF_fig {D pos : Nat} {ah : Int32} {s : xS} (h1 : 1 ≤ D) (hD : D ≤ 3) (hhi : hi < 1000) (hlo : lo < 1000) (hT : yTm s n c) (hp : pos < 2 ^ 19) (hah : ¬ ah = -1) : (∀ v2 p2, pNm n c lo hi D 0 pos = .inl (v2, p2) → F_X6_figures 824 ah (nI D) (nI lo) (nI hi) (xu s 824 10 (nI pos)) = some (nI v2, xu s 824 10 (nI p2))) ∧ (∀ e, pNm n c lo hi D 0 pos = .inr e → F_X6_figures 824 ah (nI D) (nI lo) (nI hi) (xu s 824 10 (nI pos)) = some (-1, xu s 824 10 (nI e))) := by
  rw [pF_figH h1 hD hah]
  have q := pL_fig (K4 := fun (σ3 : xS) => some ((-1 : Int32), σ3)) (K8 := fun (zz6 : Int32) (σ7 : xS) => some (zz6, σ7)) hah hhi hlo hD D 0 pos 1000 s (Nat.le_refl _) (by omega) (fun _ => by
    have h3 : D = 1 ∨ D = 2 ∨ D = 3 := by omega
    rcases h3 with h | h | h <;> subst h <;> decide) (fun _ => rfl) hT (by omega)
  rw [Nat.zero_mul] at q
  exact q
theorem pF_fig_sk {D : Nat} {s : xS} (h1 : 1 ≤ D) (hD : D ≤ 3) : F_X6_figures 824 (-1) (nI D) (nI lo) (nI hi) s = some (-1, s) := by
  have go : ∀ u : Nat, L_X6_figures_26 824 (-1) (nI lo) (nI hi) (fun (σ3 : xS) => some ((-1 : Int32), σ3)) (fun (zz6 : Int32) (σ7 : xS) => if ¬ (-1 : Int32) = ((-1)) then (some (zz6, σ7)) else (some ((-1 : Int32), σ7))) (999 + 1) 0 (nI u) s = some (-1, s) := fun u => by
    rw [L_X6_figures_26]
    by_cases h : nI u ≤ 0
    · rw [if_pos h, if_neg (by decide)]
    · rw [if_neg h, if_pos rfl, if_neg (by decide)]
  unfold F_X6_figures
  rw [xjn_s]
  have h3 : D = 1 ∨ D = 2 ∨ D = 3 := by omega
  rcases h3 with h | h | h <;> subst h
  · rw [if_pos (by decide), if_pos (by decide)]; exact go 1
  · rw [if_pos (by decide), if_neg (by decide)]; exact go 10
  · rw [if_neg (by decide)]; exact go 100
end PF
