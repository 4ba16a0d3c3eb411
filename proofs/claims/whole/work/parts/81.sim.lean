def nxt (x : Int64) : Int64 := (x * 6364136223846793005) + 1442695040888963407
def shf (x : Int64) : Int32 := ((x.toUInt64 >>> ((33 : Int32).toInt64.toUInt64 &&& Int64.toUInt64 63)).toInt64).toInt32
theorem nxt_d (x : Int64) : (x * 6364136223846793005) + 1442695040888963407 = nxt x := by unfold nxt; exact rfl
theorem shf_d (x : Int64) : ((x.toUInt64 >>> ((33 : Int32).toInt64.toUInt64 &&& Int64.toUInt64 63)).toInt64).toInt32 = shf x := by unfold shf; exact rfl
def rSimG (nx : Int64 → Int64) (tn : Int64 → (Nat → Int32) → (Nat → Int32)) : Nat → Int64 → (Nat → Int32) → (Nat → Int32)
  | 0, _, r => r
  | q + 1, x, r => rSimG nx tn q (nx x) (tn (nx x) r)
theorem rSimG_0 {nx : Int64 → Int64} {tn : Int64 → (Nat → Int32) → (Nat → Int32)} {x : Int64} {r : Nat → Int32} : rSimG nx tn 0 x r = r := by rw [rSimG]
theorem rSimG_s {nx : Int64 → Int64} {tn : Int64 → (Nat → Int32) → (Nat → Int32)} {q : Nat} {x : Int64} {r : Nat → Int32} : rSimG nx tn (q + 1) x r = rSimG nx tn q (nx x) (tn (nx x) r) := by rw [rSimG]
def rTx (y : Int64) (r : Nat → Int32) : Nat → Int32 := rTn (mN (shf y)) r
theorem rTx_d {y : Int64} {r : Nat → Int32} : rTx y r = rTn (mN (shf y)) r := by rw [rTx]
def rSim (q : Nat) (x : Int64) (r : Nat → Int32) : Nat → Int32 := rSimG nxt rTx q x r
theorem rSim_d {q : Nat} {x : Int64} {r : Nat → Int32} : rSim q x r = rSimG nxt rTx q x r := by rw [rSim]
theorem rSim_0 {x : Int64} {r : Nat → Int32} : rSim 0 x r = r := by rw [rSim_d, rSimG_0]
theorem rSim_s {q : Nat} {x : Int64} {r : Nat → Int32} : rSim (q + 1) x r = rSim q (nxt x) (rTn (mN (shf (nxt x))) r) := by rw [rSim_d, rSimG_s, rTx_d, ← rSim_d]
theorem shf_n (x : Int64) : mN (shf x) < 2 ^ 31 ∧ shf x = nI (mN (shf x)) := by
  obtain ⟨q, hq, e⟩ := y_shift x
  rw [shf_d] at e
  rw [e, mN_nI hq]
  exact ⟨hq, rfl⟩
theorem pO_turn {x T W : Nat} {r : Nat → Int32} (hO : yO r T W) (hT : T < 89000) (hW : W < 2 ^ 23) : yO (rTn x r) (T + 99) (W + 7200) := by
  unfold rTn
  by_cases c1 : x % 8 < 3
  · rw [if_pos c1]; exact pO_do hO (by omega) (by omega) (Or.inl ⟨rfl, by omega, by omega, by omega⟩)
  rw [if_neg c1]
  by_cases c3 : x % 8 = 3
  · rw [if_pos c3]; exact pO_do hO (by omega) (by omega) (Or.inr (Or.inl ⟨rfl, by omega, by omega, by omega, by omega, by omega⟩))
  rw [if_neg c3]
  by_cases c4 : x % 8 = 4
  · rw [if_pos c4]
    by_cases c5 : x / 8 / 8 % 3 = 0
    · rw [if_pos c5]; exact pO_do hO (by omega) (by omega) (Or.inr (Or.inr (Or.inl ⟨rfl, by omega, by omega⟩)))
    · rw [if_neg c5]; exact pO_do hO (by omega) (by omega) (Or.inr (Or.inr (Or.inr (Or.inl ⟨rfl, by omega⟩))))
  · rw [if_neg c4]; exact pO_do hO (by omega) (by omega) (Or.inr (Or.inr (Or.inr (Or.inr ⟨rfl, by omega, by omega⟩))))
theorem pL_sim5 {M : Nat} {KK : xS → Option xR} (hM : M ≤ 60) : ∀ (q i fuel T W : Nat) (x : Int64) (r : Nat → Int32) (σ : xS), i + q = M → q < fuel → yS σ (0 + 652) r T W → T + 99 * q < 89000 → W + 7200 * q < 2 ^ 23 → ∃ z, L_X5_simulate_28 0 (nI M) KK fuel x (nI i) σ = KK z ∧ xfr σ z 652 695 ∧ yS z (0 + 652) (rSim q x r) (T + 99 * q) (W + 7200 * q) := by
  intro q
  induction q with
  | zero =>
    intro i fuel T W x r σ hi hf hS hT hW
    obtain ⟨g, rfl⟩ : ∃ g, fuel = g + 1 := ⟨fuel - 1, by omega⟩
    exact ⟨σ, by rw [L_X5_simulate_28, if_pos (nI_le (by omega) (by omega))], xfr.refl, by rw [rSim_0]; exact hS⟩
  | succ q ih =>
    intro i fuel T W x r σ hi hf hS hT hW
    obtain ⟨g, rfl⟩ : ∃ g, fuel = g + 1 := ⟨fuel - 1, by omega⟩
    obtain ⟨s1, s2⟩ := shf_n (nxt x)
    obtain ⟨z, e1, e2, e3⟩ := pC_turn s1 hS (by omega) (by omega)
    rw [← s2] at e1
    obtain ⟨z2, f1, f2, f3⟩ := ih (i + 1) g (T + 99) (W + 7200) (nxt x) _ z (by omega) (by omega) e3 (by omega) (by omega)
    refine ⟨z2, ?_, e2.trans f2, ?_⟩
    · rw [L_X5_simulate_28, if_neg (nI_ge (by omega) (by omega)), xlet_s, nxt_d, shf_d, e1, xbV_s, xlet_s, nI_1]
      exact f1
    · rw [rSim_s, show T + 99 * (q + 1) = T + 99 + 99 * q by omega, show W + 7200 * (q + 1) = W + 7200 + 7200 * q by omega]
      exact f3
theorem pL_sim6 {M : Nat} {KK : xS → Option (Int32 × xS)} (hM : M ≤ 60) {s : xS} : ∀ (q i fuel T W : Nat) (x : Int64) (r : Nat → Int32), i + q = M → q < fuel → yO r T W → T + 99 * q < 89000 → W + 7200 * q < 2 ^ 23 → L_X6_simulate_45 824 (nI M) KK fuel x (nI i) (xset s (824 + 3) r) = KK (xset s (824 + 3) (rSim q x r)) := by
  intro q
  induction q with
  | zero =>
    intro i fuel T W x r hi hf hS hT hW
    obtain ⟨g, rfl⟩ : ∃ g, fuel = g + 1 := ⟨fuel - 1, by omega⟩
    rw [L_X6_simulate_45, if_pos (nI_le (by omega) (by omega)), rSim_0]
  | succ q ih =>
    intro i fuel T W x r hi hf hS hT hW
    obtain ⟨g, rfl⟩ : ∃ g, fuel = g + 1 := ⟨fuel - 1, by omega⟩
    obtain ⟨s1, s2⟩ := shf_n (nxt x)
    have e1 := pM_turn (s := xset s (824 + 3) r) s1 (by rw [xset_same]; exact hS) (by omega) (by omega)
    rw [← s2, xset_same, xset_xset] at e1
    rw [L_X6_simulate_45, if_neg (nI_ge (by omega) (by omega)), xlet_s, nxt_d, shf_d, e1, xbV_s, xlet_s, nI_1, rSim_s]
    exact ih (i + 1) g (T + 99) (W + 7200) (nxt x) _ (by omega) (by omega) (pO_turn hS (by omega) (by omega)) (by omega) (by omega)
theorem y_simulate {T W : Nat} {σ : xS} (h : yR T W σ) (hT : T < 80000) (hW : W < 6000000) (x : Int64) (n : Int32) : yC T W (F_L_simulate 0 x n 832) (F_X6_simulate 824 x n) σ := by
  rcases rng n 1 60 (by decide) (by decide) with ⟨M, hM1, hM, rfl⟩ | hn
  · have hF : F_X5_isWithin (nI M) 1 60 σ = some (1, σ) := pF_wiN (a := 1) (b := 60) hM1 hM (by decide)
    have hI : ∀ s : xS, F_X6_in (nI M).toInt64 1 60 s = some (1, s) := fun s => pR_inN (a := 1) (b := 60) hM1 hM (by decide)
    obtain ⟨r, hr⟩ : ∃ y, y = rCp (σ 826) (σ 827) 0 0 187 := ⟨_, rfl⟩
    have hr187 : ∀ i, i < 187 → r i = σ 826 i := fun i hi => by rw [hr]; exact rCp0 i hi
    have hSr : yS σ (0 + 3) r T W := (show yS σ (0 + 3) (σ 826) T W from h.1).c187 hr187
    obtain ⟨z, c1, c2, c3⟩ := hSr.copy (p := 0 + 652) (by omega)
    obtain ⟨KK, hKK⟩ : ∃ K, K = (fun (σ6 : xS) => xbI (F_X3_sumOfWriters (0 + 652) 4 σ6) (fun (zz8 : Int32) (σ7 : xS) => xbI (F_X3_sumOfWriters (0 + 3) 4 σ7) (fun (zz10 : Int32) (σ9 : xS) => xlet (zz8 - zz10) (fun (zz11 : Int32) => xbI (F_X3_sumOfWriters (0 + 652) 5 σ9) (fun (zz13 : Int32) (σ12 : xS) => xbI (F_X3_sumOfWriters (0 + 3) 5 σ12) (fun (zz15 : Int32) (σ14 : xS) => xlet (zz13 - zz15) (fun (zz16 : Int32) => xlet (if 999 < zz11 then 999 else zz11) (fun (zz17 : Int32) => xlet (if 9999 < zz16 then 9999 else zz16) (fun (zz18 : Int32) => (some (0, ((10000 * zz17) + zz18), σ14) : Option xR)))))))))) := ⟨_, rfl⟩
    obtain ⟨z2, d1, d2, d3⟩ := pL_sim5 (M := M) (KK := KK) hM M 0 1000 T W x r z (by omega) (by omega) c3 (by omega) (by omega)
    obtain ⟨r2, hr2⟩ : ∃ y, y = rSim M x r := ⟨_, rfl⟩
    rw [← hr2] at d3
    have fr : xfr σ z2 652 695 := (c2.sub (by omega) (by omega)).trans d2
    have sz : ySame σ z2 := ySame.fr (lo := 652) (hi := 695) fr (Or.inl ⟨by omega, by omega⟩)
    have hS3 : yS z2 (0 + 3) r T W := hSr.ex (fun i a b => fr i (by omega))
    obtain ⟨m, t, tr, wt, sg, ms, L, w, h1, -, -, hQ⟩ := hS3
    obtain ⟨m', t', tr', wt', sg', ms', L', w', h1', -, -, hQ'⟩ := d3
    have a1 : F_X3_sumOfWriters (0 + 652) 4 z2 = some (rS4 r2 3, z2) := pT_sum (w := 4) h1' hQ' (by decide)
    have a2 : F_X3_sumOfWriters (0 + 3) 4 z2 = some (rS4 r 3, z2) := pT_sum (w := 4) h1 hQ (by decide)
    have a3 : F_X3_sumOfWriters (0 + 652) 5 z2 = some (rS4 r2 4, z2) := pT_sum (w := 5) h1' hQ' (by decide)
    have a4 : F_X3_sumOfWriters (0 + 3) 5 z2 = some (rS4 r 4, z2) := pT_sum (w := 5) h1 hQ (by decide)
    obtain ⟨u, hu⟩ : ∃ y, y = rS4 r2 3 - rS4 r 3 := ⟨_, rfl⟩
    obtain ⟨hd, hhd⟩ : ∃ y, y = rS4 r2 4 - rS4 r 4 := ⟨_, rfl⟩
    obtain ⟨v, hv⟩ : ∃ y : Int32, y = (10000 * (if 999 < u then 999 else u)) + (if 9999 < hd then 9999 else hd) := ⟨_, rfl⟩
    have hKz : KK z2 = some (0, v, z2) := by
      rw [hKK]
      dsimp only
      rw [a1, xbI_s, a2, xbI_s, xlet_s, a3, xbI_s, a4, xbI_s, xlet_s, xlet_s, xlet_s, ← hu, ← hhd, hv]
    rw [hKz] at d1
    rw [hKK] at d1
    obtain ⟨s, hs⟩ : ∃ y, y = xu z2 832 0 v := ⟨_, rfl⟩
    have s826 : s 826 = σ 826 := by rw [hs, xu_other (by decide), sz.1 826 (by omega)]
    have s827 : s 827 = σ 827 := by rw [hs, xu_other (by decide), fr 827 (by omega)]
    have cp := pS_cp (s := xu s 824 0 0) (f := σ 826) (g := σ 827) (by rw [xu_other (by decide)]; exact s826) (by rw [xu_other (by decide)]; exact s827)
    rw [← hr] at cp
    have b826 : (xset (xu s 824 0 0) (824 + 3) r2) (824 + 2) = σ 826 := by rw [xset_other (by decide), xu_other (by decide)]; exact s826
    have hOK26 : rOK ((xset (xu s 824 0 0) (824 + 3) r2) (824 + 2)) m t tr wt sg ms L (rLo 0 m (t + 1)) w := by
      rw [b826]; exact h1.c187 (fun i hi => (hr187 i hi).symm)
    have e26 : ∀ k, rS4 (σ 826) k = rS4 r k := fun k => rS4_cg (fun j hj => congrFun (rRow_187 hr187 hj).symm k)
    have b1 : F_X6_sum 187 (824 + 3) 3 (xset (xu s 824 0 0) (824 + 3) r2) = some (rS4 r2 3, xset (xu s 824 0 0) (824 + 3) r2) := pR_sum (w := 3) h1' (by decide) (by decide)
    have b2 : F_X6_sum 187 (824 + 2) 3 (xset (xu s 824 0 0) (824 + 3) r2) = some (rS4 r 3, xset (xu s 824 0 0) (824 + 3) r2) := by
      have q := pS_sum (w := 3) hOK26 (by decide) (by decide)
      rw [b826, e26] at q
      exact q
    have b3 : F_X6_sum 187 (824 + 3) 4 (xset (xu s 824 0 0) (824 + 3) r2) = some (rS4 r2 4, xset (xu s 824 0 0) (824 + 3) r2) := pR_sum (w := 4) h1' (by decide) (by decide)
    have b4 : F_X6_sum 187 (824 + 2) 4 (xset (xu s 824 0 0) (824 + 3) r2) = some (rS4 r 4, xset (xu s 824 0 0) (824 + 3) r2) := by
      have q := pS_sum (w := 4) hOK26 (by decide) (by decide)
      rw [b826, e26] at q
      exact q
    refine yC_ahead (z := z2) (v := v) (σ2 := xset (xu s 824 0 0) (824 + 3) r2) h ?_ sz ?_ trial0 (by rw [trial8, hs]) (by rw [← hs]; exact ySame.trial)
    · unfold F_L_simulate F_X5_simulate
      rw [hF, xbI_s, F5_dem1, xbT_0, c1, xbV_s]
      rw [show L_X5_simulate_28 0 (nI M) _ 1000 x 0 z = _ from d1, xbH_0, if_pos xin01, xlet_s, cl0]
    · rw [← hs]
      have u1 := pL_sim6 (KK := (fun (σ8 : xS) => xbI (F_X6_sum 187 (824 + 3) 3 σ8) (fun (zz10 : Int32) (σ9 : xS) => xbI (F_X6_sum 187 (824 + 2) 3 σ9) (fun (zz12 : Int32) (σ11 : xS) => xlet (zz10 - zz12) (fun (zz13 : Int32) => xbI (F_X6_sum 187 (824 + 3) 4 σ11) (fun (zz15 : Int32) (σ14 : xS) => xbI (F_X6_sum 187 (824 + 2) 4 σ14) (fun (zz17 : Int32) (σ16 : xS) => xlet (zz15 - zz17) (fun (zz18 : Int32) => xjn (fun (zz19 : Int32) (σ20 : xS) => if zz18 ≤ 9999 then (some (((10000 * zz19) + zz18), σ20)) else (some (((10000 * zz19) + 9999), σ20))) (fun (KK21 : Int32 → xS → Option (Int32 × xS)) => if zz13 ≤ 999 then (KK21 zz13 σ16) else (KK21 999 σ16)))))))))) hM (s := xu s 824 0 0) M 0 1000 T W x r (by omega) (by omega) hSr.o (by omega) (by omega)
      rw [← hr2] at u1
      unfold F_X6_simulate
      rw [hI, xbI_s, xjn_s, if_neg (show ¬ (1 : Int32) = 0 by decide)]
      dsimp only
      rw [pR_ref0, xbI_s, if_pos (show (0 : Int32) = 0 from rfl), cp, xbV_s]
      refine (show _ = _ from u1).trans ?_
      try dsimp only
      rw [b1, xbI_s, b2, xbI_s, xlet_s, b3, xbI_s, b4, xbI_s, xlet_s, xjn_s, ← hu, ← hhd, hv]
      by_cases q1 : u ≤ 999
      · rw [if_pos q1, if_neg (Int32.not_lt.mpr q1)]
        dsimp only
        by_cases q2 : hd ≤ 9999
        · rw [if_pos q2, if_neg (Int32.not_lt.mpr q2)]
        · rw [if_neg q2, if_pos (Int32.not_le.mp q2)]
      · rw [if_neg q1, if_pos (Int32.not_le.mp q1)]
        dsimp only
        by_cases q2 : hd ≤ 9999
        · rw [if_pos q2, if_neg (Int32.not_lt.mpr q2)]
        · rw [if_neg q2, if_pos (Int32.not_le.mp q2)]
  · refine yC_thr (c := 1) (b := 0) h ?_ ?_ (by decide)
    · unfold F_L_simulate F_X5_simulate
      rw [pF_within2, if_pos (show n < 1 ∨ 60 < n from hn), xbI_s, F5_dem02, xbT_2, xbH_2, if_pos (by decide)]
    · unfold F_X6_simulate
      rw [show F_X6_in n.toInt64 1 60 σ = _ from pR_in (a := 1) (b := 60), if_pos (show n < 1 ∨ 60 < n from hn), xbI_s, xjn_s, if_pos (show (0 : Int32) = 0 from rfl)]; dsimp only; rw [pR_ref1, xbI_s, if_neg (by decide)]
