/-! SCRIPTS: a command, five digits -/
def rCm (h k th : Nat) (r : Nat → Int32) : Bool × (Nat → Int32) :=
  if h = 1 then (if 1 ≤ th ∧ th ≤ 500 ∧ k ≤ 3 then rDo 1 k th 0 r else (false, r))
  else if h = 2 then (if k = 0 ∧ 1 ≤ th ∧ th ≤ 99 then rDo 5 th 0 0 r else (false, r))
  else if h = 3 then (if th ≤ 1 ∧ k ≤ 3 then rDo 3 k th 0 r else (false, r))
  else if h = 4 then (if th = 0 ∧ k ≤ 3 then rDo 4 k 0 0 r else (false, r))
  else if h = 5 then (if (k = 0 ∧ 1 ≤ th ∧ th ≤ 9) ∨ (k = 1 ∧ th ≤ 20) ∨ (k = 2 ∧ 4 ≤ th ∧ th ≤ 99) ∨ (k = 3 ∧ 1 ≤ th ∧ th ≤ 6) then (true, rSet r k (nI th)) else (false, r))
  else if h = 6 then (decide (th < 100 ∧ k < mN (r 0) ∧ rRow r k 6 ≤ nI th), r)
  else if h = 7 then (decide (k < mN (r 0) ∧ rRow r k 0 ≤ nI th), r)
  else if h = 8 then (decide (k < mN (r 0)) && (rFst (rTick 0 (mN (r 0))) (rDn k) (if 400 < th then 400 else th) r).isSome, r)
  else if h = 9 then (decide (k = 0 ∧ th < 100 ∧ rS4 r 12 ≤ nI th), r)
  else (false, r)
theorem nm1B {v : Int32} {b : Bool} (h : v = -1 ↔ b = false) (σ : xS) : (if v = (-1) then some ((0 : Int32), σ) else some ((1 : Int32), σ)) = some (if b = true then 1 else 0, σ) := by
  cases b with
  | false => rw [if_pos (h.mpr rfl)]; rfl
  | true => rw [if_neg (fun q => Bool.noConfusion (h.mp q))]; rfl
theorem decB {p : Prop} [Decidable p] (σ : xS) : (if p then some ((1 : Int32), σ) else some ((0 : Int32), σ)) = some (if decide p = true then 1 else 0, σ) := by
  by_cases h : p
  · rw [if_pos h, if_pos (decide_eq_true h)]
  · rw [if_neg h, if_neg (fun q => h (of_decide_eq_true q))]
theorem pC_cmd {σ : xS} {r : Nat → Int32} {T W g : Nat} (hg : g < 100000) (hS : yS σ (0 + 652) r T W) (hT : T < 89000) (hW : W < 2 ^ 23) : ∃ z, F_X5_doesCommand 0 (nI g) σ = some (if (rCm (g / 10000) (g / 1000 % 10) (g % 1000) r).1 = true then 1 else 0, z) ∧ xfr σ z 652 738 ∧ yS z (0 + 652) (rCm (g / 10000) (g / 1000 % 10) (g % 1000) r).2 (T + 99) (W + 7200) := by
  obtain ⟨m, t, tr, wt, sz, ms, L, w, h1, ht, hw, hQ⟩ := id hS
  have hm4 := h1.m4
  have hL8 := h1.L8
  have em := h1.mm
  have keep : yS σ (0 + 652) r (T + 99) (W + 7200) := hS.mono (by omega) (by omega)
  obtain ⟨h, hh⟩ : ∃ y, y = g / 10000 := ⟨_, rfl⟩
  obtain ⟨k, hk⟩ : ∃ y, y = g / 1000 % 10 := ⟨_, rfl⟩
  obtain ⟨th, hth⟩ : ∃ y, y = g % 1000 := ⟨_, rfl⟩
  have e1 : nI g / 1000 = nI (g / 1000) := pk_div (d := 1000) (by omega) (by decide) (by decide)
  have e2 : nI g / 1000 - nI g / 1000 / 10 * 10 = nI k := by
    rw [e1, show (10 : Int32) = nI 10 from rfl, pk_rem (by omega) (by decide) (by decide), hk]
  have e3 : nI g - nI g / 1000 * 1000 = nI th := by
    rw [show (1000 : Int32) = nI 1000 from rfl, pk_rem (by omega) (by decide) (by decide), hth]
  have e4 : nI g - nI g / 100 * 100 = nI (g % 100) := by
    rw [show (100 : Int32) = nI 100 from rfl, pk_rem (by omega) (by decide) (by decide)]
  have e5 : nI g / 10000 = nI h := by rw [show (10000 : Int32) = nI 10000 from rfl, pk_div (by omega) (by decide) (by decide), hh]
  have hk9 : k ≤ 9 := by omega
  have hth9 : th ≤ 999 := by omega
  have hh9 : h ≤ 9 := by omega
  have l2 : th < 100 → g % 100 = th := fun q => by omega
  rw [← hh, ← hk, ← hth]
  have hcl : ∀ v : Nat, v < 10 → (nI h = nI v ↔ h = v) := fun v hv => nI_eq (by omega) (by omega)
  -- faultOfWriter
  obtain ⟨fw, hfw, hfw1⟩ : ∃ fw : Int32, F_X3_faultOfWriter (0 + 652) (nI k) σ = some (fw, σ) ∧ ((k < m ∧ fw = 0) ∨ (¬ k < m ∧ fw = 1)) := by
    by_cases c : k < m
    · exact ⟨0, pF_isWriter0 (hQ.1.1.trans h1.1.1) c hm4, Or.inl ⟨c, rfl⟩⟩
    · exact ⟨1, pF_isW0 (hQ.1.1.trans h1.1.1) (rBad_ge c (by omega)), Or.inr ⟨c, rfl⟩⟩
  obtain ⟨z3, hz3⟩ : ∃ y : Int32, y = if th < 100 then 1 else 0 := ⟨_, rfl⟩
  obtain ⟨zB, hzB⟩ : ∃ y : Int32, y = if th < 100 ∧ k = 0 then 1 else 0 := ⟨_, rfl⟩
  obtain ⟨zW, hzW⟩ : ∃ y : Int32, y = if k < m then 1 else 0 := ⟨_, rfl⟩
  have red : ∀ K : Int32 → Int32 → Int32 → xS → Option (Int32 × xS), xjn (fun (zz4 : Int32) (σ5 : xS) => xjn (fun (zz6 : Int32) (σ7 : xS) => xbI (F_X3_faultOfWriter (0 + 652) (nI k) σ7) (fun (zz9 : Int32) (σ8 : xS) => xjn (fun (zz10 : Int32) (σ11 : xS) => K zz4 zz6 zz10 σ11) (fun (KK39 : Int32 → xS → Option (Int32 × xS)) => if ¬ zz9 = 0 then (KK39 0 σ8) else (KK39 1 σ8)))) (fun (KK41 : Int32 → xS → Option (Int32 × xS)) => xjn (fun (σ43 : xS) => KK41 0 σ43) (fun (KK44 : xS → Option (Int32 × xS)) => if zz4 = 0 then (KK44 σ5) else (if ¬ nI k = 0 then (KK44 σ5) else (KK41 1 σ5))))) (fun (KK46 : Int32 → xS → Option (Int32 × xS)) => if 100 ≤ nI th then (KK46 0 σ) else (KK46 1 σ)) = K z3 zB zW σ := by
    intro K
    rw [xjn_s, hz3, hzB, hzW]
    have fin : ∀ a b : Int32, xbI (F_X3_faultOfWriter (0 + 652) (nI k) σ) (fun (zz9 : Int32) (σ8 : xS) => xjn (fun (zz10 : Int32) (σ11 : xS) => K a b zz10 σ11) (fun (KK39 : Int32 → xS → Option (Int32 × xS)) => if ¬ zz9 = 0 then (KK39 0 σ8) else (KK39 1 σ8))) = K a b (if k < m then 1 else 0) σ := by
      intro a b
      rw [hfw, xbI_s, xjn_s]
      rcases hfw1 with ⟨c, q⟩ | ⟨c, q⟩
      · rw [q, if_neg (fun p => p rfl), if_pos c]
      · rw [q, if_pos (by decide), if_neg c]
    by_cases c3 : th < 100
    · rw [if_neg (show ¬ (100 : Int32) ≤ nI th from nI_ge (a := th) (b := 100) c3 (by decide)), if_pos c3]
      dsimp only
      rw [xjn_s, xjn_s, if_neg (by decide)]
      by_cases c0 : k = 0
      · rw [if_neg (show ¬ ¬ nI k = 0 from fun q => q (by rw [c0]; rfl)), if_pos ⟨c3, c0⟩]
        exact fin 1 1
      · rw [if_pos (nI_ne0 (by omega) (by omega)), if_neg (fun q => c0 q.2)]
        exact fin 1 0
    · rw [if_pos (show (100 : Int32) ≤ nI th from nI_le (a := 100) (b := th) (by omega) (by omega)), if_neg c3, if_neg (fun q => c3 q.1)]
      dsimp only
      rw [xjn_s, xjn_s, if_pos rfl]
      exact fin 0 0
  unfold F_X5_doesCommand
  rw [xlet_s, xlet_s, xlet_s, e2, e3, e4, e5]
  refine (show ∃ z, _ = _ ∧ _ from ?_)
  rw [red (fun zz4 zz6 zz10 σ11 => if nI h = 1 then (xbI (F_X3_attempt (0 + 652) 1 (nI k) (nI th) 0 σ11) (fun (zz13 : Int32) (σ12 : xS) => if zz13 = ((-1)) then (some ((0 : Int32), σ12)) else (some ((1 : Int32), σ12)))) else (if nI h = 2 then (if zz6 = 0 then (some ((0 : Int32), σ11)) else (xbI (F_X3_attempt (0 + 652) 5 (nI (g % 100)) 0 0 σ11) (fun (zz16 : Int32) (σ15 : xS) => if zz16 = ((-1)) then (some ((0 : Int32), σ15)) else (some ((1 : Int32), σ15))))) else (if nI h = 3 then (if 1 < nI th then (some ((0 : Int32), σ11)) else (xbI (F_X3_attempt (0 + 652) 3 (nI k) (nI th) 0 σ11) (fun (zz19 : Int32) (σ18 : xS) => if zz19 = ((-1)) then (some ((0 : Int32), σ18)) else (some ((1 : Int32), σ18))))) else (if nI h = 4 then (if ¬ nI th = 0 then (some ((0 : Int32), σ11)) else (xbI (F_X3_attempt (0 + 652) 4 (nI k) 0 0 σ11) (fun (zz22 : Int32) (σ21 : xS) => if zz22 = ((-1)) then (some ((0 : Int32), σ21)) else (some ((1 : Int32), σ21))))) else (if nI h = 5 then (if zz4 = 0 then (some ((0 : Int32), σ11)) else (xbI (F_X3_attempt (0 + 652) 6 (nI k) (nI (g % 100)) 0 σ11) (fun (zz25 : Int32) (σ24 : xS) => if zz25 = ((-1)) then (some ((0 : Int32), σ24)) else (some ((1 : Int32), σ24))))) else (if nI h = 6 then (if zz4 = 0 then (some ((0 : Int32), σ11)) else (if zz10 = 0 then (some ((0 : Int32), σ11)) else (if xin (nI k) 4 = true then (if nI (g % 100) < (σ11 (((0 + 652) + 7 + 9 * (nI k).toNatClampNeg) + 1) 3) then (some ((0 : Int32), σ11)) else (some ((1 : Int32), σ11))) else none))) else (if nI h = 7 then (if zz10 = 0 then (some ((0 : Int32), σ11)) else (if xin (nI k) 4 = true then (if nI th < (σ11 ((0 + 652) + 7 + 9 * (nI k).toNatClampNeg) 2) then (some ((0 : Int32), σ11)) else (some ((1 : Int32), σ11))) else none)) else (if nI h = 8 then (xbV (F_X3_copyFrom (0 + 695) (0 + 652) σ11) (fun (σ31 : xS) => if zz10 = 0 then (some ((0 : Int32), σ31)) else (xlet (if 400 < nI th then 400 else nI th) (fun (zz32 : Int32) => xbI (F_X3_ticksUntilDone (0 + 695) (nI k) zz32 σ31) (fun (zz34 : Int32) (σ33 : xS) => if zz34 = ((-1)) then (some ((0 : Int32), σ33)) else (some ((1 : Int32), σ33))))))) else (if nI h = 9 then (if zz6 = 0 then (some ((0 : Int32), σ11)) else (xbI (F_X3_sumOfDesks (0 + 652) 4 σ11) (fun (zz37 : Int32) (σ36 : xS) => if nI (g % 100) < zz37 then (some ((0 : Int32), σ36)) else (some ((1 : Int32), σ36))))) else (some ((0 : Int32), σ11)))))))))))]
  try dsimp only
  have lit : ∀ v : Nat, v < 10 → h = v → nI h = nI v := fun v _ q => by rw [q]
  have nlt : ∀ v : Nat, v < 10 → h ≠ v → ¬ nI h = nI v := fun v hv q p => q ((hcl v hv).mp p)
  have rT : ∀ a b c d (hv : vOK a b c d), ∃ z v, F_X3_attempt (0 + 652) (nI a) (nI b) (nI c) (nI d) σ = some (v, z) ∧ (v = -1 ↔ (rDo a b c d r).1 = false) ∧ xfr σ z 652 738 ∧ yS z (0 + 652) (rDo a b c d r).2 (T + 99) (W + 7200) := fun a b c d hv => by
    obtain ⟨z, v, q1, q2, q3, q4⟩ := pT_do hS (by omega) (by omega) hv
    exact ⟨z, v, q1, q2, q3.sub (by omega) (by omega), q4⟩
  unfold rCm
  by_cases c1 : h = 1
  · rw [if_pos (show nI h = 1 from lit 1 (by decide) c1), if_pos c1]
    by_cases q : 1 ≤ th ∧ th ≤ 500 ∧ k ≤ 3
    · rw [if_pos q]
      obtain ⟨z, v, q1, q2, q3, q4⟩ := rT 1 k th 0 (Or.inl ⟨rfl, q.2.2, q.1, q.2.1⟩)
      refine ⟨z, ?_, q3, q4⟩
      rw [show F_X3_attempt (0 + 652) 1 (nI k) (nI th) 0 σ = _ from q1, xbI_s, nm1B q2]
    · rw [if_neg q]
      refine ⟨σ, ?_, xfr.refl, keep⟩
      have ea : F_X3_attempt (0 + 652) 1 (nI k) (nI th) 0 σ = some (-1, σ) := by
        by_cases ck : k < m
        · refine pT_att0 (f := 2) ?_ (by decide)
          rw [pT_fW, pT_fNote1 hQ.1 h1.1.1 ck hm4 ?_, xbI_s]
          by_cases c5 : 500 < th
          · exact Or.inr (nI_lt (a := 500) (b := th) c5 (by omega))
          · exact Or.inl (nI_lt (a := th) (b := 1) (by omega) (by decide))
        · refine pT_att0 (f := 1) ?_ (by decide)
          rw [pT_fW, pT_fNote0 hQ.1 h1.1.1 (rBad_ge ck (by omega)), xbI_s]
      rw [ea, xbI_s, if_pos rfl]
      rfl
  rw [if_neg (show ¬ nI h = 1 from nlt 1 (by decide) c1), if_neg c1]
  by_cases c2 : h = 2
  · rw [if_pos (show nI h = 2 from lit 2 (by decide) c2), if_pos c2, hzB]
    by_cases q0 : th < 100 ∧ k = 0
    · rw [if_pos q0, if_neg (by decide), l2 q0.1]
      by_cases q : k = 0 ∧ 1 ≤ th ∧ th ≤ 99
      · rw [if_pos q]
        obtain ⟨z, v, q1, q2, q3, q4⟩ := rT 5 th 0 0 (Or.inr (Or.inr (Or.inr (Or.inr ⟨rfl, q.2.1, q.2.2⟩))))
        refine ⟨z, ?_, q3, q4⟩
        rw [show F_X3_attempt (0 + 652) 5 (nI th) 0 0 σ = _ from q1, xbI_s, nm1B q2]
      · rw [if_neg q]
        refine ⟨σ, ?_, xfr.refl, keep⟩
        have ea : F_X3_attempt (0 + 652) 5 (nI th) 0 0 σ = some (-1, σ) := by
          refine pT_att0 (f := 2) ?_ (by decide)
          rw [pT_fT, if_pos (show nI th < 1 ∨ 99 < nI th from Or.inl (nI_lt (a := th) (b := 1) (by omega) (by decide)))]
        rw [ea, xbI_s, if_pos rfl]
        rfl
    · rw [if_neg q0, if_pos (show (0 : Int32) = 0 from rfl), if_neg (show ¬ (k = 0 ∧ 1 ≤ th ∧ th ≤ 99) from fun q => q0 ⟨by omega, q.1⟩)]
      exact ⟨σ, rfl, xfr.refl, keep⟩
  rw [if_neg (show ¬ nI h = 2 from nlt 2 (by decide) c2), if_neg c2]
  by_cases c3 : h = 3
  · rw [if_pos (show nI h = 3 from lit 3 (by decide) c3), if_pos c3]
    by_cases q1 : th ≤ 1
    · rw [if_neg (show ¬ (1 : Int32) < nI th from nI_nlt (a := 1) (b := th) q1 (by decide))]
      by_cases q : k ≤ 3
      · rw [if_pos (show th ≤ 1 ∧ k ≤ 3 from ⟨q1, q⟩)]
        obtain ⟨z, v, r1, r2, r3, r4⟩ := rT 3 k th 0 (Or.inr (Or.inr (Or.inl ⟨rfl, q, q1⟩)))
        refine ⟨z, ?_, r3, r4⟩
        rw [show F_X3_attempt (0 + 652) 3 (nI k) (nI th) 0 σ = _ from r1, xbI_s, nm1B r2]
      · rw [if_neg (show ¬ (th ≤ 1 ∧ k ≤ 3) from fun p => q p.2)]
        refine ⟨σ, ?_, xfr.refl, keep⟩
        rw [(pT_att34 (hQ.1.1.trans h1.1.1) (rBad_ge (show ¬ k < m by omega) (by omega)) (Or.inl rfl)).2, xbI_s, if_pos rfl]
        rfl
    · rw [if_pos (show (1 : Int32) < nI th from nI_lt (a := 1) (b := th) (by omega) (by omega)), if_neg (show ¬ (th ≤ 1 ∧ k ≤ 3) from fun p => q1 p.1)]
      exact ⟨σ, rfl, xfr.refl, keep⟩
  rw [if_neg (show ¬ nI h = 3 from nlt 3 (by decide) c3), if_neg c3]
  by_cases c4 : h = 4
  · rw [if_pos (show nI h = 4 from lit 4 (by decide) c4), if_pos c4]
    by_cases q1 : th = 0
    · rw [if_neg (show ¬ ¬ nI th = 0 from fun q => q (by rw [q1]; rfl))]
      by_cases q : k ≤ 3
      · rw [if_pos (show th = 0 ∧ k ≤ 3 from ⟨q1, q⟩)]
        obtain ⟨z, v, r1, r2, r3, r4⟩ := rT 4 k 0 0 (Or.inr (Or.inr (Or.inr (Or.inl ⟨rfl, q⟩))))
        refine ⟨z, ?_, r3, r4⟩
        rw [show F_X3_attempt (0 + 652) 4 (nI k) 0 0 σ = _ from r1, xbI_s, nm1B r2]
      · rw [if_neg (show ¬ (th = 0 ∧ k ≤ 3) from fun p => q p.2)]
        refine ⟨σ, ?_, xfr.refl, keep⟩
        rw [(pT_att34 (hQ.1.1.trans h1.1.1) (rBad_ge (show ¬ k < m by omega) (by omega)) (Or.inr rfl)).2, xbI_s, if_pos rfl]
        rfl
    · rw [if_pos (show ¬ nI th = 0 from nI_ne0 (by omega) (by omega)), if_neg (show ¬ (th = 0 ∧ k ≤ 3) from fun p => q1 p.1)]
      exact ⟨σ, rfl, xfr.refl, keep⟩
  rw [if_neg (show ¬ nI h = 4 from nlt 4 (by decide) c4), if_neg c4]
  by_cases c5 : h = 5
  · rw [if_pos (show nI h = 5 from lit 5 (by decide) c5), if_pos c5, hz3]
    by_cases q0 : th < 100
    · rw [if_pos q0, if_neg (by decide), l2 q0]
      by_cases q : (k = 0 ∧ 1 ≤ th ∧ th ≤ 9) ∨ (k = 1 ∧ th ≤ 20) ∨ (k = 2 ∧ 4 ≤ th ∧ th ≤ 99) ∨ (k = 3 ∧ 1 ≤ th ∧ th ≤ 6)
      · rw [if_pos q]
        have hv : rVOK k th := q
        obtain ⟨z, r1, r2, r3⟩ := pT_attS (c := 0) hL8 hv hQ
        obtain ⟨tr2, wt2, sz2, ms2, ok⟩ := h1.set hv
        refine ⟨z, ?_, r2.sub (by omega) (by omega), m, t, tr2, wt2, sz2, ms2, L, w, ok, by omega, by omega, r3⟩
        have hset : ¬ r (3 + k) = -1 := by
          have hk4 := hv.w4
          obtain ⟨b0, b1, b2, b3, b4, b5, b6, b7, b8, b9, b10, b11, b12, b13, b14, b15, b16⟩ := h1.1
          obtain e | e | e | e : k = 0 ∨ k = 1 ∨ k = 2 ∨ k = 3 := by omega
          all_goals subst e
          · rw [b3]; exact nI_nm1 (by omega)
          · rw [b4]; exact nI_nm1 (by omega)
          · rw [b5]; exact nI_nm1 (by omega)
          · rw [b6]; exact nI_nm1 (by omega)
        rw [r1, xbI_s, if_neg hset]
        rfl
      · rw [if_neg q]
        refine ⟨σ, ?_, xfr.refl, keep⟩
        have ea : F_X3_attempt (0 + 652) 6 (nI k) (nI th) 0 σ = some (-1, σ) := by
          refine pT_att0 (f := 2) ?_ (by decide)
          rcases rVal_or (nI k) (nI th) with ⟨i, j, v1, v2, v3⟩ | ⟨-, v2⟩
          · exfalso
            have hi4 := v1.w4
            have hj : j ≤ 99 := by unfold rVOK at v1; omega
            obtain rfl : k = i := (nI_eq (by omega) (by omega)).mp v2
            obtain rfl : th = j := (nI_eq (by omega) (by omega)).mp v3
            exact q v1
          · exact pT_fS v2
        rw [ea, xbI_s, if_pos rfl]
        rfl
    · rw [if_neg q0, if_pos (show (0 : Int32) = 0 from rfl), if_neg (show ¬ ((k = 0 ∧ 1 ≤ th ∧ th ≤ 9) ∨ (k = 1 ∧ th ≤ 20) ∨ (k = 2 ∧ 4 ≤ th ∧ th ≤ 99) ∨ (k = 3 ∧ 1 ≤ th ∧ th ≤ 6)) by omega)]
      exact ⟨σ, rfl, xfr.refl, keep⟩
  rw [if_neg (show ¬ nI h = 5 from nlt 5 (by decide) c5), if_neg c5]
  by_cases c6 : h = 6
  · rw [if_pos (show nI h = 6 from lit 6 (by decide) c6), if_pos c6, hz3, hzW, em]
    refine ⟨σ, ?_, xfr.refl, keep⟩
    by_cases q0 : th < 100
    · rw [if_pos q0, if_neg (by decide), l2 q0]
      by_cases q1 : k < m
      · obtain ⟨o, n, q⟩ := hQ.1.2.2.2 k (by omega)
        obtain ⟨wv, q6⟩ := q.2.2.2.2.2.1
        have e6 : σ (0 + 652 + 7 + 9 * k + 1) 3 = rRow r k 6 := by rw [q6.1, q.2.1]
        rw [if_pos q1, if_neg (by decide), if_pos (xin_nI (by omega) (by decide)), nI_clamp (by omega), e6]
        by_cases q2 : rRow r k 6 ≤ nI th
        · rw [if_neg (Int32.not_lt.mpr q2), if_pos (decide_eq_true ⟨q0, q1, q2⟩)]
        · rw [if_pos (Int32.not_le.mp q2), if_neg (fun p => q2 (of_decide_eq_true p).2.2)]
      · rw [if_neg q1, if_pos rfl, if_neg (fun p => q1 (of_decide_eq_true p).2.1)]
    · rw [if_neg q0, if_pos rfl, if_neg (fun p => q0 (of_decide_eq_true p).1)]
  rw [if_neg (show ¬ nI h = 6 from nlt 6 (by decide) c6), if_neg c6]
  by_cases c7 : h = 7
  · rw [if_pos (show nI h = 7 from lit 7 (by decide) c7), if_pos c7, hzW, em]
    refine ⟨σ, ?_, xfr.refl, keep⟩
    by_cases q1 : k < m
    · obtain ⟨o, n, q⟩ := hQ.1.2.2.2 k (by omega)
      rw [if_pos q1, if_neg (by decide), if_pos (xin_nI (by omega) (by decide)), nI_clamp (by omega), q.1.1]
      by_cases q2 : rRow r k 0 ≤ nI th
      · rw [if_neg (Int32.not_lt.mpr q2), if_pos (decide_eq_true ⟨q1, q2⟩)]
      · rw [if_pos (Int32.not_le.mp q2), if_neg (fun p => q2 (of_decide_eq_true p).2)]
    · rw [if_neg q1, if_pos rfl, if_neg (fun p => q1 (of_decide_eq_true p).1)]
  rw [if_neg (show ¬ nI h = 7 from nlt 7 (by decide) c7), if_neg c7]
  by_cases c8 : h = 8
  · rw [if_pos (show nI h = 8 from lit 8 (by decide) c8), if_pos c8, hzW, em]
    obtain ⟨z, d1, d2, d3⟩ := pT_copy (p := 0 + 695) hQ hL8 (by omega) h1.h01
    have keepz : ∀ z2, xfr σ z2 695 738 → yS z2 (0 + 652) r (T + 99) (W + 7200) := fun z2 hf => keep.ex (fun i a b => hf i (by omega))
    by_cases q1 : k < m
    · obtain ⟨M, hM⟩ : ∃ y, y = if 400 < th then 400 else th := ⟨_, rfl⟩
      have eM : (if (400 : Int32) < nI th then 400 else nI th) = nI M := by
        rw [hM]
        by_cases q : 400 < th
        · rw [if_pos q, if_pos (show (400 : Int32) < nI th from nI_lt (a := 400) (b := th) q (by omega))]; rfl
        · rw [if_neg q, if_neg (show ¬ (400 : Int32) < nI th from nI_nlt (a := 400) (b := th) (by omega) (by decide))]
      obtain ⟨z2, u1, u2⟩ := pT_until (M := M) q1 (by rw [hM]; split <;> omega) (by omega) (by omega) h1 d3
      refine ⟨z2, ?_, (d2.trans u2).sub (by omega) (by omega), keepz z2 (d2.trans u2)⟩
      rw [d1, xbV_s, if_pos q1, if_neg (by decide), eM, xlet_s, u1, xbI_s, ← hM]
      cases hf : rFst (rTick 0 m) (rDn k) M r with
      | none => rw [if_pos (by rfl)]; simp
      | some j =>
        have hj := (rFst_le _ _ _ hf).1
        have hM4 : M ≤ 400 := by rw [hM]; split <;> omega
        rw [if_neg (show ¬ rVal 0 (some j) = -1 from nI_nm1 (by omega))]
        simp [q1]
    · refine ⟨z, ?_, d2.sub (by omega) (by omega), keepz z d2⟩
      rw [d1, xbV_s, if_neg q1, if_pos rfl]
      simp [q1]
  rw [if_neg (show ¬ nI h = 8 from nlt 8 (by decide) c8), if_neg c8]
  by_cases c9 : h = 9
  · rw [if_pos (show nI h = 9 from lit 9 (by decide) c9), if_pos c9, hzB]
    refine ⟨σ, ?_, xfr.refl, keep⟩
    by_cases q0 : th < 100 ∧ k = 0
    · rw [if_pos q0, if_neg (by decide), l2 q0.1, show F_X3_sumOfDesks (0 + 652) 4 σ = _ from pT_sumd (w := 4) hQ (by decide), xbI_s]
      by_cases q2 : rS4 r 12 ≤ nI th
      · rw [if_neg (Int32.not_lt.mpr q2), if_pos (decide_eq_true ⟨q0.2, q0.1, q2⟩)]
      · rw [if_pos (Int32.not_le.mp q2), if_neg (fun p => q2 (of_decide_eq_true p).2.2)]
    · rw [if_neg q0, if_pos rfl, if_neg (fun p => q0 ⟨(of_decide_eq_true p).2.1, (of_decide_eq_true p).1⟩)]
  rw [if_neg (show ¬ nI h = 9 from nlt 9 (by decide) c9), if_neg c9]
  exact ⟨σ, rfl, xfr.refl, keep⟩
