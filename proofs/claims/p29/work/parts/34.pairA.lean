/-! THE CLASS'S PAIR AND THE REFERENCE'S ROW -/
def xS2 (σ : xS) (b : Nat) (u : Nat → Int32) : Prop := σ b 2 = u 0 ∧ σ b 3 = u 1 ∧ σ b 4 = u 2 ∧ σ b 5 = u 3 ∧ σ b 7 = u 4 ∧ σ b 6 = u 5 ∧ σ b 9 = u 8 ∧ σ b 10 = u 9 ∧ σ b 11 = u 10 ∧ σ b 12 = u 11 ∧ σ b 13 = u 12
def xLt (σ : xS) (b : Nat) (u : Nat → Int32) (o : Nat) : Prop := ∃ w, xD3 σ (b + 1) o (fun j => u (15 + 2 * j + 1)) w (fun j => u (15 + 2 * j))
def xAw (σ : xS) (b : Nat) (u : Nat → Int32) (n : Nat) : Prop := ∃ w, xD3 σ (b + 5) n (fun j => u (27 + j)) w (fun j => u (33 + j))
/-- pair b looks as row u, with o letters open and n answers under way -/
def xQ2 (σ : xS) (b : Nat) (u : Nat → Int32) (o n : Nat) : Prop := xS2 σ b u ∧ u 6 = nI o ∧ u 13 = nI n ∧ o ≤ 6 ∧ n ≤ 6 ∧ xLt σ b u o ∧ xAw σ b u n
theorem xS2.ex {σ σ2 : xS} {b : Nat} {u : Nat → Int32} (h : xS2 σ b u) (hx : σ2 b = σ b) : xS2 σ2 b u := by
  unfold xS2
  rw [hx]
  exact h
theorem xQ2.ex {σ σ2 : xS} {b o n : Nat} {u : Nat → Int32} (h : xQ2 σ b u o n) (hx : ∀ i, b ≤ i → i < b + 9 → σ2 i = σ i) : xQ2 σ2 b u o n := by
  obtain ⟨h1, h2, h3, h4, h5, ⟨w, h6⟩, ⟨w2, h7⟩⟩ := h
  exact ⟨h1.ex (hx b (by omega) (by omega)), h2, h3, h4, h5, ⟨w, h6.ex (fun i a b => hx i (by omega) (by omega))⟩, ⟨w2, h7.ex (fun i a b => hx i (by omega) (by omega))⟩⟩
/-- the class's greater one -/
def cMax (c l : Int32) : Int32 := if c < l then l else c
theorem cMax_mMax {c l : Int32} : cMax c l = mMax c l := by
  unfold cMax mMax
  by_cases h : l ≤ c
  · rw [if_pos h, if_neg (Int32.not_lt.mpr h)]
  · rw [if_neg h, if_pos (Int32.not_le.mp h)]
theorem mAns_lo {tt : Int32} {u : Nat → Int32} {j : Nat} (h : j < 10) : mAns tt u j = u j := by
  unfold mAns
  rw [up_n (by omega), up_n (by omega), up_n (by omega), up_n (by omega), up_n (by omega), up_n (by omega), up_n (by omega)]
theorem mAns_mid {tt : Int32} {u : Nat → Int32} {j : Nat} (h : 15 ≤ j) (h2 : j < 27) : mAns tt u j = u j := by
  unfold mAns
  rw [up_n (by omega), up_n (by omega), up_n (by omega), up_n (by omega), up_n (by omega), up_n (by omega), up_n (by omega)]
theorem mAns_13 {tt : Int32} {u : Nat → Int32} : mAns tt u 13 = u 13 + 1 := by
  unfold mAns
  rw [up_n (by omega), up_n (by omega), up_n (by omega), up_n (by omega), up_s]
theorem mAns_12 {tt : Int32} {u : Nat → Int32} : mAns tt u 12 = u 12 + 1 := by
  unfold mAns
  rw [up_n (by omega), up_n (by omega), up_s]
theorem mAns_11 {tt : Int32} {u : Nat → Int32} : mAns tt u 11 = -1 := by
  unfold mAns
  rw [up_s]
theorem mAns_10 {tt : Int32} {u : Nat → Int32} : mAns tt u 10 = 0 := by
  unfold mAns
  rw [up_n (by omega), up_s]
theorem mAns_14 {tt : Int32} {u : Nat → Int32} : mAns tt u 14 = mMax tt (u 14) := by
  unfold mAns
  rw [up_n (by omega), up_n (by omega), up_n (by omega), up_s]
theorem mAns_hi {tt : Int32} {u : Nat → Int32} {j n : Nat} (hm : u 13 = nI n) (hn : n < 6) (h : 27 ≤ j) : mAns tt u j = if j = 33 + n then u 9 else if j = 27 + n then mMax tt (u 14) else u j := by
  unfold mAns
  rw [up_n (by omega), up_n (by omega), up_n (by omega), up_n (by omega), up_n (by omega), hm, mN_nI (by omega)]
  rfl
/-- an answer sets out -/
theorem pP_answer {σ : xS} {b o n : Nat} {u : Nat → Int32} {now trav : Int32} (h : xQ2 σ b u o n) (hn : n < 6) (hl : cMax (now + trav) (if n = 0 then -1 else u (27 + (n - 1))) = mMax (now + trav) (u 14)) : ∃ z, F_X2_sendAnswer b now trav σ = some z ∧ xfr σ z b (b + 9) ∧ xQ2 z b (mAns (now + trav) u) o (n + 1) := by
  obtain ⟨h1, h2, h3, h4, h5, ⟨w, h6⟩, ⟨w2, h7⟩⟩ := h
  obtain ⟨z1, e1, f1, d1⟩ := pD_add (c := 6) (t := mMax (now + trav) (u 14)) (x := σ b 0) (v := σ b 10) h7 hn (by decide)
  have hz : z1 b = σ b := f1 b (by omega)
  refine ⟨xu (xu (xu z1 b 13 (z1 b 13 + 1)) b 11 0) b 12 (-1), ?_, ?_, ?_, ?_, ?_, h4, hn, ⟨w, ?_⟩, ⟨upd w2 n (σ b 0), ?_⟩⟩
  · unfold F_X2_sendAnswer
    rw [pD_last h7 h5 (by decide)]
    simp only [xbI_s, xlet_s]
    rw [show (if now + trav < (if n = 0 then -1 else u (27 + (n - 1))) then (if n = 0 then -1 else u (27 + (n - 1))) else now + trav) = mMax (now + trav) (u 14) from hl, e1]
    rfl
  · intro i hi
    rw [xu_other (by omega), xu_other (by omega), xu_other (by omega), f1 i (by omega)]
  · unfold xS2
    rw [xu_same, xu_same, xu_same, hz, mAns_lo (by decide), mAns_lo (by decide), mAns_lo (by decide), mAns_lo (by decide), mAns_lo (by decide), mAns_lo (by decide), mAns_lo (by decide), mAns_lo (by decide), mAns_10, mAns_11, mAns_12]
    obtain ⟨k1, k2, k3, k4, k5, k6, k7, k8, k9, k10, k11⟩ := h1
    refine ⟨k1, k2, k3, k4, k5, k6, k7, k8, ?_, ?_, ?_⟩
    · rw [up_n (by decide), up_s]
    · rw [up_s]
    · rw [up_n (by decide), up_n (by decide), up_s, k11]
  · rw [mAns_lo (by decide), h2]
  · rw [mAns_13, h3, nI_1]
  · refine (h6.ex (fun i a c => ?_)).cg (fun j hj => ⟨mAns_mid (by omega) (by omega), rfl, mAns_mid (by omega) (by omega)⟩)
    rw [xu_other (by omega), xu_other (by omega), xu_other (by omega), f1 i (by omega)]
  · refine (d1.ex (fun i a c => ?_)).cg (fun j hj => ⟨?_, rfl, ?_⟩)
    · rw [xu_other (by omega), xu_other (by omega), xu_other (by omega)]
    · rw [mAns_hi h3 hn (by omega), if_neg (by omega)]
      by_cases hjn : j = n
      · subst hjn; rw [if_pos rfl, up_s]
      · rw [if_neg (by omega), up_n hjn]
    · rw [mAns_hi h3 hn (by omega)]
      by_cases hjn : j = n
      · subst hjn; rw [if_pos rfl, up_s, h1.2.2.2.2.2.2.2.1]
      · rw [if_neg (by omega), if_neg (by omega), up_n hjn]
theorem mGoes_lo {tt s : Int32} {u : Nat → Int32} {j : Nat} (h : j < 15) (h0 : j ≠ 0) (h1 : j ≠ 3) (h2 : j ≠ 6) (h3 : j ≠ 7) : mGoes tt s u j = u j := by
  unfold mGoes
  rw [up_n (by omega), up_n (by omega), up_n (by omega), up_n (by omega), up_n (by omega), up_n (by omega)]
theorem mGoes_0 {tt s : Int32} {u : Nat → Int32} : mGoes tt s u 0 = u 0 - s := up_s
theorem mGoes_3 {tt s : Int32} {u : Nat → Int32} : mGoes tt s u 3 = u 3 + 1 := by
  unfold mGoes
  rw [up_n (by omega), up_s]
theorem mGoes_7 {tt s : Int32} {u : Nat → Int32} : mGoes tt s u 7 = mMax tt (u 7) := by
  unfold mGoes
  rw [up_n (by omega), up_n (by omega), up_s]
theorem mGoes_hi {tt s : Int32} {u : Nat → Int32} {j o : Nat} (hm : u 6 = nI o) (ho : o < 6) (h : 15 ≤ j) : mGoes tt s u j = if j = 15 + 2 * o + 1 then mMax tt (u 7) else if j = 15 + 2 * o then s else u j := by
  unfold mGoes
  rw [up_n (by omega), up_n (by omega), up_n (by omega), up_n (by omega), hm, mN_nI (by omega)]
  rfl
/-- one letter goes -/
theorem pP_goes {σ : xS} {b o n : Nat} {u : Nat → Int32} {tt s : Int32} (h : xQ2 σ b u o n) (ho : o < 6) : ∃ z1 z, F_X0_addLast 6 (b + 1) (mMax tt (u 7)) (σ b 0) s σ = some z1 ∧ xu (xu z1 b 2 (z1 b 2 - s)) b 5 (xu z1 b 2 (z1 b 2 - s) b 5 + 1) = z ∧ xfr σ z b (b + 9) ∧ xQ2 z b (mGoes tt s u) (o + 1) n := by
  obtain ⟨h1, h2, h3, h4, h5, ⟨w, h6⟩, ⟨w2, h7⟩⟩ := h
  obtain ⟨z1, e1, f1, d1⟩ := pD_add (c := 6) (t := mMax tt (u 7)) (x := σ b 0) (v := s) h6 ho (by decide)
  have hz : z1 b = σ b := f1 b (by omega)
  refine ⟨z1, _, e1, rfl, ?_, ?_, ?_, ?_, ho, h5, ⟨upd w o (σ b 0), ?_⟩, ⟨w2, ?_⟩⟩
  · intro i hi
    rw [xu_other (by omega), xu_other (by omega), f1 i (by omega)]
  · unfold xS2
    rw [xu_same, xu_same, hz, mGoes_0, mGoes_3, mGoes_lo (j := 1) (by decide) (by decide) (by decide) (by decide) (by decide), mGoes_lo (j := 2) (by decide) (by decide) (by decide) (by decide) (by decide), mGoes_lo (j := 4) (by decide) (by decide) (by decide) (by decide) (by decide), mGoes_lo (j := 5) (by decide) (by decide) (by decide) (by decide) (by decide), mGoes_lo (j := 8) (by decide) (by decide) (by decide) (by decide) (by decide), mGoes_lo (j := 9) (by decide) (by decide) (by decide) (by decide) (by decide), mGoes_lo (j := 10) (by decide) (by decide) (by decide) (by decide) (by decide), mGoes_lo (j := 11) (by decide) (by decide) (by decide) (by decide) (by decide), mGoes_lo (j := 12) (by decide) (by decide) (by decide) (by decide) (by decide)]
    obtain ⟨k1, k2, k3, k4, k5, k6, k7, k8, k9, k10, k11⟩ := h1
    refine ⟨?_, k2, k3, ?_, k5, k6, k7, k8, k9, k10, k11⟩
    · rw [up_n (by decide), up_s, k1]
    · rw [up_s, up_n (by decide), k4]
  · rw [mGoes_6, h2, nI_1]
  · rw [mGoes_lo (by decide) (by decide) (by decide) (by decide) (by decide), h3]
  · refine (d1.ex (fun i a c => ?_)).cg (fun j hj => ⟨?_, rfl, ?_⟩)
    · rw [xu_other (by omega), xu_other (by omega)]
    · rw [mGoes_hi h2 ho (by omega)]
      by_cases hjn : j = o
      · subst hjn; rw [if_pos rfl, up_s]
      · rw [if_neg (by omega), if_neg (by omega), up_n hjn]
    · rw [mGoes_hi h2 ho (by omega), if_neg (by omega)]
      by_cases hjn : j = o
      · subst hjn; rw [if_pos rfl, up_s]
      · rw [if_neg (by omega), up_n hjn]
  · refine (h7.ex (fun i a c => ?_)).cg (fun j hj => ⟨?_, rfl, ?_⟩)
    · rw [xu_other (by omega), xu_other (by omega), f1 i (by omega)]
    · rw [mGoes_hi h2 ho (by omega), if_neg (by omega), if_neg (by omega)]
    · rw [mGoes_hi h2 ho (by omega), if_neg (by omega), if_neg (by omega)]
