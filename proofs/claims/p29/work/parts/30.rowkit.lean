/-! THE PURE PART. A writer's row of the reference: 39 ints. xX: the reference's array with one writer's row in it -/
def xX (σ : xS) (a k : Nat) (u : Nat → Int32) : xS := xset σ a (fun i => if 31 + 39 * k ≤ i ∧ i < 31 + 39 * k + 39 then u (i - (31 + 39 * k)) else σ a i)
theorem xset_same {σ : xS} {a : Nat} {r : Nat → Int32} : xset σ a r a = r := if_pos rfl
theorem xset_other {σ : xS} {a i : Nat} {r : Nat → Int32} (h : i ≠ a) : xset σ a r i = σ i := if_neg h
theorem xset_xset {σ : xS} {a : Nat} {r r2 : Nat → Int32} : xset (xset σ a r) a r2 = xset σ a r2 := by
  funext i
  by_cases h : i = a
  · subst h; rw [xset_same, xset_same]
  · rw [xset_other h, xset_other h, xset_other h]
theorem xu_xset {σ : xS} {a k : Nat} {r : Nat → Int32} {v : Int32} : xu (xset σ a r) a k v = xset σ a (upd r k v) := by
  funext i
  by_cases h : i = a
  · subst h; rw [xu_same, xset_same, xset_same]
  · rw [xu_other h, xset_other h, xset_other h]
theorem xset_self {σ : xS} {a : Nat} : xset σ a (σ a) = σ := by
  funext i
  by_cases h : i = a
  · subst h; rw [xset_same]
  · rw [xset_other h]
theorem xX_fr {σ : xS} {a k : Nat} {u : Nat → Int32} : xfr σ (xX σ a k u) a (a + 1) := fun i hi => xset_other (by omega)
theorem xX_hd {σ : xS} {a k i : Nat} {u : Nat → Int32} (h : i < 31) : xX σ a k u a i = σ a i := by
  unfold xX
  rw [xset_same, if_neg (by omega)]
theorem xX_at {σ : xS} {a k w : Nat} {u : Nat → Int32} (h : w < 39) : xX σ a k u a (31 + 39 * k + w) = u w := by
  unfold xX
  rw [xset_same, if_pos (by omega)]
  congr 1
  omega
theorem xX_of {σ : xS} {a k w : Nat} {u : Nat → Int32} (hk : k < 4) (hw : w < 39) : F_X6_of 187 a (nI k) (nI w) (xX σ a k u) = some (u w, xX σ a k u) := by
  rw [pF_X6_of hk hw, xX_at hw]
theorem xX_lay {σ : xS} {a k w : Nat} {u : Nat → Int32} {v : Int32} (hk : k < 4) (hw : w < 39) : F_X6_lay 187 a (nI k) (nI w) v (xX σ a k u) = some (xX σ a k (upd u w v)) := by
  rw [pF_X6_lay hk hw]
  unfold xX
  rw [xu_xset]
  refine congrArg some (congrArg (xset σ a) (funext fun i => ?_))
  unfold upd
  by_cases h : i = 31 + 39 * k + w
  · rw [if_pos h, if_pos (by omega), if_pos (by omega)]
  · rw [if_neg h]
    dsimp only
    by_cases h2 : 31 + 39 * k ≤ i ∧ i < 31 + 39 * k + 39
    · rw [if_pos h2, if_pos h2, if_neg (by omega)]
    · rw [if_neg h2, if_neg h2]
theorem xX_self {σ : xS} {a k : Nat} : xX σ a k (fun j => σ a (31 + 39 * k + j)) = σ := by
  unfold xX
  rw [show (fun i => if 31 + 39 * k ≤ i ∧ i < 31 + 39 * k + 39 then σ a (31 + 39 * k + (i - (31 + 39 * k))) else σ a i) = σ a from ?_, xset_self]
  funext i
  by_cases h2 : 31 + 39 * k ≤ i ∧ i < 31 + 39 * k + 39
  · rw [if_pos h2]
    congr 1
    omega
  · rw [if_neg h2]
theorem xX_xX {σ : xS} {a k : Nat} {u u2 : Nat → Int32} : xX (xX σ a k u) a k u2 = xX σ a k u2 := by
  unfold xX
  rw [xset_xset, xset_same]
  refine congrArg (xset σ a) (funext fun i => ?_)
  by_cases h2 : 31 + 39 * k ≤ i ∧ i < 31 + 39 * k + 39
  · rw [if_pos h2, if_pos h2]
  · rw [if_neg h2, if_neg h2, if_neg h2]
theorem xof_0 {σ : xS} {a k : Nat} {u : Nat → Int32} (hk : k < 4) : F_X6_of 187 a (nI k) 0 (xX σ a k u) = some (u 0, xX σ a k u) := xX_of (w := 0) hk (by decide)
theorem xly_0 {σ : xS} {a k : Nat} {u : Nat → Int32} {v : Int32} (hk : k < 4) : F_X6_lay 187 a (nI k) 0 v (xX σ a k u) = some (xX σ a k (upd u 0 v)) := xX_lay (w := 0) hk (by decide)
theorem xof_1 {σ : xS} {a k : Nat} {u : Nat → Int32} (hk : k < 4) : F_X6_of 187 a (nI k) 1 (xX σ a k u) = some (u 1, xX σ a k u) := xX_of (w := 1) hk (by decide)
theorem xly_1 {σ : xS} {a k : Nat} {u : Nat → Int32} {v : Int32} (hk : k < 4) : F_X6_lay 187 a (nI k) 1 v (xX σ a k u) = some (xX σ a k (upd u 1 v)) := xX_lay (w := 1) hk (by decide)
theorem xof_2 {σ : xS} {a k : Nat} {u : Nat → Int32} (hk : k < 4) : F_X6_of 187 a (nI k) 2 (xX σ a k u) = some (u 2, xX σ a k u) := xX_of (w := 2) hk (by decide)
theorem xly_2 {σ : xS} {a k : Nat} {u : Nat → Int32} {v : Int32} (hk : k < 4) : F_X6_lay 187 a (nI k) 2 v (xX σ a k u) = some (xX σ a k (upd u 2 v)) := xX_lay (w := 2) hk (by decide)
theorem xof_3 {σ : xS} {a k : Nat} {u : Nat → Int32} (hk : k < 4) : F_X6_of 187 a (nI k) 3 (xX σ a k u) = some (u 3, xX σ a k u) := xX_of (w := 3) hk (by decide)
theorem xly_3 {σ : xS} {a k : Nat} {u : Nat → Int32} {v : Int32} (hk : k < 4) : F_X6_lay 187 a (nI k) 3 v (xX σ a k u) = some (xX σ a k (upd u 3 v)) := xX_lay (w := 3) hk (by decide)
theorem xof_4 {σ : xS} {a k : Nat} {u : Nat → Int32} (hk : k < 4) : F_X6_of 187 a (nI k) 4 (xX σ a k u) = some (u 4, xX σ a k u) := xX_of (w := 4) hk (by decide)
theorem xly_4 {σ : xS} {a k : Nat} {u : Nat → Int32} {v : Int32} (hk : k < 4) : F_X6_lay 187 a (nI k) 4 v (xX σ a k u) = some (xX σ a k (upd u 4 v)) := xX_lay (w := 4) hk (by decide)
theorem xof_5 {σ : xS} {a k : Nat} {u : Nat → Int32} (hk : k < 4) : F_X6_of 187 a (nI k) 5 (xX σ a k u) = some (u 5, xX σ a k u) := xX_of (w := 5) hk (by decide)
theorem xly_5 {σ : xS} {a k : Nat} {u : Nat → Int32} {v : Int32} (hk : k < 4) : F_X6_lay 187 a (nI k) 5 v (xX σ a k u) = some (xX σ a k (upd u 5 v)) := xX_lay (w := 5) hk (by decide)
theorem xof_6 {σ : xS} {a k : Nat} {u : Nat → Int32} (hk : k < 4) : F_X6_of 187 a (nI k) 6 (xX σ a k u) = some (u 6, xX σ a k u) := xX_of (w := 6) hk (by decide)
theorem xly_6 {σ : xS} {a k : Nat} {u : Nat → Int32} {v : Int32} (hk : k < 4) : F_X6_lay 187 a (nI k) 6 v (xX σ a k u) = some (xX σ a k (upd u 6 v)) := xX_lay (w := 6) hk (by decide)
theorem xof_7 {σ : xS} {a k : Nat} {u : Nat → Int32} (hk : k < 4) : F_X6_of 187 a (nI k) 7 (xX σ a k u) = some (u 7, xX σ a k u) := xX_of (w := 7) hk (by decide)
theorem xly_7 {σ : xS} {a k : Nat} {u : Nat → Int32} {v : Int32} (hk : k < 4) : F_X6_lay 187 a (nI k) 7 v (xX σ a k u) = some (xX σ a k (upd u 7 v)) := xX_lay (w := 7) hk (by decide)
theorem xof_8 {σ : xS} {a k : Nat} {u : Nat → Int32} (hk : k < 4) : F_X6_of 187 a (nI k) 8 (xX σ a k u) = some (u 8, xX σ a k u) := xX_of (w := 8) hk (by decide)
theorem xly_8 {σ : xS} {a k : Nat} {u : Nat → Int32} {v : Int32} (hk : k < 4) : F_X6_lay 187 a (nI k) 8 v (xX σ a k u) = some (xX σ a k (upd u 8 v)) := xX_lay (w := 8) hk (by decide)
theorem xof_9 {σ : xS} {a k : Nat} {u : Nat → Int32} (hk : k < 4) : F_X6_of 187 a (nI k) 9 (xX σ a k u) = some (u 9, xX σ a k u) := xX_of (w := 9) hk (by decide)
theorem xly_9 {σ : xS} {a k : Nat} {u : Nat → Int32} {v : Int32} (hk : k < 4) : F_X6_lay 187 a (nI k) 9 v (xX σ a k u) = some (xX σ a k (upd u 9 v)) := xX_lay (w := 9) hk (by decide)
theorem xof_10 {σ : xS} {a k : Nat} {u : Nat → Int32} (hk : k < 4) : F_X6_of 187 a (nI k) 10 (xX σ a k u) = some (u 10, xX σ a k u) := xX_of (w := 10) hk (by decide)
theorem xly_10 {σ : xS} {a k : Nat} {u : Nat → Int32} {v : Int32} (hk : k < 4) : F_X6_lay 187 a (nI k) 10 v (xX σ a k u) = some (xX σ a k (upd u 10 v)) := xX_lay (w := 10) hk (by decide)
theorem xof_11 {σ : xS} {a k : Nat} {u : Nat → Int32} (hk : k < 4) : F_X6_of 187 a (nI k) 11 (xX σ a k u) = some (u 11, xX σ a k u) := xX_of (w := 11) hk (by decide)
theorem xly_11 {σ : xS} {a k : Nat} {u : Nat → Int32} {v : Int32} (hk : k < 4) : F_X6_lay 187 a (nI k) 11 v (xX σ a k u) = some (xX σ a k (upd u 11 v)) := xX_lay (w := 11) hk (by decide)
theorem xof_12 {σ : xS} {a k : Nat} {u : Nat → Int32} (hk : k < 4) : F_X6_of 187 a (nI k) 12 (xX σ a k u) = some (u 12, xX σ a k u) := xX_of (w := 12) hk (by decide)
theorem xly_12 {σ : xS} {a k : Nat} {u : Nat → Int32} {v : Int32} (hk : k < 4) : F_X6_lay 187 a (nI k) 12 v (xX σ a k u) = some (xX σ a k (upd u 12 v)) := xX_lay (w := 12) hk (by decide)
theorem xof_13 {σ : xS} {a k : Nat} {u : Nat → Int32} (hk : k < 4) : F_X6_of 187 a (nI k) 13 (xX σ a k u) = some (u 13, xX σ a k u) := xX_of (w := 13) hk (by decide)
theorem xly_13 {σ : xS} {a k : Nat} {u : Nat → Int32} {v : Int32} (hk : k < 4) : F_X6_lay 187 a (nI k) 13 v (xX σ a k u) = some (xX σ a k (upd u 13 v)) := xX_lay (w := 13) hk (by decide)
theorem xof_14 {σ : xS} {a k : Nat} {u : Nat → Int32} (hk : k < 4) : F_X6_of 187 a (nI k) 14 (xX σ a k u) = some (u 14, xX σ a k u) := xX_of (w := 14) hk (by decide)
theorem xly_14 {σ : xS} {a k : Nat} {u : Nat → Int32} {v : Int32} (hk : k < 4) : F_X6_lay 187 a (nI k) 14 v (xX σ a k u) = some (xX σ a k (upd u 14 v)) := xX_lay (w := 14) hk (by decide)
theorem xof_27 {σ : xS} {a k : Nat} {u : Nat → Int32} (hk : k < 4) : F_X6_of 187 a (nI k) 27 (xX σ a k u) = some (u 27, xX σ a k u) := xX_of (w := 27) hk (by decide)
theorem xly_27 {σ : xS} {a k : Nat} {u : Nat → Int32} {v : Int32} (hk : k < 4) : F_X6_lay 187 a (nI k) 27 v (xX σ a k u) = some (xX σ a k (upd u 27 v)) := xX_lay (w := 27) hk (by decide)
theorem xof_33 {σ : xS} {a k : Nat} {u : Nat → Int32} (hk : k < 4) : F_X6_of 187 a (nI k) 33 (xX σ a k u) = some (u 33, xX σ a k u) := xX_of (w := 33) hk (by decide)
theorem xly_33 {σ : xS} {a k : Nat} {u : Nat → Int32} {v : Int32} (hk : k < 4) : F_X6_lay 187 a (nI k) 33 v (xX σ a k u) = some (xX σ a k (upd u 33 v)) := xX_lay (w := 33) hk (by decide)
theorem cl_0 : (0 : Int32).toNatClampNeg = 0 := by decide
theorem xin_0 : xin (0 : Int32) 187 = true := by decide
theorem cl_1 : (1 : Int32).toNatClampNeg = 1 := by decide
theorem xin_1 : xin (1 : Int32) 187 = true := by decide
theorem cl_2 : (2 : Int32).toNatClampNeg = 2 := by decide
theorem xin_2 : xin (2 : Int32) 187 = true := by decide
theorem cl_3 : (3 : Int32).toNatClampNeg = 3 := by decide
theorem xin_3 : xin (3 : Int32) 187 = true := by decide
theorem cl_4 : (4 : Int32).toNatClampNeg = 4 := by decide
theorem xin_4 : xin (4 : Int32) 187 = true := by decide
theorem cl_5 : (5 : Int32).toNatClampNeg = 5 := by decide
theorem xin_5 : xin (5 : Int32) 187 = true := by decide
theorem cl_6 : (6 : Int32).toNatClampNeg = 6 := by decide
theorem xin_6 : xin (6 : Int32) 187 = true := by decide
theorem cl_7 : (7 : Int32).toNatClampNeg = 7 := by decide
theorem xin_7 : xin (7 : Int32) 187 = true := by decide
theorem xbI_s {R' : Type} {z : Int32} {σ : xS} {K : Int32 → xS → Option R'} : xbI (some (z, σ)) K = K z σ := id rfl
theorem xbV_s {R' : Type} {σ : xS} {K : xS → Option R'} : xbV (some σ) K = K σ := id rfl
theorem xlet_s {α R' : Type} {x : α} {K : α → Option R'} : xlet x K = K x := id rfl
theorem xjn_s {T R' : Type} {K : T} {B : T → Option R'} : xjn K B = B K := id rfl
theorem up_s {u : Nat → Int32} {k : Nat} {x : Int32} : upd u k x k = x := if_pos rfl
theorem up_n {u : Nat → Int32} {k j : Nat} {x : Int32} (h : j ≠ k) : upd u k x j = u j := if_neg h
theorem nI_l15 (n : Nat) : (15 : Int32) + (2 * nI n) = nI (15 + 2 * n) := by rw [show (15 : Int32) = nI 15 from rfl, show (2 : Int32) = nI 2 from rfl, pk_mul, nI_add]
theorem nI_27 (n : Nat) : (27 : Int32) + nI n = nI (27 + n) := by rw [show (27 : Int32) = nI 27 from rfl, nI_add]
theorem nI_33 (n : Nat) : (33 : Int32) + nI n = nI (33 + n) := by rw [show (33 : Int32) = nI 33 from rfl, nI_add]
def mMax (c l : Int32) : Int32 := if l ≤ c then c else l
def mN (x : Int32) : Nat := x.toNatClampNeg
theorem mN_nI {n : Nat} (h : n < 2 ^ 31) : mN (nI n) = n := nI_clamp h
/-- a letter goes: tt is the time at which it would come by itself -/
def mGoes (tt s : Int32) (u : Nat → Int32) : Nat → Int32 :=
  upd (upd (upd (upd (upd (upd u (15 + 2 * mN (u 6)) s) (15 + 2 * mN (u 6) + 1) (mMax tt (u 7))) 6 (u 6 + 1)) 7 (mMax tt (u 7))) 3 (u 3 + 1)) 0 (u 0 - s)
theorem pF_X6_letterGoes {σ : xS} {a k : Nat} {u : Nat → Int32} {s : Int32} {n : Nat} (hk : k < 4) (hn : n < 6) (h6 : u 6 = nI n) : F_X6_letterGoes 187 a (nI k) s (xX σ a k u) = some (xX σ a k (mGoes (σ a 1 + σ a 3) s u)) := by
  have hm : mN (u 6) = n := by rw [h6, mN_nI (by omega)]
  unfold F_X6_letterGoes mGoes
  rw [hm]
  simp only [xin_1, xin_3, cl_1, cl_3, if_true, xlet_s, xjn_s, xX_hd (show 1 < 31 by decide), xX_hd (show 3 < 31 by decide), xof_7 hk, xbI_s]
  have key : ∀ z, (xbI (F_X6_of 187 a (nI k) 6 (xX σ a k u)) (fun (zz9 : Int32) (σ8 : xS) => xbV (F_X6_lay 187 a (nI k) (15 + (2 * zz9)) s σ8) (fun (σ10 : xS) => xbV (F_X6_lay 187 a (nI k) ((15 + (2 * zz9)) + 1) z σ10) (fun (σ11 : xS) => xbV (F_X6_lay 187 a (nI k) 6 (zz9 + 1) σ11) (fun (σ12 : xS) => xbV (F_X6_lay 187 a (nI k) 7 z σ12) (fun (σ13 : xS) => xbI (F_X6_of 187 a (nI k) 3 σ13) (fun (zz15 : Int32) (σ14 : xS) => xbV (F_X6_lay 187 a (nI k) 3 (zz15 + 1) σ14) (fun (σ16 : xS) => xbI (F_X6_of 187 a (nI k) 0 σ16) (fun (zz18 : Int32) (σ17 : xS) => xbV (F_X6_lay 187 a (nI k) 0 (zz18 - s) σ17) (fun (σ19 : xS) => some σ19)))))))))) = some (xX σ a k (upd (upd (upd (upd (upd (upd u (15 + 2 * n) s) (15 + 2 * n + 1) z) 6 (u 6 + 1)) 7 z) 3 (u 3 + 1)) 0 (u 0 - s))) := by
    intro z
    simp only [xof_6 hk, xbI_s, h6, nI_l15, nI_1, xX_lay hk (show 15 + 2 * n < 39 by omega), xX_lay hk (show 15 + 2 * n + 1 < 39 by omega), xly_6 hk, xly_7 hk, xly_3 hk, xly_0 hk, xof_3 hk, xof_0 hk, xbV_s]
    rw [up_n (show 3 ≠ 7 by decide), up_n (show 3 ≠ 6 by decide), up_n (show 3 ≠ 15 + 2 * n + 1 by omega), up_n (show 3 ≠ 15 + 2 * n by omega)]
    rw [up_n (show 0 ≠ 3 by decide), up_n (show 0 ≠ 7 by decide), up_n (show 0 ≠ 6 by decide), up_n (show 0 ≠ 15 + 2 * n + 1 by omega), up_n (show 0 ≠ 15 + 2 * n by omega)]
  by_cases hc : u 7 ≤ σ a 1 + σ a 3
  · rw [if_pos hc, key]
    simp only [mMax, if_pos hc]
  · rw [if_neg hc, key]
    simp only [mMax, if_neg hc]
