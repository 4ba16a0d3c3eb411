/-! THE LAW'S BODY: the script, the end -/
def xSC (Γ : xG) (b L : Nat) (xs : Nat → Int32) : Prop :=
  match Γ with
  | (_, _, _, _, s, _, _, _, _, _, _, A) => va_X b L xs s s.heap ∧ b < s.heap.size ∧ ¬ A b
def xQL (Γ : xG) (q : Int32 × xS) : State → Prop :=
  match Γ with
  | (_, _, _, _, s, _, args, below, _, _, _, _) => lw_Z below args s
def xEnd (Γ : xG) (b : Nat) : Prop :=
  match Γ with
  | (_, _, _, R, s, _, args, _, _, _, _, A) => R = room_1 ∧ args = #[Value.ref b] ∧ ∀ q, A q → s.heap.size ≤ q
section XL
variable {R' : Type} {Γ : xG} {cc : ByteArray} {c0 : Cond} {Ts : List Cond} {own : String} {rt : Option FieldType} {rm : Room} {D : va_G} {ad : Nat → Nat} {N : Nat} {Sh : xSh} {Q : R' → State → Prop} {k n : Nat} {σ : xS} {ex : Option R'} {pc bb LL : Nat} {xs : Nat → Int32} {lv : List (Nat × Value)} {st rest : List Value}
theorem xr_slen (X : xC Γ cc Ts own rt rm D ad N) (hSC : xSC Γ bb LL xs) (dg : decode cc pc = .ok (.arraylength, 1)) (kk : xM Γ D ad N Sh Q k n ex σ (pc + 1) lv (.int (nI LL) :: st)) : xM Γ D ad N Sh Q k n ex σ pc lv (.ref bb :: st) := by
  obtain ⟨p, l, e, R, s, m, args, below, meth, c, nL, A⟩ := Γ
  exact fun q hq H locs ls hP hS hl => va_slen X.1 X.2.1 hSC.1 hSC.2.1 hSC.2.2 hS dg (kk q hq H locs ls hP hS hl)
theorem xr_sld {i : Int32} {K : Int32 → Option R'} (X : xC Γ cc Ts own rt rm D ad N) (hSC : xSC Γ bb LL xs) (dg : decode cc pc = .ok (.iaload, 1)) (kk : ∀ z, xM Γ D ad N Sh Q k n (K z) σ (pc + 1) lv (.int z :: st)) : xM Γ D ad N Sh Q k n (if xin i LL = true then xlet (xs i.toNatClampNeg) K else none) σ pc lv (.int i :: .ref bb :: st) := by
  refine x_if (fun hi0 => ?_) (fun _ => xM_none)
  have hi := xin_vp hi0
  obtain ⟨p, l, e, R, s, m, args, below, meth, c, nL, A⟩ := Γ
  exact fun q hq H locs ls hP hS hl => va_sld X.1 X.2.1 hSC.1 hSC.2.1 hSC.2.2 hS hi dg (kk _ q hq H locs ls hP hS hl)
theorem xr_lawret (X : xC Γ cL_law Ts own (some .boolean) rm D ad N) (hEnd : xEnd Γ bb) (hk : k ≤ 601024) (hn : n ≤ 7293034) (dg : decode cL_law pc = .ok (.ireturn, 1)) : xM Γ D ad N Sh (xQL Γ) k n (some ((1 : Int32), σ)) σ pc lv [.int 1] := by
  obtain ⟨p, l, e, R, s, m, args, below, meth, c, nL, A⟩ := Γ
  obtain ⟨h1, h2, h3⟩ := hEnd
  subst h1
  subst h2
  intro q hq H locs ls hP hS hl
  have hr : meth.sig.returnType = ret := X.2.2.2.2.2.2.2.2.2.1
  exact va_forget (fun q hq => h3 _ (hS.2.2 q hq)) (W.widen hk hn (lw_ret X.1 X.2.1 hr X.2.2.2.2.2.2.2.2.2.2.1 dg))
end XL
