/-! THE LAW'S END -/
def xQL (Γ : xG) (q : Int32 × xS) : State → Prop :=
  match Γ with
  | (_, _, _, _, s, _, args, below, _, _, _, _) => lw_Z below args s
def xEnd (Γ : xG) (b : Nat) : Prop :=
  match Γ with
  | (_, _, _, R, s, _, args, _, _, _, _, A) => R = room_1 ∧ args = #[Value.ref b] ∧ ∀ q, A q → s.heap.size ≤ q
section XL
variable {R' : Type} {Γ : xG} {cc : ByteArray} {c0 : Cond} {Ts : List Cond} {own : String} {rt : Option FieldType} {rm : Room} {D : va_G} {ad : Nat → Nat} {N : Nat} {Sh : xSh} {Q : R' → State → Prop} {k n : Nat} {σ : xS} {ex : Option R'} {pc bb LL : Nat} {xs : Nat → Int32} {lv : List (Nat × Value)} {st rest : List Value}
theorem xr_lawret (X : xC Γ cL_law Ts own (some .boolean) rm D ad N) (hEnd : xEnd Γ bb) (hk : k ≤ 680937) (hn : n ≤ 7058658) (dg : decode cL_law pc = .ok (.ireturn, 1)) : xM Γ D ad N Sh (xQL Γ) k n (some ((1 : Int32), σ)) σ pc lv [.int 1] := by
  obtain ⟨p, l, e, R, s, m, args, below, meth, c, nL, A⟩ := Γ
  obtain ⟨h1, h2, h3⟩ := hEnd
  subst h1
  subst h2
  intro q hq H locs ls hP hS hl
  have hr : meth.sig.returnType = ret := X.2.2.2.2.2.2.2.2.2.1
  exact va_forget (fun q hq => h3 _ (hS.2.2 q hq)) (W.widen hk hn (lw_ret X.1 X.2.1 hr X.2.2.2.2.2.2.2.2.2.2.1 dg))
end XL
