/-! THE SCRIPT; counts that are rounded up -/
theorem x_wid {R' : Type} {Γ : xG} {D : va_G} {ad : Nat → Nat} {N : Nat} {Sh : xSh} {Q : R' → State → Prop} {k n k2 n2 : Nat} {σ : xS} {ex : Option R'} {pc : Nat} {lv : List (Nat × Value)} {st : List Value} (h1 : k ≤ k2) (h2 : n ≤ n2) (kk : xM Γ D ad N Sh Q k2 n2 ex σ pc lv st) : xM Γ D ad N Sh Q k n ex σ pc lv st := by
  obtain ⟨p, l, e, R, s, m, args, below, meth, c, nL, A⟩ := Γ
  exact fun q hq H locs ls hP hS hl => W.widen h1 h2 (kk q hq H locs ls hP hS hl)
def xSC (Γ : xG) (b L : Nat) (xs : Nat → Int32) : Prop :=
  match Γ with
  | (_, _, _, _, s, _, _, _, _, _, _, A) => va_X b L xs s s.heap ∧ b < s.heap.size ∧ ¬ A b
section XL
variable {R' : Type} {Γ : xG} {cc : ByteArray} {c0 : Cond} {Ts : List Cond} {own : String} {rt : Option FieldType} {rm : Room} {D : va_G} {ad : Nat → Nat} {N : Nat} {Sh : xSh} {Q : R' → State → Prop} {k n : Nat} {σ : xS} {ex : Option R'} {pc bb LL : Nat} {xs : Nat → Int32} {lv : List (Nat × Value)} {st rest : List Value}
theorem xr_slen (X : xC Γ cc Ts own rt rm D ad N) (hSC : xSC Γ bb LL xs) (dg : decode cc pc = .ok (.arraylength, 1)) (kk : xM Γ D ad N Sh Q k n ex σ (pc + 1) lv (.int (nI LL) :: st)) : xM Γ D ad N Sh Q k n ex σ pc lv (.ref bb :: st) := by
  obtain ⟨p, l, e, R, s, m, args, below, meth, c, nL, A⟩ := Γ
  exact fun q hq H locs ls hP hS hl => va_slen X.1 X.2.1 hSC.1 hSC.2.1 hSC.2.2 hS dg (kk q hq H locs ls hP hS hl)
theorem xr_sld {i : Int32} {K : Int32 → Option R'} (X : xC Γ cc Ts own rt rm D ad N) (hSC : xSC Γ bb LL xs) (dg : decode cc pc = .ok (.iaload, 1)) (kk : ∀ z, xM Γ D ad N Sh Q k n (K z) σ (pc + 1) lv (.int z :: st)) : xM Γ D ad N Sh Q k n (if xin i LL = true then xlet (xs i.toNatClampNeg) K else none) σ pc lv (.int i :: .ref bb :: st) := by
  refine x_if (fun hi0 => ?_) (fun _ => xM_none)
  have hi := xin_vp hi0
  obtain ⟨p, l, e, R, s, m, args, below, meth, c, nL, A⟩ := Γ
  exact fun q hq H locs ls hP hS hl => va_sld X.1 X.2.1 hSC.1 hSC.2.1 hSC.2.2 hS hi dg (kk _ q hq H locs ls hP hS hl)
end XL
/-- a method's start, with the script -/
def xPreS (D : va_G) (ad : Nat → Nat) (N : Nat) (Sh : xSh) (σ : xS) (sz : Nat) (bb LL : Nat) (xs : Nat → Int32) (U : State) : Prop := xPre D ad N Sh σ sz U ∧ va_X bb LL xs U U.heap ∧ bb < U.heap.size ∧ ¬ xA ad N sz bb
def xKS (l : Launch) (y : MethodName) (ws : List Cond) (rm : Room) (mc ms : Nat) (D : va_G) (ad : Nat → Nat) (N : Nat) (Sh : xSh) (bb LL : Nat) (xs : Nat → Int32) (av : List Value) (σ : xS) (ex : Option (Int32 × xS)) : Prop :=
  ∀ (sz : Nat) (q : Int32 × xS), ex = some q → Met l y ws rm (va_Pc av (xPreS D ad N Sh σ sz bb LL xs)) (va_Qi (fun (r : Int32) (u : xS) => q = (r, u)) (fun u t => va_P D vwCl (xW ad N Sh u) t.heap) (xA ad N sz)) mc ms (xA ad N sz)
theorem x_startS {l : Launch} {y : MethodName} {ws ws' : List Cond} {rm : Room} {mc ms : Nat} {D : va_G} {ad : Nat → Nat} {N : Nat} {Sh : xSh} {av : List Value} {σ : xS} {cc : ByteArray} {maxL : Nat} {ret : Option FieldType} {lv : List (Nat × Value)} {ex : Option (Int32 × xS)} {own : String} {bb LL : Nat} {xs : Nat → Int32} (hy : plainName y.cls = true) (hoy : y.cls = own) (hw : ws = Cond.code y cc maxL ret :: ws') (hlen : (lg_sl av).length ≤ maxL) (hlv : lv_args 0 av = lv) (hI : ∀ i j, i < N → j < N → ad i = ad j → i = j)
    (body : ∀ Γ : xG, Γ.2.1 = l → Γ.2.2.2.2.2.2.2.2.2.2.1 = maxL → xSC Γ bb LL xs → xC Γ cc ws own ret rm D ad N → xM Γ D ad N Sh (xQI Γ D ad N Sh mc ms) 0 0 ex σ 0 lv []) : xKS l y ws rm mc ms D ad N Sh bb LL xs av σ ex := by
  intro sz q hq
  refine Met.ofW hy hw ?_
  intro p e s m args below meth c s₁ B hml hv
  obtain ⟨rfl, ⟨hsz, hP, hK, hNW, hSF⟩, hX1, hX2, hX3⟩ := hv
  subst hsz
  subst hoy
  have hl := lv_entry av (n := maxL) hlen
  rw [lg_entry_eq]
  rw [hlv] at hl
  exact body (p, l, e, rm, s, m, av.toArray, below, meth, c, maxL, xA ad N s.heap.size) rfl rfl ⟨hX1, hX2, hX3⟩ ⟨B.exec, B.bytes, findClass_of_methodNamed B.named, atoms_spec (ws := ws) B.pre, hK, fun q h => Or.inr h, fun i h => Or.inl ⟨i, h, rfl⟩, hI, hml, B.returns, B.notSynchronized, hNW, hSF, rfl⟩ q hq s.heap [] _ hP va_S.rf hl
theorem xBlindS {av : List Value} {D : va_G} {ad : Nat → Nat} {N : Nat} {Sh : xSh} {σ : xS} {sz bb LL : Nat} {xs : Nat → Int32} : FrameBlind (va_Pc av (xPreS D ad N Sh σ sz bb LL xs)) := by
  intro a U g mk h
  obtain ⟨h0, ⟨h1, h2, h3, h4, h5⟩, h6, h7, h8⟩ := h
  exact ⟨h0, ⟨h1, h2, va_K.moved (u := U) (U := U.calling g mk a) (Vm.Alike.refl U.vm) h3, xNW_same (u := U) (U := U.calling g mk a) rfl h4, xSF_to h5 (U := U.calling g mk a) (Vm.Alike.refl U.vm) (fun _ _ _ => rfl) (fun _ h => h)⟩, va_X.moved (u := U) (U := U.calling g mk a) (Vm.Alike.refl U.vm) h6, h7, h8⟩
theorem xCallPreS {p : Program} {R : Room} {s : State} {m : MethodId} {args : Array Value} {meth : Method} {c : Code} {nL : Nat} {A : Nat → Prop} {cc : ByteArray} {Ts : List Cond} {own : String} {ret : Option FieldType} {rm : Room} {D : va_G} {ad : Nat → Nat} {N : Nat} {Sh : xSh} {σ : xS} {H : Heap} {locs : List Loc} {av : List Value} {bb LL : Nat} {xs : Nat → Int32} (X : xCC p R s m args meth c nL A cc Ts own ret rm D ad N) (hSC : va_X bb LL xs s s.heap ∧ bb < s.heap.size ∧ ¬ A bb) (hP : va_P D vwCl (xW ad N Sh σ) H) (hS : va_S A s.heap H locs) :
    ∀ U : State, U.heap = H → s.WarmedH U.vm → va_Pc av (xPreS D ad N Sh σ H.size bb LL xs) av.toArray U := by
  intro U hU hW
  obtain ⟨h0, h1⟩ := xCallPre (av := av) X hP hS U hU hW
  refine ⟨h0, h1, ?_, ?_, ?_⟩
  · rw [hU]
    exact va_X.moved hW.alike (va_X.kept hSC.1 (hS.2.1 bb hSC.2.1 hSC.2.2))
  · rw [hU]
    exact Nat.lt_of_lt_of_le hSC.2.1 hS.1
  · intro h
    rcases h with ⟨i, h, rfl⟩ | h
    · exact hSC.2.2 (X.2.2.2.2.2.2.1 i h)
    · exact absurd (Nat.lt_of_lt_of_le hSC.2.1 hS.1) (Nat.not_lt.mpr h)
theorem xr_callSS {R' : Type} {Γ : xG} {cc : ByteArray} {Ts : List Cond} {own : String} {ret : Option FieldType} {rm : Room} {D : va_G} {ad : Nat → Nat} {N : Nat} {Sh : xSh} {Q : R' → State → Prop} {k n : Nat} {σ : xS} {pc : Nat} {lv : List (Nat × Value)} {st rest : List Value} {index na maxL mc ms : Nat} {y : MethodName} {bytes : ByteArray} {ws ws' : List Cond} {rm1 : Room} {ret1 : Option FieldType} {bb LL : Nat} {xs : Nat → Int32} {K : Int32 → xS → Option R'} {e1 : Option (Int32 × xS)} (X : xC Γ cc Ts own ret rm D ad N) (hSC : xSC Γ bb LL xs) (As : List Value) (hM : xKS Γ.2.1 y ws rm1 mc ms D ad N Sh bb LL xs As σ e1) (hT : GoodIn Ts (va_wsS own index y ws)) (hw : ws = Cond.code y bytes maxL ret1 :: ws') (hrc : rm1.cells = mc) (hrs : rm1.slots = ms) (hd : y.cls ≠ "java/lang/invoke/MethodHandle" ∧ y.cls ≠ "java/lang/invoke/VarHandle" ∧ (parseMethodDescriptor y.desc).map (fun d => d.parameters.length) = some na) (hR : rm1.frames + 1 ≤ rm.frames ∧ 8 + (maxL + 11) + rm1.locals ≤ rm.locals)
    (hn : As.length = na) (hst : As.reverse ++ rest = st) (hcat : (rest.map fun v => v.category).sum ≤ 8) (hf : k + mc ≤ rm.cells ∧ n + ms ≤ rm.slots) (dg : decode cc pc = .ok (.invokestatic index, 3))
    (kk : ∀ r σ1, xM Γ D ad N Sh Q (k + mc) (n + ms) (K r σ1) σ1 (pc + 3) lv (.int r :: rest)) : xM Γ D ad N Sh Q k n (xbI e1 K) σ pc lv st := by
  obtain ⟨p, l, e, R, s, m, args, below, meth, c, nL, A⟩ := Γ
  have hRR : R = rm := X.2.2.2.2.2.2.2.2.2.2.2.2.2
  subst hRR
  intro q hq
  cases h1 : e1 with
  | none => rw [h1] at hq; cases hq
  | some q1 =>
    rw [h1] at hq
    intro H locs ls hP hS hl
    exact va_calli (va_runS (As := As) (rest := rest) ⟨X.1, X.2.1, X.2.2.2.2.2.2.2.2.1, X.2.2.1, X.2.2.2.1⟩ (hM H.size q1 h1) (va_cwS na X.2.2.2.1 hT hw hrc hrs hd hR) ⟨xBlindS, xCallPreS X hSC hP hS⟩ rfl hn hl.1 hst.symm (lv_room hcat) dg hf) hS (fun q _ h => xA_sub X.2.2.2.2.2.1 X.2.2.2.2.2.2.1 hS q h) (xA_sub X.2.2.2.2.2.1 X.2.2.2.2.2.2.1 hS)
      (fun r u t H1 locs1 ht hvm hp hB hz hk hS1 => kk r u q (by subst hp; exact hq) H1 locs1 ls (ht ▸ hB) hS1 hl)
