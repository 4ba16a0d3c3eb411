/-! what a method owes at its end; calls -/
def xQI (Γ : xG) (D : va_G) (ad : Nat → Nat) (N : Nat) (Sh : xSh) (k n : Nat) (q : Int32 × xS) : State → Prop :=
  match Γ with
  | (_, _, _, _, s, _, args, below, _, _, _, A) => MQ below (va_Qi (fun (r : Int32) (u : xS) => q = (r, u)) (fun u t => va_P D vwCl (xW ad N Sh u) t.heap) A) args s k n A
def xQV (Γ : xG) (D : va_G) (ad : Nat → Nat) (N : Nat) (Sh : xSh) (k n : Nat) (q : xS) : State → Prop :=
  match Γ with
  | (_, _, _, _, s, _, args, below, _, _, _, A) => MQ below (va_Qv (fun (u : xS) => q = u) (fun u t => va_P D vwCl (xW ad N Sh u) t.heap) A) args s k n A
/-- a method's contract: where the expression has a value, it returns it -/
def xKI (l : Launch) (y : MethodName) (ws : List Cond) (rm : Room) (mc ms : Nat) (D : va_G) (ad : Nat → Nat) (N : Nat) (Sh : xSh) (av : List Value) (σ : xS) (ex : Option (Int32 × xS)) : Prop :=
  ∀ (sz : Nat) (q : Int32 × xS), ex = some q → Met l y ws rm (va_Pc av (xPre D ad N Sh σ sz)) (va_Qi (fun (r : Int32) (u : xS) => q = (r, u)) (fun u t => va_P D vwCl (xW ad N Sh u) t.heap) (xA ad N sz)) mc ms (xA ad N sz)
def xKV (l : Launch) (y : MethodName) (ws : List Cond) (rm : Room) (mc ms : Nat) (D : va_G) (ad : Nat → Nat) (N : Nat) (Sh : xSh) (av : List Value) (σ : xS) (ex : Option xS) : Prop :=
  ∀ (sz : Nat) (q : xS), ex = some q → Met l y ws rm (va_Pc av (xPre D ad N Sh σ sz)) (va_Qv (fun (u : xS) => q = u) (fun u t => va_P D vwCl (xW ad N Sh u) t.heap) (xA ad N sz)) mc ms (xA ad N sz)
def xbI {R' : Type} (e : Option (Int32 × xS)) (K : Int32 → xS → Option R') : Option R' := match e with
  | none => none
  | some q => K q.1 q.2
def xbV {R' : Type} (e : Option xS) (K : xS → Option R') : Option R' := match e with
  | none => none
  | some q => K q
section XS
variable {l : Launch} {y : MethodName} {ws ws' : List Cond} {rm : Room} {mc ms : Nat} {D : va_G} {ad : Nat → Nat} {N : Nat} {Sh : xSh} {av : List Value} {σ : xS} {cc : ByteArray} {maxL : Nat} {ret : Option FieldType} {lv : List (Nat × Value)}
theorem x_startI {ex : Option (Int32 × xS)} {own : String} (hy : plainName y.cls = true) (hoy : y.cls = own) (hw : ws = Cond.code y cc maxL ret :: ws') (hlen : (lg_sl av).length ≤ maxL) (hlv : lv_args 0 av = lv) (hI : ∀ i j, i < N → j < N → ad i = ad j → i = j)
    (body : ∀ Γ : xG, Γ.2.1 = l → Γ.2.2.2.2.2.2.2.2.2.2.1 = maxL → xC Γ cc ws own ret rm D ad N → xM Γ D ad N Sh (xQI Γ D ad N Sh mc ms) 0 0 ex σ 0 lv []) : xKI l y ws rm mc ms D ad N Sh av σ ex := by
  intro sz q hq
  refine Met.ofW hy hw ?_
  intro p e s m args below meth c s₁ B hml hv
  obtain ⟨rfl, hsz, hP, hK, hNW, hSF⟩ := hv
  subst hsz
  subst hoy
  have hl := lv_entry av (n := maxL) hlen
  rw [lg_entry_eq]
  rw [hlv] at hl
  exact body (p, l, e, rm, s, m, av.toArray, below, meth, c, maxL, xA ad N s.heap.size) rfl rfl ⟨B.exec, B.bytes, findClass_of_methodNamed B.named, atoms_spec (ws := ws) B.pre, hK, fun q h => Or.inr h, fun i h => Or.inl ⟨i, h, rfl⟩, hI, hml, B.returns, B.notSynchronized, hNW, hSF, rfl⟩ q hq s.heap [] _ hP va_S.rf hl
theorem x_startV {ex : Option xS} {own : String} (hy : plainName y.cls = true) (hoy : y.cls = own) (hw : ws = Cond.code y cc maxL ret :: ws') (hlen : (lg_sl av).length ≤ maxL) (hlv : lv_args 0 av = lv) (hI : ∀ i j, i < N → j < N → ad i = ad j → i = j)
    (body : ∀ Γ : xG, Γ.2.1 = l → Γ.2.2.2.2.2.2.2.2.2.2.1 = maxL → xC Γ cc ws own ret rm D ad N → xM Γ D ad N Sh (xQV Γ D ad N Sh mc ms) 0 0 ex σ 0 lv []) : xKV l y ws rm mc ms D ad N Sh av σ ex := by
  intro sz q hq
  refine Met.ofW hy hw ?_
  intro p e s m args below meth c s₁ B hml hv
  obtain ⟨rfl, hsz, hP, hK, hNW, hSF⟩ := hv
  subst hsz
  subst hoy
  have hl := lv_entry av (n := maxL) hlen
  rw [lg_entry_eq]
  rw [hlv] at hl
  exact body (p, l, e, rm, s, m, av.toArray, below, meth, c, maxL, xA ad N s.heap.size) rfl rfl ⟨B.exec, B.bytes, findClass_of_methodNamed B.named, atoms_spec (ws := ws) B.pre, hK, fun q h => Or.inr h, fun i h => Or.inl ⟨i, h, rfl⟩, hI, hml, B.returns, B.notSynchronized, hNW, hSF, rfl⟩ q hq s.heap [] _ hP va_S.rf hl
end XS
section XE
variable {Γ : xG} {cc : ByteArray} {Ts : List Cond} {own : String} {ret : Option FieldType} {rm : Room} {D : va_G} {ad : Nat → Nat} {N : Nat} {Sh : xSh} {k n k1 n1 : Nat} {σ : xS} {pc : Nat} {lv : List (Nat × Value)}
theorem xr_iret (X : xC Γ cc Ts own (some .int) rm D ad N) {v : Int32} (hk : k ≤ k1) (hn : n ≤ n1) (dg : decode cc pc = .ok (.ireturn, 1)) : xM Γ D ad N Sh (xQI Γ D ad N Sh k1 n1) k n (some (v, σ)) σ pc lv [.int v] := by
  obtain ⟨p, l, e, R, s, m, args, below, meth, c, nL, A⟩ := Γ
  intro q hq H locs ls hP hS hl
  cases hq
  exact W.widen hk hn (W.iret (v := v) X.1 X.2.1 X.2.2.2.2.2.2.2.2.2.1 (fun t ht hW => ⟨⟨v, σ, rfl, rfl, show va_P D vwCl (xW ad N Sh σ) t.heap by rw [ht]; exact hP⟩, hS.F ht⟩) hS.2.2 dg (hlocks := X.2.2.2.2.2.2.2.2.2.2.1))
theorem xr_zret {ty : FieldType} (X : xC Γ cc Ts own (some ty) rm D ad N) {v : Int32} (hv : narrow ty (.int v) = .int v) (hk : k ≤ k1) (hn : n ≤ n1) (dg : decode cc pc = .ok (.ireturn, 1)) : xM Γ D ad N Sh (xQI Γ D ad N Sh k1 n1) k n (some (v, σ)) σ pc lv [.int v] := by
  obtain ⟨p, l, e, R, s, m, args, below, meth, c, nL, A⟩ := Γ
  intro q hq H locs ls hP hS hl
  cases hq
  exact W.widen hk hn (W.zret (v := v) X.1 X.2.1 X.2.2.2.2.2.2.2.2.2.1 hv (fun t ht hW => ⟨⟨v, σ, rfl, rfl, show va_P D vwCl (xW ad N Sh σ) t.heap by rw [ht]; exact hP⟩, hS.F ht⟩) hS.2.2 dg (hlocks := X.2.2.2.2.2.2.2.2.2.2.1))
theorem xr_zretG (X : xC Γ cc Ts own (some .boolean) rm D ad N) {v : Int32} (hk : k ≤ k1) (hn : n ≤ n1) (dg : decode cc pc = .ok (.ireturn, 1)) : xM Γ D ad N Sh (xQI Γ D ad N Sh k1 n1) k n (if vp_nar .boolean v = v then some (v, σ) else none) σ pc lv [.int v] :=
  x_gd (fun h => xr_zret X (congrArg Value.int h) hk hn dg)
theorem xr_cretG (X : xC Γ cc Ts own (some .char) rm D ad N) {v : Int32} (hk : k ≤ k1) (hn : n ≤ n1) (dg : decode cc pc = .ok (.ireturn, 1)) : xM Γ D ad N Sh (xQI Γ D ad N Sh k1 n1) k n (if vp_nar .char v = v then some (v, σ) else none) σ pc lv [.int v] :=
  x_gd (fun h => xr_zret X (congrArg Value.int h) hk hn dg)
theorem xr_vret (X : xC Γ cc Ts own none rm D ad N) (hk : k ≤ k1) (hn : n ≤ n1) (dg : decode cc pc = .ok (.return_, 1)) : xM Γ D ad N Sh (xQV Γ D ad N Sh k1 n1) k n (some σ) σ pc lv [] := by
  obtain ⟨p, l, e, R, s, m, args, below, meth, c, nL, A⟩ := Γ
  intro q hq H locs ls hP hS hl
  cases hq
  exact W.widen hk hn (W.vret X.1 X.2.1 X.2.2.2.2.2.2.2.2.2.1 (fun t ht hW => ⟨⟨σ, rfl, rfl, show va_P D vwCl (xW ad N Sh σ) t.heap by rw [ht]; exact hP⟩, hS.F ht⟩) hS.2.2 dg (hlocks := X.2.2.2.2.2.2.2.2.2.2.1))
end XE
theorem xBlind {av : List Value} {D : va_G} {ad : Nat → Nat} {N : Nat} {Sh : xSh} {σ : xS} {sz : Nat} : FrameBlind (va_Pc av (xPre D ad N Sh σ sz)) := by
  intro a U g mk h
  obtain ⟨h0, h1, h2, h3, h4, h5⟩ := h
  exact ⟨h0, h1, h2, va_K.moved (u := U) (U := U.calling g mk a) (Vm.Alike.refl U.vm) h3, xNW_same (u := U) (U := U.calling g mk a) rfl h4, xSF_to h5 (U := U.calling g mk a) (Vm.Alike.refl U.vm) (fun _ _ _ => rfl) (fun _ h => h)⟩
theorem xA_sub {A : Nat → Prop} {ad : Nat → Nat} {N : Nat} {H0 H : Heap} {locs : List Loc} (hA : ∀ q : Nat, H0.size ≤ q → A q) (hi : ∀ i, i < N → A (ad i)) (hS : va_S A H0 H locs) : ∀ q, xA ad N H.size q → A q := by
  intro q h
  rcases h with ⟨i, h, rfl⟩ | h
  · exact hi i h
  · exact hA q (Nat.le_trans hS.1 h)
theorem xCallPre {p : Program} {R : Room} {s : State} {m : MethodId} {args : Array Value} {meth : Method} {c : Code} {nL : Nat} {A : Nat → Prop} {cc : ByteArray} {Ts : List Cond} {own : String} {ret : Option FieldType} {rm : Room} {D : va_G} {ad : Nat → Nat} {N : Nat} {Sh : xSh} {σ : xS} {H : Heap} {locs : List Loc} {av : List Value} (X : xCC p R s m args meth c nL A cc Ts own ret rm D ad N) (hP : va_P D vwCl (xW ad N Sh σ) H) (hS : va_S A s.heap H locs) :
    ∀ U : State, U.heap = H → s.WarmedH U.vm → va_Pc av (xPre D ad N Sh σ H.size) av.toArray U := by
  intro U hU hW
  refine ⟨rfl, by rw [hU], by rw [hU]; exact hP, va_K.moved hW.alike X.2.2.2.2.1, xNW_warm hW X.2.2.2.2.2.2.2.2.2.2.2.1, ?_⟩
  rw [hU]
  exact xSF_to X.2.2.2.2.2.2.2.2.2.2.2.2.1 hW.alike (fun a h1 h2 => hS.2.1 a h1 h2) (xA_sub X.2.2.2.2.2.1 X.2.2.2.2.2.2.1 hS)
section XCALL
variable {R' : Type} {Γ : xG} {cc : ByteArray} {Ts : List Cond} {own : String} {ret : Option FieldType} {rm : Room} {D : va_G} {ad : Nat → Nat} {N : Nat} {Sh : xSh} {Q : R' → State → Prop} {k n : Nat} {σ : xS} {pc : Nat} {lv : List (Nat × Value)} {st rest : List Value}
variable {C : String} {T : u_T} {NF ci index na maxL mc ms : Nat} {y : MethodName} {bytes : ByteArray} {ws ws' : List Cond} {rm1 : Room} {ret1 : Option FieldType} {As : List Value} {fs : List Value}
theorem xr_callVI {K : Int32 → xS → Option R'} {e1 : Option (Int32 × xS)} (X : xC Γ cc Ts own ret rm D ad N) (b : Nat) (As : List Value) (sh : (Nat → Int32) → va_E) (hM : xKI Γ.2.1 y ws rm1 mc ms D ad N Sh (.ref (ad b) :: As) σ e1) (hT : GoodIn Ts (wsV own index C y ws)) (hw : ws = Cond.code y bytes maxL ret1 :: ws') (hrc : rm1.cells = mc) (hrs : rm1.slots = ms) (hd : y.cls = C ∧ y.cls ≠ "java/lang/invoke/MethodHandle" ∧ y.cls ≠ "java/lang/invoke/VarHandle" ∧ (parseMethodDescriptor y.desc).map (fun d => d.parameters.length) = some na) (hR : rm1.frames + 1 ≤ rm.frames ∧ 8 + (maxL + 11) + rm1.locals ≤ rm.locals)
    (hb : b < N) (hs : Sh b = sh) (he : sh (σ b) = .inr (ci, fs)) (hc : vwCl[ci]? = some (C, T, NF)) (hn : As.length = na) (hst : As.reverse ++ .ref (ad b) :: rest = st) (hcat : (rest.map fun v => v.category).sum ≤ 8) (hf : k + mc ≤ rm.cells ∧ n + ms ≤ rm.slots) (dg : decode cc pc = .ok (.invokevirtual index, 3))
    (kk : ∀ r σ1, xM Γ D ad N Sh Q (k + mc) (n + ms) (K r σ1) σ1 (pc + 3) lv (.int r :: rest)) : xM Γ D ad N Sh Q k n (xbI e1 K) σ pc lv st := by
  obtain ⟨p, l, e, R, s, m, args, below, meth, c, nL, A⟩ := Γ
  have hRR : R = rm := X.2.2.2.2.2.2.2.2.2.2.2.2.2
  subst hRR
  intro q hq
  cases h1 : e1 with
  | none => rw [h1] at hq; cases hq
  | some q1 =>
    rw [h1] at hq
    intro H locs ls hP hS hl
    have hcell : (xW ad N Sh σ)[b]? = some (ad b, .inr (ci, fs)) := by rw [xW_get hb, hs, he]
    exact va_calli (va_runV (As := As) (rest := rest) ⟨X.1, X.2.1, X.2.2.2.2.2.2.2.2.1, X.2.2.1, X.2.2.2.1⟩ (hM H.size q1 h1) (cwV na X.2.2.2.1 hT hw hrc hrs hd hR) ⟨xBlind, va_recv X.2.2.2.2.1 hP hc hcell, xCallPre X hP hS⟩ rfl hn hl.1 hst.symm (lv_room hcat) dg hf) hS (fun q _ h => xA_sub X.2.2.2.2.2.1 X.2.2.2.2.2.2.1 hS q h) (xA_sub X.2.2.2.2.2.1 X.2.2.2.2.2.2.1 hS)
      (fun r u t H1 locs1 ht hvm hp hB hz hk hS1 => kk r u q (by subst hp; exact hq) H1 locs1 ls (ht ▸ hB) hS1 hl)
theorem xr_callVV {K : xS → Option R'} {e1 : Option xS} (X : xC Γ cc Ts own ret rm D ad N) (b : Nat) (As : List Value) (sh : (Nat → Int32) → va_E) (hM : xKV Γ.2.1 y ws rm1 mc ms D ad N Sh (.ref (ad b) :: As) σ e1) (hT : GoodIn Ts (wsV own index C y ws)) (hw : ws = Cond.code y bytes maxL ret1 :: ws') (hrc : rm1.cells = mc) (hrs : rm1.slots = ms) (hd : y.cls = C ∧ y.cls ≠ "java/lang/invoke/MethodHandle" ∧ y.cls ≠ "java/lang/invoke/VarHandle" ∧ (parseMethodDescriptor y.desc).map (fun d => d.parameters.length) = some na) (hR : rm1.frames + 1 ≤ rm.frames ∧ 8 + (maxL + 11) + rm1.locals ≤ rm.locals)
    (hb : b < N) (hs : Sh b = sh) (he : sh (σ b) = .inr (ci, fs)) (hc : vwCl[ci]? = some (C, T, NF)) (hn : As.length = na) (hst : As.reverse ++ .ref (ad b) :: rest = st) (hcat : (rest.map fun v => v.category).sum ≤ 8) (hf : k + mc ≤ rm.cells ∧ n + ms ≤ rm.slots) (dg : decode cc pc = .ok (.invokevirtual index, 3))
    (kk : ∀ σ1, xM Γ D ad N Sh Q (k + mc) (n + ms) (K σ1) σ1 (pc + 3) lv rest) : xM Γ D ad N Sh Q k n (xbV e1 K) σ pc lv st := by
  obtain ⟨p, l, e, R, s, m, args, below, meth, c, nL, A⟩ := Γ
  have hRR : R = rm := X.2.2.2.2.2.2.2.2.2.2.2.2.2
  subst hRR
  intro q hq
  cases h1 : e1 with
  | none => rw [h1] at hq; cases hq
  | some q1 =>
    rw [h1] at hq
    intro H locs ls hP hS hl
    have hcell : (xW ad N Sh σ)[b]? = some (ad b, .inr (ci, fs)) := by rw [xW_get hb, hs, he]
    exact va_callv (va_runV (As := As) (rest := rest) ⟨X.1, X.2.1, X.2.2.2.2.2.2.2.2.1, X.2.2.1, X.2.2.2.1⟩ (hM H.size q1 h1) (cwV na X.2.2.2.1 hT hw hrc hrs hd hR) ⟨xBlind, va_recv X.2.2.2.2.1 hP hc hcell, xCallPre X hP hS⟩ rfl hn hl.1 hst.symm (lv_room hcat) dg hf) hS (fun q _ h => xA_sub X.2.2.2.2.2.1 X.2.2.2.2.2.2.1 hS q h) (xA_sub X.2.2.2.2.2.1 X.2.2.2.2.2.2.1 hS)
      (fun u t H1 locs1 ht hvm hp hB hz hk hS1 => kk u q (by subst hp; exact hq) H1 locs1 ls (ht ▸ hB) hS1 hl)
theorem xr_callSI {K : Int32 → xS → Option R'} {e1 : Option (Int32 × xS)} (X : xC Γ cc Ts own ret rm D ad N) (As : List Value) (hM : xKI Γ.2.1 y ws rm1 mc ms D ad N Sh As σ e1) (hT : GoodIn Ts (va_wsS own index y ws)) (hw : ws = Cond.code y bytes maxL ret1 :: ws') (hrc : rm1.cells = mc) (hrs : rm1.slots = ms) (hd : y.cls ≠ "java/lang/invoke/MethodHandle" ∧ y.cls ≠ "java/lang/invoke/VarHandle" ∧ (parseMethodDescriptor y.desc).map (fun d => d.parameters.length) = some na) (hR : rm1.frames + 1 ≤ rm.frames ∧ 8 + (maxL + 11) + rm1.locals ≤ rm.locals)
    (hn : As.length = na) (hst : As.reverse ++ rest = st) (hcat : (rest.map fun v => v.category).sum ≤ 8) (hf : k + mc ≤ rm.cells ∧ n + ms ≤ rm.slots) (dg : decode cc pc = .ok (.invokestatic index, 3))
    (kk : ∀ r σ1, xM Γ D ad N Sh Q (k + mc) (n + ms) (K r σ1) σ1 (pc + 3) lv (.int r :: rest)) : xM Γ D ad N Sh Q k n (xbI e1 K) σ pc lv st := by
  obtain ⟨p, l, e, R, s, m, args, below, meth, c, nL, A⟩ := Γ
  have hRR : R = rm := X.2.2.2.2.2.2.2.2.2.2.2.2.2
  subst hRR
  intro q hq
  cases h1 : e1 with
  | none => rw [h1] at hq; cases hq
  | some q1 =>
    rw [h1] at hq
    intro H locs ls hP hS hl
    exact va_calli (va_runS (As := As) (rest := rest) ⟨X.1, X.2.1, X.2.2.2.2.2.2.2.2.1, X.2.2.1, X.2.2.2.1⟩ (hM H.size q1 h1) (va_cwS na X.2.2.2.1 hT hw hrc hrs hd hR) ⟨xBlind, xCallPre X hP hS⟩ rfl hn hl.1 hst.symm (lv_room hcat) dg hf) hS (fun q _ h => xA_sub X.2.2.2.2.2.1 X.2.2.2.2.2.2.1 hS q h) (xA_sub X.2.2.2.2.2.1 X.2.2.2.2.2.2.1 hS)
      (fun r u t H1 locs1 ht hvm hp hB hz hk hS1 => kk r u q (by subst hp; exact hq) H1 locs1 ls (ht ▸ hB) hS1 hl)
theorem xr_callSV {K : xS → Option R'} {e1 : Option xS} (X : xC Γ cc Ts own ret rm D ad N) (As : List Value) (hM : xKV Γ.2.1 y ws rm1 mc ms D ad N Sh As σ e1) (hT : GoodIn Ts (va_wsS own index y ws)) (hw : ws = Cond.code y bytes maxL ret1 :: ws') (hrc : rm1.cells = mc) (hrs : rm1.slots = ms) (hd : y.cls ≠ "java/lang/invoke/MethodHandle" ∧ y.cls ≠ "java/lang/invoke/VarHandle" ∧ (parseMethodDescriptor y.desc).map (fun d => d.parameters.length) = some na) (hR : rm1.frames + 1 ≤ rm.frames ∧ 8 + (maxL + 11) + rm1.locals ≤ rm.locals)
    (hn : As.length = na) (hst : As.reverse ++ rest = st) (hcat : (rest.map fun v => v.category).sum ≤ 8) (hf : k + mc ≤ rm.cells ∧ n + ms ≤ rm.slots) (dg : decode cc pc = .ok (.invokestatic index, 3))
    (kk : ∀ σ1, xM Γ D ad N Sh Q (k + mc) (n + ms) (K σ1) σ1 (pc + 3) lv rest) : xM Γ D ad N Sh Q k n (xbV e1 K) σ pc lv st := by
  obtain ⟨p, l, e, R, s, m, args, below, meth, c, nL, A⟩ := Γ
  have hRR : R = rm := X.2.2.2.2.2.2.2.2.2.2.2.2.2
  subst hRR
  intro q hq
  cases h1 : e1 with
  | none => rw [h1] at hq; cases hq
  | some q1 =>
    rw [h1] at hq
    intro H locs ls hP hS hl
    exact va_callv (va_runS (As := As) (rest := rest) ⟨X.1, X.2.1, X.2.2.2.2.2.2.2.2.1, X.2.2.1, X.2.2.2.1⟩ (hM H.size q1 h1) (va_cwS na X.2.2.2.1 hT hw hrc hrs hd hR) ⟨xBlind, xCallPre X hP hS⟩ rfl hn hl.1 hst.symm (lv_room hcat) dg hf) hS (fun q _ h => xA_sub X.2.2.2.2.2.1 X.2.2.2.2.2.2.1 hS q h) (xA_sub X.2.2.2.2.2.1 X.2.2.2.2.2.2.1 hS)
      (fun u t H1 locs1 ht hvm hp hB hz hk hS1 => kk u q (by subst hp; exact hq) H1 locs1 ls (ht ▸ hB) hS1 hl)
/-- a static call of a nest mate's private method -/
theorem xr_callSNI {K : Int32 → xS → Option R'} {e1 : Option (Int32 × xS)} {host : String} (X : xC Γ cc Ts own ret rm D ad N) (As : List Value) (hM : xKI Γ.2.1 y ws rm1 mc ms D ad N Sh As σ e1) (hT : GoodIn Ts ws) (j : Nat) (hj : xNw[j]? = some (Cond.methodLinkNest own index y host)) (hini : Cond.initialized y.cls ∈ Ts) (hstat : Cond.static y ∈ Ts) (hw : ws = Cond.code y bytes maxL ret1 :: ws') (hrc : rm1.cells = mc) (hrs : rm1.slots = ms) (hd : y.cls ≠ "java/lang/invoke/MethodHandle" ∧ y.cls ≠ "java/lang/invoke/VarHandle" ∧ (parseMethodDescriptor y.desc).map (fun d => d.parameters.length) = some na) (hR : rm1.frames + 1 ≤ rm.frames ∧ 8 + (maxL + 11) + rm1.locals ≤ rm.locals)
    (hn : As.length = na) (hst : As.reverse ++ rest = st) (hcat : (rest.map fun v => v.category).sum ≤ 8) (hf : k + mc ≤ rm.cells ∧ n + ms ≤ rm.slots) (dg : decode cc pc = .ok (.invokestatic index, 3))
    (kk : ∀ r σ1, xM Γ D ad N Sh Q (k + mc) (n + ms) (K r σ1) σ1 (pc + 3) lv (.int r :: rest)) : xM Γ D ad N Sh Q k n (xbI e1 K) σ pc lv st := by
  obtain ⟨p, l, e, R, s, m, args, below, meth, c, nL, A⟩ := Γ
  have hRR : R = rm := X.2.2.2.2.2.2.2.2.2.2.2.2.2
  subst hRR
  intro q hq
  cases h1 : e1 with
  | none => rw [h1] at hq; cases hq
  | some q1 =>
    rw [h1] at hq
    intro H locs ls hP hS hl
    exact va_calli (va_runSN (As := As) (rest := rest) ⟨X.1, X.2.1, X.2.2.2.2.2.2.2.2.1, X.2.2.1, X.2.2.2.1⟩ (hM H.size q1 h1) ⟨va_cnB na X.2.2.2.1 hT hw hrc hrs (X.2.2.2.2.2.2.2.2.2.2.2.1 _ (List.mem_of_getElem? hj)) (X.2.2.2.1 _ hini) hd hR, X.2.2.2.1 _ hstat, trivial⟩ ⟨xBlind, xCallPre X hP hS⟩ rfl hn hl.1 hst.symm (lv_room hcat) dg hf) hS (fun q _ h => xA_sub X.2.2.2.2.2.1 X.2.2.2.2.2.2.1 hS q h) (xA_sub X.2.2.2.2.2.1 X.2.2.2.2.2.2.1 hS)
      (fun r u t H1 locs1 ht hvm hp hB hz hk hS1 => kk r u q (by subst hp; exact hq) H1 locs1 ls (ht ▸ hB) hS1 hl)
end XCALL
