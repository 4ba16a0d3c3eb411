/-! THE LAW'S OWN METHODS: calls with handlers -/
theorem wG_SW {c0 : Cond} {own : String} {idx n : Nat} {y : MethodName} {cc : ByteArray} {rt : Option FieldType} {hh : List (Nat × Nat × Nat × Nat)} (h1 : Cond.codeWith y cc n rt hh ∈ wG) (a : Cond.methodLink own idx y ∈ wG) (b : Cond.static y ∈ wG) (d : Cond.initialized y.cls ∈ wG) : GoodIn (c0 :: wG) (va_wsS own idx y (Cond.codeWith y cc n rt hh :: wG)) :=
  wG_in h1 (fun w h => by
    simp only [List.mem_cons, List.not_mem_nil, or_false] at h
    rcases h with rfl | rfl | rfl
    · exact a
    · exact b
    · exact d) rfl
theorem x_startH {l : Launch} {y : MethodName} {ws ws' : List Cond} {rm : Room} {mc ms : Nat} {D : va_G} {ad : Nat → Nat} {N : Nat} {Sh : xSh} {av : List Value} {σ : xS} {cc : ByteArray} {maxL : Nat} {ret : Option FieldType} {lv : List (Nat × Value)} {ex : Option (Int32 × xS)} {own : String} {hh : List (Nat × Nat × Nat × Nat)} {tb : List ExceptionTableEntry} (hy : plainName y.cls = true) (hoy : y.cls = own) (hw : ws = Cond.codeWith y cc maxL ret hh :: ws') (htb : tableOf hh = tb) (hlen : (lg_sl av).length ≤ maxL) (hlv : lv_args 0 av = lv) (hI : ∀ i j, i < N → j < N → ad i = ad j → i = j)
    (body : ∀ Γ : xG, Γ.2.1 = l → Γ.2.2.2.2.2.2.2.2.2.2.1 = maxL → Γ.2.2.2.2.2.2.2.2.2.1.exceptionTable.toList = tb → xC Γ cc ws own ret rm D ad N → xM Γ D ad N Sh (xQI Γ D ad N Sh mc ms) 0 0 ex σ 0 lv []) : xKI l y ws rm mc ms D ad N Sh av σ ex := by
  intro sz q hq
  refine MetFree.of_bodyS (code := cc) (maxLocals := maxL) (ret := ret) hy ?_ ?_
  · intro args s m h hn
    obtain ⟨m9, meth, c, hn9, h1, h2, h3, h4, -, h5, h6, -⟩ := Cond.codeWith_spec (atoms_spec (ws := ws) h _ (by rw [hw]; exact List.mem_cons_self))
    cases hn.symm.trans hn9
    exact ⟨meth, c, h1, h2, h3, h4, h5, h6⟩
  · intro p e s m args below meth c s₁ B hml hv _
    have hh0 : s₁.heap = s.heap := by rw [B.state]; rfl
    obtain ⟨rfl, hsz, hP, hK, hNW, hSF⟩ := hv
    subst hsz
    subst hoy
    have hT0 := vx_table (x := y) B (atoms_spec (ws := ws) B.pre _ (by rw [hw]; exact List.mem_cons_self))
    rw [htb] at hT0
    have hl := lv_entry av (n := maxL) hlen
    rw [hlv] at hl
    have hW := body (p, l, e, rm, s, m, av.toArray, below, meth, c, maxL, xA ad N s.heap.size) rfl rfl hT0 ⟨B.exec, B.bytes, findClass_of_methodNamed B.named, atoms_spec (ws := ws) B.pre, hK, fun q h => Or.inr h, fun i h => Or.inl ⟨i, h, rfl⟩, hI, hml, B.returns, B.notSynchronized, hNW, hSF, rfl⟩ q hq s.heap [] _ hP va_S.rf hl
    rw [← lg_entry_eq] at hW
    obtain ⟨t, a1, o, b1, b2, b3⟩ := hW s₁ hh0 (Stand.of_body B)
    exact ⟨t, o, a1, b1, b2, ⟨b3.1, b3.2⟩⟩
/-- what is thrown at this place is caught, and goes on there -/
def xHat (Γ : xG) (pc hp : Nat) (E : String) : Prop :=
  match Γ with
  | (p, l, e, R, s, m, args, below, meth, c, _, _) => ∀ (H : Heap) (locs : List Loc) (k n : Nat) (ls : Array Slot) (rest : List Value) (Q : State → Prop) (ce : Cell) (q : Nat), H[q]? = some ce → ce.vm = .none → s.vm.findClass E = some ce.cls → W p l e R s m args below meth c H locs k n Q (F0 m hp ls [.ref q]) → vx_W p l e R s m args below meth c H locs k n Q (F0 m pc ls rest) q
def xKX {R' : Type} (Γ : xG) (D : va_G) (ad : Nat → Nat) (N : Nat) (Sh : xSh) (Q : R' → State → Prop) (k n : Nat) (pc : Nat) (lv : List (Nat × Value)) (ex : Option R') (e : Nat) (σ : xS) (q9 : Nat) : Prop := ∀ q, ex = some q → ∃ hp, xHat Γ pc hp (xEn e) ∧ xV Γ D ad N Sh (Q q) k n σ hp lv [.ref q9]
section XH
variable {R' : Type} {Γ : xG} {cc : ByteArray} {c0 : Cond} {Ts : List Cond} {own : String} {ret : Option FieldType} {rm : Room} {D : va_G} {ad : Nat → Nat} {N : Nat} {Sh : xSh} {Q : R' → State → Prop} {k n : Nat} {σ : xS} {pc : Nat} {lv : List (Nat × Value)} {st rest : List Value}
theorem xKX_none {e q9 : Nat} : xKX Γ D ad N Sh Q k n pc lv none e σ q9 := fun q h => by cases h
theorem xKX_if {c1 e q9 : Nat} {a b : Option R'} (ha : e = c1 → xKX Γ D ad N Sh Q k n pc lv a e σ q9) (hb : ¬ e = c1 → xKX Γ D ad N Sh Q k n pc lv b e σ q9) : xKX Γ D ad N Sh Q k n pc lv (if e = c1 then a else b) e σ q9 := by
  intro q hq
  by_cases h : e = c1
  · exact ha h q (by rwa [if_pos h] at hq)
  · exact hb h q (by rwa [if_neg h] at hq)
theorem xKX_hat {e q9 hp : Nat} {a : Option R'} (h : xHat Γ pc hp (xEn e)) (k0 : xM Γ D ad N Sh Q k n a σ hp lv [.ref q9]) : xKX Γ D ad N Sh Q k n pc lv a e σ q9 := fun q hq => ⟨hp, h, k0 q hq⟩
theorem xNC_of (X : xC Γ cc Ts own ret rm D ad N) : xNC Γ.2.2.2.2.1 := by
  obtain ⟨p, l, e, R, s, m, args, below, meth, c, nL, A⟩ := Γ
  exact X.2.2.2.2.2.2.2.2.2.2.2.2.1.2.2.2.2.2
theorem x_hat {E name : String} {hp : Nat} {tb : List ExceptionTableEntry} (X : xC Γ cc (c0 :: wG) own ret rm D ad N) (hXT : Γ.2.2.2.2.2.2.2.2.2.1.exceptionTable.toList = tb) (pre : List ExceptionTableEntry) (x : ExceptionTableEntry) (suf : List ExceptionTableEntry) (hsp : tb = pre ++ x :: suf)
    (hpass : ∀ z ∈ pre, z.catchType ≠ 0 ∧ ∃ nm : String, Cond.classLink own z.catchType nm ∈ wG ∧ va_Nc E nm Γ.2.2.2.2.1) (hx : covers x pc = true) (h0 : x.catchType ≠ 0) (hl : Cond.classLink own x.catchType name ∈ wG) (j : Nat) (hc : xNw[j]? = some (Cond.castable E name)) (hhp : x.handlerPc = hp) : xHat Γ pc hp E := by
  obtain ⟨p, l, e, R, s, m, args, below, meth, c, nL, A⟩ := Γ
  subst hhp
  intro H locs k n ls rest Q ce q hcell hv hcl kk
  exact vx_catch X.2.2.1 pre x suf (hXT.trans hsp) (fun z hz => Or.inr ⟨(hpass z hz).1, _, X.2.2.2.1 _ (List.mem_cons_of_mem _ (hpass z hz).2.choose_spec.1), (hpass z hz).2.choose_spec.2⟩) hx h0 (X.2.2.2.1 _ (List.mem_cons_of_mem _ hl)) (va_Nw.use rfl (X.2.2.2.2.2.2.2.2.2.2.2.1 _ (List.mem_of_getElem? hc))) hcell hv hcl kk
/-- behind a call with handlers -/
def xbH (e : Option xR) (K : Int32 → xS → Option R') (Hn : Nat → xS → Option R') : Option R' := match e with
  | none => none
  | some q => if q.1 = 0 then K q.2.1 q.2.2 else Hn q.1 q.2.2
variable {C : String} {T : u_T} {NF ci index na maxL mc ms : Nat} {y : MethodName} {bytes : ByteArray} {ws ws' : List Cond} {rm1 : Room} {ret1 : Option FieldType} {As : List Value} {fs : List Value}
theorem xr_callHVI {K : Int32 → xS → Option R'} {Hn : Nat → xS → Option R'} {e1 : Option xR} (X : xC Γ cc Ts own ret rm D ad N) (b : Nat) (As : List Value) (sh : (Nat → Int32) → va_E) (hM : xKT Γ.2.1 y ws rm1 mc ms D ad N Sh (xQcI D ad N Sh) (.ref (ad b) :: As) σ e1) (hT : GoodIn Ts (wsV own index C y ws)) (hw : ws = Cond.code y bytes maxL ret1 :: ws') (hrc : rm1.cells = mc) (hrs : rm1.slots = ms) (hd : y.cls = C ∧ y.cls ≠ "java/lang/invoke/MethodHandle" ∧ y.cls ≠ "java/lang/invoke/VarHandle" ∧ (parseMethodDescriptor y.desc).map (fun d => d.parameters.length) = some na) (hR : rm1.frames + 1 ≤ rm.frames ∧ 8 + (maxL + 11) + rm1.locals ≤ rm.locals)
    (hb : b < N) (hs : Sh b = sh) (he : sh (σ b) = .inr (ci, fs)) (hc : vwCl[ci]? = some (C, T, NF)) (hn : As.length = na) (hst : As.reverse ++ .ref (ad b) :: rest = st) (hcat : (rest.map fun v => v.category).sum ≤ 8) (hf : k + mc ≤ rm.cells ∧ n + ms ≤ rm.slots) (dg : decode cc pc = .ok (.invokevirtual index, 3))
    (kk : ∀ r σ1, xM Γ D ad N Sh Q (k + mc) (n + ms) (K r σ1) σ1 (pc + 3) lv (.int r :: rest))
    (kx : ∀ e σ1 q9, xKX Γ D ad N Sh Q (k + mc) (n + ms) pc lv (Hn e σ1) e σ1 q9) : xM Γ D ad N Sh Q k n (xbH e1 K Hn) σ pc lv st := by
  intro q hq
  obtain ⟨q1, he1, hcase⟩ : ∃ q1, e1 = some q1 ∧ ((q1.1 = 0 ∧ K q1.2.1 q1.2.2 = some q) ∨ (q1.1 ≠ 0 ∧ Hn q1.1 q1.2.2 = some q)) := by
    cases h1 : e1 with
    | none => rw [h1] at hq; cases hq
    | some q1 =>
      rw [h1] at hq
      refine ⟨q1, rfl, ?_⟩
      by_cases h0 : q1.1 = 0
      · exact Or.inl ⟨h0, by simpa [xbH, h0] using hq⟩
      · exact Or.inr ⟨h0, by simpa [xbH, h0] using hq⟩
  obtain ⟨p, l, e, R, s, m, args, below, meth, c, nL, A⟩ := Γ
  have hRR : R = rm := X.2.2.2.2.2.2.2.2.2.2.2.2.2
  subst hRR
  intro H locs ls hP hS hl
  have hcell0 : (xW ad N Sh σ)[b]? = some (ad b, .inr (ci, fs)) := by rw [xW_get hb, hs, he]
  refine vx_calli (vx_runV (As := As) (rest := rest) ⟨X.1, X.2.1, X.2.2.2.2.2.2.2.2.1, X.2.2.1, X.2.2.2.1⟩ (hM H.size q1 he1) (cwV na X.2.2.2.1 hT hw hrc hrs hd hR) ⟨xBlind, va_recv X.2.2.2.2.1 hP hc hcell0, xCallPre X hP hS⟩ rfl hn hl.1 hst.symm (lv_room hcat) dg hf) hS (fun q _ h => xA_sub X.2.2.2.2.2.1 X.2.2.2.2.2.2.1 hS q h) (xA_sub X.2.2.2.2.2.1 X.2.2.2.2.2.2.1 hS) (fun q _ h => xA_sub X.2.2.2.2.2.1 X.2.2.2.2.2.2.1 hS q h)
    (fun E ce q9 u t H1 locs1 ht hvm hpx hBX hz hk2 hS1 hcell hv hcl => ?_) (fun r u t H1 locs1 ht hvm hp hB hz hk2 hS1 => ?_)
  · obtain ⟨e0, r0, hq1⟩ := hpx
    rcases hcase with ⟨h0, -⟩ | ⟨-, hqq⟩
    · rw [hq1] at h0; cases h0
    · rw [hq1] at hqq hBX
      obtain ⟨hE, hB⟩ := hBX
      obtain ⟨hp, hat, hk3⟩ := kx (e0 + 1) u q9 q hqq
      subst hE
      exact hat H1 locs1 _ _ ls rest (Q q) ce q9 hcell hv hcl (hk3 H1 locs1 ls (ht ▸ hB) hS1 hl)
  · rcases hcase with ⟨-, hKq⟩ | ⟨h0, -⟩
    · subst hp
      exact kk r u q hKq H1 locs1 ls (ht ▸ hB) hS1 hl
    · rw [hp] at h0; exact absurd rfl h0
theorem xr_callSWI {hh : List (Nat × Nat × Nat × Nat)} {K : Int32 → xS → Option R'} {e1 : Option (Int32 × xS)} (X : xC Γ cc Ts own ret rm D ad N) (As : List Value) (hM : xKI Γ.2.1 y ws rm1 mc ms D ad N Sh As σ e1) (hT : GoodIn Ts (va_wsS own index y ws)) (hw : ws = Cond.codeWith y bytes maxL ret1 hh :: ws') (hrc : rm1.cells = mc) (hrs : rm1.slots = ms) (hd : y.cls ≠ "java/lang/invoke/MethodHandle" ∧ y.cls ≠ "java/lang/invoke/VarHandle" ∧ (parseMethodDescriptor y.desc).map (fun d => d.parameters.length) = some na) (hR : rm1.frames + 1 ≤ rm.frames ∧ 8 + (maxL + 11) + rm1.locals ≤ rm.locals)
    (hn : As.length = na) (hst : As.reverse ++ rest = st) (hcat : (rest.map fun v => v.category).sum ≤ 8) (hf : k + mc ≤ rm.cells ∧ n + ms ≤ rm.slots) (dg : decode cc pc = .ok (.invokestatic index, 3))
    (kk : ∀ r σ1, xM Γ D ad N Sh Q (k + mc) (n + ms) (K r σ1) σ1 (pc + 3) lv (.int r :: rest)) : xM Γ D ad N Sh Q k n (xbI e1 K) σ pc lv st := by
  obtain ⟨p, l, e, R, s, m, args, below, meth, c, nL, A⟩ := Γ
  have hRR : R = rm := X.2.2.2.2.2.2.2.2.2.2.2.2.2
  subst hRR
  intro q hq
  cases h1 : e1 with
  | none => rw [h1] at hq; cases hq
  | some q1 =>
    rw [h1] at hq
    intro H locs ls hP hS hl
    exact va_calli (vx_runSW (As := As) (rest := rest) ⟨X.1, X.2.1, X.2.2.2.2.2.2.2.2.1, X.2.2.1, X.2.2.2.1⟩ (hM H.size q1 h1) (vx_cwSW na X.2.2.2.1 hT hw hrc hrs hd hR) ⟨xBlind, xCallPre X hP hS⟩ rfl hn hl.1 hst.symm (lv_room hcat) dg hf) hS (fun q _ h => xA_sub X.2.2.2.2.2.1 X.2.2.2.2.2.2.1 hS q h) (xA_sub X.2.2.2.2.2.1 X.2.2.2.2.2.2.1 hS)
      (fun r u t H1 locs1 ht hvm hp hB hz hk hS1 => kk r u q (by subst hp; exact hq) H1 locs1 ls (ht ▸ hB) hS1 hl)
end XH
