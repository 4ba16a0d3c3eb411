/-! METHODS THAT THROW: what they come to is a number (0: it returns; 1, 2, 3: which exception), an int, the state -/
abbrev xR : Type := Nat × Int32 × xS
def xEn (e : Nat) : String := if e = 1 then "java/lang/IndexOutOfBoundsException" else if e = 2 then "java/lang/IllegalArgumentException" else "java/lang/IllegalStateException"
def xXC (D : va_G) (ad : Nat → Nat) (N : Nat) (Sh : xSh) (A : Nat → Prop) (q : xR) : String → State → State → Prop := vx_X (fun u : xS => ∃ (e0 : Nat) (r0 : Int32), q = (e0 + 1, r0, u)) (fun E u t => E = xEn q.1 ∧ va_P D vwCl (xW ad N Sh u) t.heap) A
abbrev xQc : Type := (Nat → Prop) → xR → Array Value → State → Outcome → State → Prop
def xQcI (D : va_G) (ad : Nat → Nat) (N : Nat) (Sh : xSh) : xQc := fun A q => va_Qi (fun (r : Int32) (u : xS) => q = (0, r, u)) (fun u t => va_P D vwCl (xW ad N Sh u) t.heap) A
def xQcV (D : va_G) (ad : Nat → Nat) (N : Nat) (Sh : xSh) : xQc := fun A q => va_Qv (fun (u : xS) => ∃ r0 : Int32, q = (0, r0, u)) (fun u t => va_P D vwCl (xW ad N Sh u) t.heap) A
def xQT (Γ : xG) (D : va_G) (ad : Nat → Nat) (N : Nat) (Sh : xSh) (Qc : xQc) (k n : Nat) (q : xR) : State → Prop :=
  match Γ with
  | (_, _, _, _, s, _, args, below, _, _, _, A) => vx_MQ below (Qc A q) (xXC D ad N Sh A q) args s k n A
def xKT (l : Launch) (y : MethodName) (ws : List Cond) (rm : Room) (mc ms : Nat) (D : va_G) (ad : Nat → Nat) (N : Nat) (Sh : xSh) (Qc : xQc) (av : List Value) (σ : xS) (ex : Option xR) : Prop :=
  ∀ (sz : Nat) (q : xR), ex = some q → vx_Met l y ws rm (va_Pc av (xPre D ad N Sh σ sz)) (Qc (xA ad N sz) q) (xXC D ad N Sh (xA ad N sz) q) mc ms (xA ad N sz)
/-- behind a call that may throw: what is thrown goes on to the caller -/
def xbT (e : Option xR) (K : Int32 → xS → Option xR) : Option xR := match e with
  | none => none
  | some q => if q.1 = 0 then K q.2.1 q.2.2 else some q
section XTS
variable {l : Launch} {y : MethodName} {ws ws' : List Cond} {rm : Room} {mc ms : Nat} {D : va_G} {ad : Nat → Nat} {N : Nat} {Sh : xSh} {Qc : xQc} {av : List Value} {σ : xS} {cc : ByteArray} {maxL : Nat} {ret : Option FieldType} {lv : List (Nat × Value)}
theorem x_startT {ex : Option xR} {own : String} (hy : plainName y.cls = true) (hoy : y.cls = own) (hw : ws = Cond.code y cc maxL ret :: ws') (hlen : (lg_sl av).length ≤ maxL) (hlv : lv_args 0 av = lv) (hI : ∀ i j, i < N → j < N → ad i = ad j → i = j)
    (body : ∀ Γ : xG, Γ.2.1 = l → Γ.2.2.2.2.2.2.2.2.2.2.1 = maxL → (∀ x ∈ Γ.2.2.2.2.2.2.2.2.2.1.exceptionTable.toList, False) → xC Γ cc ws own ret rm D ad N → xM Γ D ad N Sh (xQT Γ D ad N Sh Qc mc ms) 0 0 ex σ 0 lv []) : xKT l y ws rm mc ms D ad N Sh Qc av σ ex := by
  intro sz q hq
  refine vx_ofW hy hw ?_
  intro p e s m args below meth c s₁ B hml hXT hv
  obtain ⟨rfl, hsz, hP, hK, hNW, hSF⟩ := hv
  subst hsz
  subst hoy
  have hl := lv_entry av (n := maxL) hlen
  rw [lg_entry_eq]
  rw [hlv] at hl
  exact body (p, l, e, rm, s, m, av.toArray, below, meth, c, maxL, xA ad N s.heap.size) rfl rfl hXT ⟨B.exec, B.bytes, findClass_of_methodNamed B.named, atoms_spec (ws := ws) B.pre, hK, fun q h => Or.inr h, fun i h => Or.inl ⟨i, h, rfl⟩, hI, hml, B.returns, B.notSynchronized, hNW, hSF, rfl⟩ q hq s.heap [] _ hP va_S.rf hl
end XTS
section XTE
variable {Γ : xG} {cc : ByteArray} {c0 : Cond} {Ts : List Cond} {own : String} {ret : Option FieldType} {rm : Room} {D : va_G} {ad : Nat → Nat} {N : Nat} {Sh : xSh} {Qc : xQc} {k n k1 n1 : Nat} {σ : xS} {pc : Nat} {lv : List (Nat × Value)} {st rest : List Value}
theorem xr_tiret (X : xC Γ cc Ts own (some .int) rm D ad N) {v : Int32} (hk : k ≤ k1) (hn : n ≤ n1) (dg : decode cc pc = .ok (.ireturn, 1)) : xM Γ D ad N Sh (xQT Γ D ad N Sh (xQcI D ad N Sh) k1 n1) k n (some (0, v, σ)) σ pc lv [.int v] := by
  obtain ⟨p, l, e, R, s, m, args, below, meth, c, nL, A⟩ := Γ
  intro q hq H locs ls hP hS hl
  cases hq
  exact W.widen hk hn (vx_ret (W.iret (v := v) X.1 X.2.1 X.2.2.2.2.2.2.2.2.2.1 (fun t ht hW => ⟨⟨v, σ, rfl, rfl, show va_P D vwCl (xW ad N Sh σ) t.heap by rw [ht]; exact hP⟩, hS.F ht⟩) hS.2.2 dg (hlocks := X.2.2.2.2.2.2.2.2.2.2.1)))
theorem xr_tvret (X : xC Γ cc Ts own none rm D ad N) (hk : k ≤ k1) (hn : n ≤ n1) (dg : decode cc pc = .ok (.return_, 1)) : xM Γ D ad N Sh (xQT Γ D ad N Sh (xQcV D ad N Sh) k1 n1) k n (some (0, 0, σ)) σ pc lv [] := by
  obtain ⟨p, l, e, R, s, m, args, below, meth, c, nL, A⟩ := Γ
  intro q hq H locs ls hP hS hl
  cases hq
  exact W.widen hk hn (vx_ret (W.vret X.1 X.2.1 X.2.2.2.2.2.2.2.2.2.1 (fun t ht hW => ⟨⟨σ, rfl, ⟨0, rfl⟩, show va_P D vwCl (xW ad N Sh σ) t.heap by rw [ht]; exact hP⟩, hS.F ht⟩) hS.2.2 dg (hlocks := X.2.2.2.2.2.2.2.2.2.2.1)))
/-- 'throw new E()' -/
theorem xr_throw {ik ic : Nat} {cls : String} {r0 : Int32} (e0 : Nat) (X : xC Γ cc (c0 :: wG) own ret rm D ad N) (hX : ∀ x ∈ Γ.2.2.2.2.2.2.2.2.2.1.exceptionTable.toList, False) (hl : Γ.2.1.stackTraces = false) (he : xEn (e0 + 1) = cls) (hcls : Bundle.fit cls = true)
    (h1 : Cond.classLink own ik cls ∈ wG) (h2 : Cond.initialized cls ∈ wG) (h3 : ∀ w ∈ (vx_at0 own ic cls ["java/lang/RuntimeException", "java/lang/Exception"]).filter goodWord, w ∈ wG) (h4 : ∀ w ∈ (vx_at0 own ic cls ["java/lang/RuntimeException", "java/lang/Exception"]).filter (fun w => !goodWord w), w ∈ [Cond.castable cls cls, Cond.declares (Bundle.init0 "java/lang/RuntimeException"), Cond.declares (Bundle.init0 "java/lang/Exception"), Cond.declares (Bundle.init0 "java/lang/Throwable")]) (h5 : Cond.castable cls cls ∈ xNw)
    (hg : ∀ w ∈ Cond.classLink own ik cls :: Cond.initialized cls :: vx_at0 own ic cls ["java/lang/RuntimeException", "java/lang/Exception"], vx_ot w = true)
    (d0 : decode cc pc = .ok (.new ik, 3)) (d3 : decode cc (pc + 3) = .ok (.dup, 1)) (d4 : decode cc (pc + 4) = .ok (.invokespecial ic, 3)) (d7 : decode cc (pc + 7) = .ok (.athrow, 1))
    (hf : 5 < rm.frames) (hlo : (st.map fun v => v.category).sum + 81 ≤ rm.locals) (hc : k + 1 ≤ rm.cells) (hs : n + 6 ≤ rm.slots) (hk : k + 1 ≤ k1) (hn : n + 6 ≤ n1) : xM Γ D ad N Sh (xQT Γ D ad N Sh Qc k1 n1) k n (some (e0 + 1, r0, σ)) σ pc lv st := by
  obtain ⟨p, l, e, R, s, m, args, below, meth, c, nL, A⟩ := Γ
  have hRR : R = rm := X.2.2.2.2.2.2.2.2.2.2.2.2.2
  subst hRR
  intro q hq H locs ls hP hS hls
  cases hq
  refine vx_throw0 (names := ["java/lang/RuntimeException", "java/lang/Exception"]) (A := A) X.1 X.2.1 hl X.2.2.1 hcls (by decide +kernel) (X.2.2.2.1 _ (List.mem_cons_of_mem _ h1)) (X.2.2.2.1 _ (List.mem_cons_of_mem _ h2))
    (vx_hat (fun w hw => X.2.2.2.1 w (List.mem_cons_of_mem _ (h3 w hw))) h4 (vx_c (va_Nw.use rfl (X.2.2.2.2.2.2.2.2.2.2.2.1 _ h5)) (vx_c (va_Nw.use rfl (X.2.2.2.2.2.2.2.2.2.2.2.1 _ (List.mem_of_getElem? (i := 32) rfl))) (vx_c (va_Nw.use rfl (X.2.2.2.2.2.2.2.2.2.2.2.1 _ (List.mem_of_getElem? (i := 33) rfl))) (vx_c (va_Nw.use rfl (X.2.2.2.2.2.2.2.2.2.2.2.1 _ (List.mem_of_getElem? (i := 34) rfl))) vx_n))))) hg X.2.2.2.2.2.2.2.2.2.2.2.2.1.2.2.2.1 X.2.2.2.2.2.2.2.2.2.2.2.2.1.2.2.2.2.1 hS (hls.1.trans X.2.2.2.2.2.2.2.2.1.symm) d0 d3 d4 d7 (fun x hx => (hX x hx).elim) hf hlo hc hs X.2.2.2.2.2.2.2.2.2.2.1 (fun t hvm hz hk0 => ?_) hS.2.2 hk hn
  refine ⟨σ, ⟨e0, r0, rfl⟩, ⟨he.symm, va_P.kept hP (fun i q hq => hk0 q.1 (hP i q hq).lt)⟩, Nat.le_trans hS.1 hz, fun q h6 h7 => ?_⟩
  rw [hk0 q (Nat.lt_of_lt_of_le h6 hS.1)]
  exact hS.2.1 q h6 h7
variable {C : String} {T : u_T} {NF ci index na maxL mc ms : Nat} {y : MethodName} {bytes : ByteArray} {ws ws' : List Cond} {rm1 : Room} {ret1 : Option FieldType} {As : List Value} {fs : List Value}
theorem xTcase {e1 : Option xR} {K : Int32 → xS → Option xR} {q : xR} (h : xbT e1 K = some q) : ∃ q1, e1 = some q1 ∧ ((q1.1 = 0 ∧ K q1.2.1 q1.2.2 = some q) ∨ (q1.1 ≠ 0 ∧ q = q1)) := by
  cases h1 : e1 with
  | none => rw [h1] at h; cases h
  | some q1 =>
    rw [h1] at h
    refine ⟨q1, rfl, ?_⟩
    by_cases h0 : q1.1 = 0
    · exact Or.inl ⟨h0, by simpa [xbT, h0] using h⟩
    · exact Or.inr ⟨h0, by simpa [xbT, h0] using h.symm⟩
theorem xr_callTSV {K : Int32 → xS → Option xR} {e1 : Option xR} (X : xC Γ cc Ts own ret rm D ad N) (hX : ∀ x ∈ Γ.2.2.2.2.2.2.2.2.2.1.exceptionTable.toList, False) (As : List Value) (hM : xKT Γ.2.1 y ws rm1 mc ms D ad N Sh (xQcV D ad N Sh) As σ e1) (hT : GoodIn Ts (va_wsS own index y ws)) (hw : ws = Cond.code y bytes maxL ret1 :: ws') (hrc : rm1.cells = mc) (hrs : rm1.slots = ms) (hd : y.cls ≠ "java/lang/invoke/MethodHandle" ∧ y.cls ≠ "java/lang/invoke/VarHandle" ∧ (parseMethodDescriptor y.desc).map (fun d => d.parameters.length) = some na) (hR : rm1.frames + 1 ≤ rm.frames ∧ 8 + (maxL + 11) + rm1.locals ≤ rm.locals)
    (hn : As.length = na) (hst : As.reverse ++ rest = st) (hcat : (rest.map fun v => v.category).sum ≤ 8) (hf : k + mc ≤ rm.cells ∧ n + ms ≤ rm.slots) (h1 : k + mc ≤ k1 ∧ n + ms ≤ n1) (dg : decode cc pc = .ok (.invokestatic index, 3))
    (kk : ∀ r σ1, xM Γ D ad N Sh (xQT Γ D ad N Sh Qc k1 n1) (k + mc) (n + ms) (K r σ1) σ1 (pc + 3) lv rest) : xM Γ D ad N Sh (xQT Γ D ad N Sh Qc k1 n1) k n (xbT e1 K) σ pc lv st := by
  obtain ⟨p, l, e, R, s, m, args, below, meth, c, nL, A⟩ := Γ
  have hRR : R = rm := X.2.2.2.2.2.2.2.2.2.2.2.2.2
  subst hRR
  intro q hq
  obtain ⟨q1, he1, hcase⟩ := xTcase hq
  intro H locs ls hP hS hl
  refine vx_callv (vx_runS (As := As) (rest := rest) ⟨X.1, X.2.1, X.2.2.2.2.2.2.2.2.1, X.2.2.1, X.2.2.2.1⟩ (hM H.size q1 he1) (va_cwS na X.2.2.2.1 hT hw hrc hrs hd hR) ⟨xBlind, xCallPre X hP hS⟩ rfl hn hl.1 hst.symm (lv_room hcat) dg hf) hS (fun q _ h => xA_sub X.2.2.2.2.2.1 X.2.2.2.2.2.2.1 hS q h) (xA_sub X.2.2.2.2.2.1 X.2.2.2.2.2.2.1 hS) (fun q _ h => xA_sub X.2.2.2.2.2.1 X.2.2.2.2.2.2.1 hS q h)
    (fun E ce q9 u t H1 locs1 ht hvm hpx hBX hz hk2 hS1 hcell hv hcl => ?_) (fun u t H1 locs1 ht hvm hp hB hz hk2 hS1 => ?_)
  · obtain ⟨e0, r0, hq1⟩ := hpx
    rcases hcase with ⟨h0, -⟩ | ⟨-, hqq⟩
    · rw [hq1] at h0; cases h0
    · refine vx_out (fun x hx => (hX x hx).elim) X.2.2.2.2.2.2.2.2.2.2.1 hcell hv hcl (fun t2 ht2 hvm2 => ?_) hS1.2.2 h1.1 h1.2
      exact ⟨u, ⟨e0, r0, hqq.trans hq1⟩, ⟨by rw [hqq]; exact hBX.1, by rw [ht2, ← ht]; exact hBX.2⟩, hS1.F ht2⟩
  · obtain ⟨r0, hp⟩ := hp
    rcases hcase with ⟨-, hKq⟩ | ⟨h0, -⟩
    · subst hp
      exact kk r0 u q hKq H1 locs1 ls (ht ▸ hB) hS1 hl
    · rw [hp] at h0; exact absurd rfl h0
theorem xr_callTVI {K : Int32 → xS → Option xR} {e1 : Option xR} (X : xC Γ cc Ts own ret rm D ad N) (hX : ∀ x ∈ Γ.2.2.2.2.2.2.2.2.2.1.exceptionTable.toList, False) (b : Nat) (As : List Value) (sh : (Nat → Int32) → va_E) (hM : xKT Γ.2.1 y ws rm1 mc ms D ad N Sh (xQcI D ad N Sh) (.ref (ad b) :: As) σ e1) (hT : GoodIn Ts (wsV own index C y ws)) (hw : ws = Cond.code y bytes maxL ret1 :: ws') (hrc : rm1.cells = mc) (hrs : rm1.slots = ms) (hd : y.cls = C ∧ y.cls ≠ "java/lang/invoke/MethodHandle" ∧ y.cls ≠ "java/lang/invoke/VarHandle" ∧ (parseMethodDescriptor y.desc).map (fun d => d.parameters.length) = some na) (hR : rm1.frames + 1 ≤ rm.frames ∧ 8 + (maxL + 11) + rm1.locals ≤ rm.locals)
    (hb : b < N) (hs : Sh b = sh) (he : sh (σ b) = .inr (ci, fs)) (hc : vwCl[ci]? = some (C, T, NF)) (hn : As.length = na) (hst : As.reverse ++ .ref (ad b) :: rest = st) (hcat : (rest.map fun v => v.category).sum ≤ 8) (hf : k + mc ≤ rm.cells ∧ n + ms ≤ rm.slots) (h1 : k + mc ≤ k1 ∧ n + ms ≤ n1) (dg : decode cc pc = .ok (.invokevirtual index, 3))
    (kk : ∀ r σ1, xM Γ D ad N Sh (xQT Γ D ad N Sh Qc k1 n1) (k + mc) (n + ms) (K r σ1) σ1 (pc + 3) lv (.int r :: rest)) : xM Γ D ad N Sh (xQT Γ D ad N Sh Qc k1 n1) k n (xbT e1 K) σ pc lv st := by
  obtain ⟨p, l, e, R, s, m, args, below, meth, c, nL, A⟩ := Γ
  have hRR : R = rm := X.2.2.2.2.2.2.2.2.2.2.2.2.2
  subst hRR
  intro q hq
  obtain ⟨q1, he1, hcase⟩ := xTcase hq
  intro H locs ls hP hS hl
  have hcell0 : (xW ad N Sh σ)[b]? = some (ad b, .inr (ci, fs)) := by rw [xW_get hb, hs, he]
  refine vx_calli (vx_runV (As := As) (rest := rest) ⟨X.1, X.2.1, X.2.2.2.2.2.2.2.2.1, X.2.2.1, X.2.2.2.1⟩ (hM H.size q1 he1) (cwV na X.2.2.2.1 hT hw hrc hrs hd hR) ⟨xBlind, va_recv X.2.2.2.2.1 hP hc hcell0, xCallPre X hP hS⟩ rfl hn hl.1 hst.symm (lv_room hcat) dg hf) hS (fun q _ h => xA_sub X.2.2.2.2.2.1 X.2.2.2.2.2.2.1 hS q h) (xA_sub X.2.2.2.2.2.1 X.2.2.2.2.2.2.1 hS) (fun q _ h => xA_sub X.2.2.2.2.2.1 X.2.2.2.2.2.2.1 hS q h)
    (fun E ce q9 u t H1 locs1 ht hvm hpx hBX hz hk2 hS1 hcell hv hcl => ?_) (fun r u t H1 locs1 ht hvm hp hB hz hk2 hS1 => ?_)
  · obtain ⟨e0, r0, hq1⟩ := hpx
    rcases hcase with ⟨h0, -⟩ | ⟨-, hqq⟩
    · rw [hq1] at h0; cases h0
    · refine vx_out (fun x hx => (hX x hx).elim) X.2.2.2.2.2.2.2.2.2.2.1 hcell hv hcl (fun t2 ht2 hvm2 => ?_) hS1.2.2 h1.1 h1.2
      exact ⟨u, ⟨e0, r0, hqq.trans hq1⟩, ⟨by rw [hqq]; exact hBX.1, by rw [ht2, ← ht]; exact hBX.2⟩, hS1.F ht2⟩
  · rcases hcase with ⟨-, hKq⟩ | ⟨h0, -⟩
    · subst hp
      exact kk r u q hKq H1 locs1 ls (ht ▸ hB) hS1 hl
    · rw [hp] at h0; exact absurd rfl h0
end XTE
