/-! CONSTRUCTORS: the world grows; a thing's parts follow it -/
def xadd (ad : Nat → Nat) (N a : Nat) : Nat → Nat := fun i => if i = N then a else ad i
def xupS (Sh : xSh) (o : Nat) (sh : (Nat → Int32) → va_E) : xSh := fun i => if i = o then sh else Sh i
def xz (σ : xS) (o : Nat) : xS := fun i => if i = o then fun _ => 0 else σ i
theorem xW_push {ad : Nat → Nat} {N a : Nat} {Sh : xSh} {σ : xS} {sh : (Nat → Int32) → va_E} {e : va_E} (he : sh (fun _ => 0) = e) : xW ad N Sh σ ++ [(a, e)] = xW (xadd ad N a) (N + 1) (xupS Sh N sh) (xz σ N) := by
  subst he
  apply List.ext_getElem?
  intro i
  rcases Nat.lt_trichotomy i N with h | h | h
  · rw [List.getElem?_append_left (by simpa [xW] using h), xW_get h, xW_get (Nat.lt_succ_of_lt h)]
    simp [xadd, xupS, xz, Nat.ne_of_lt h]
  · subst h
    rw [List.getElem?_append_right (by simp [xW]), xW_get (Nat.lt_succ_self i)]
    simp [xW, xadd, xupS, xz]
  · rw [List.getElem?_eq_none (by simp [xW]; omega), List.getElem?_eq_none (by simp [xW]; omega)]
theorem xW_setS {ad : Nat → Nat} {N o : Nat} {Sh : xSh} {σ : xS} {sh : (Nat → Int32) → va_E} {e : va_E} (h : o < N) (he : sh (σ o) = e) : (xW ad N Sh σ).set o (ad o, e) = xW ad N (xupS Sh o sh) σ := by
  subst he
  apply List.ext_getElem?
  intro i
  by_cases hi : i < N
  · rw [xW_get hi]
    by_cases hio : i = o
    · subst hio
      rw [List.getElem?_set_self (by simpa [xW] using hi)]
      simp [xupS]
    · rw [List.getElem?_set_ne (Ne.symm hio), xW_get hi]
      simp [xupS, hio]
  · rw [List.getElem?_eq_none (by simp [xW]; omega), List.getElem?_eq_none (by simp [xW]; omega)]
theorem xD_in {A : Nat → Prop} {ad : Nat → Nat} {N : Nat} {Sh : xSh} {σ : xS} (h : va_D A (xW ad N Sh σ)) : (∀ i, i < N → A (ad i)) ∧ ∀ i j, i < N → j < N → ad i = ad j → i = j :=
  ⟨fun i hi => h.2 i _ (xW_get hi), fun i j hi hj e => h.1 i j _ _ (xW_get hi) (xW_get hj) e⟩
theorem xC_re {Γ : xG} {cc : ByteArray} {Ts : List Cond} {own : String} {ret : Option FieldType} {rm : Room} {D : va_G} {ad ad2 : Nat → Nat} {N N2 : Nat} (X : xC Γ cc Ts own ret rm D ad N) (h : (∀ i, i < N2 → Γ.2.2.2.2.2.2.2.2.2.2.2 (ad2 i)) ∧ ∀ i j, i < N2 → j < N2 → ad2 i = ad2 j → i = j) : xC Γ cc Ts own ret rm D ad2 N2 := by
  obtain ⟨p, l, e, R, s, m, args, below, meth, c, nL, A⟩ := Γ
  obtain ⟨h1, h2, h3, h4, h5, h6, h7, h8, h9⟩ := X
  exact ⟨h1, h2, h3, h4, h5, h6, h.1, h.2, h9⟩
def xAO (U : State) : Prop := va_AO "HeldNotes$Pair" U ∧ va_AO "HeldNotes$Post" U
def xPreC (D : va_G) (ad : Nat → Nat) (N : Nat) (Sh : xSh) (σ : xS) (sz : Nat) (U : State) : Prop := xPre D ad N Sh σ sz U ∧ xAO U
abbrev xU : Type := (Nat → Nat) × xSh × xS
def xPost (ad : Nat → Nat) (Sh : xSh) (σ : xS) (b : Nat) (P : (Nat → Nat) → xSh → xS → Prop) (u : xU) : Prop := (∀ i, i ≤ b → u.1 i = ad i) ∧ (∀ i, i < b → u.2.1 i = Sh i ∧ u.2.2 i = σ i) ∧ P u.1 u.2.1 u.2.2
/-- a constructor's contract: its object is the newest cell, number b; behind it there are nn cells from b on -/
def xKC (l : Launch) (y : MethodName) (ws : List Cond) (rm : Room) (mc ms : Nat) (D : va_G) (av : (Nat → Nat) → List Value) (b nn : Nat) (shB : (Nat → Int32) → va_E) (P : (Nat → Nat) → xSh → xS → Prop) : Prop :=
  ∀ (ad : Nat → Nat) (Sh : xSh) (σ : xS) (sz : Nat), (∀ i j, i < b + 1 → j < b + 1 → ad i = ad j → i = j) → Sh b = shB → σ b = (fun _ => 0) →
    Met l y ws rm (va_Pc (av ad) (xPreC D ad (b + 1) Sh σ sz)) (va_Qv (fun u : xU => xPost ad Sh σ b P u) (fun u t => va_P D vwCl (xW u.1 (b + nn) u.2.1 u.2.2) t.heap ∧ va_D (xA ad (b + 1) sz) (xW u.1 (b + nn) u.2.1 u.2.2)) (xA ad (b + 1) sz)) mc ms (xA ad (b + 1) sz)
def xQC (Γ : xG) (D : va_G) (ad0 : Nat → Nat) (b nn : Nat) (Sh0 : xSh) (σ0 : xS) (P : (Nat → Nat) → xSh → xS → Prop) (k n : Nat) (_ : Unit) : State → Prop :=
  match Γ with
  | (_, _, _, _, s, _, args, below, _, _, _, A) => MQ below (va_Qv (fun u : xU => xPost ad0 Sh0 σ0 b P u) (fun u t => va_P D vwCl (xW u.1 (b + nn) u.2.1 u.2.2) t.heap ∧ va_D A (xW u.1 (b + nn) u.2.1 u.2.2)) A) args s k n A
theorem xBlindC {av : List Value} {D : va_G} {ad : Nat → Nat} {N : Nat} {Sh : xSh} {σ : xS} {sz : Nat} : FrameBlind (va_Pc av (xPreC D ad N Sh σ sz)) := by
  intro a U g mk h
  obtain ⟨h0, h1, h2⟩ := h
  exact ⟨h0, (xBlind a U g mk ⟨h0, h1⟩).2, va_AO.moved (u := U) (U := U.calling g mk a) (Vm.Alike.refl U.vm) h2.1, va_AO.moved (u := U) (U := U.calling g mk a) (Vm.Alike.refl U.vm) h2.2⟩
theorem x_startC {l : Launch} {y : MethodName} {ws ws' : List Cond} {rm : Room} {mc ms : Nat} {D : va_G} {av : (Nat → Nat) → List Value} {b nn : Nat} {shB : (Nat → Int32) → va_E} {P : (Nat → Nat) → xSh → xS → Prop} {cc : ByteArray} {maxL : Nat} {lv : (Nat → Nat) → List (Nat × Value)} {own : String} (hy : plainName y.cls = true) (hoy : y.cls = own) (hin : y.name = "<init>") (hw : ws = Cond.code y cc maxL none :: ws') (hlen : ∀ ad, (lg_sl (av ad)).length ≤ maxL) (hlv : ∀ ad, lv_args 0 (av ad) = lv ad)
    (body : ∀ (Γ : xG) (ad : Nat → Nat) (Sh : xSh) (σ : xS), Γ.2.1 = l → Γ.2.2.2.2.2.2.2.2.2.2.1 = maxL → Γ.2.2.2.2.2.2.2.2.1.name = "<init>" → xAO Γ.2.2.2.2.1 → Sh b = shB → σ b = (fun _ => 0) → xC Γ cc ws own none rm D ad (b + 1) → xM Γ D ad (b + 1) Sh (xQC Γ D ad b nn Sh σ P mc ms) 0 0 (some ()) σ 0 (lv ad) []) : xKC l y ws rm mc ms D av b nn shB P := by
  intro ad Sh σ sz hI hSb hσb
  refine Met.ofW hy hw ?_
  intro p e s m args below meth c s₁ B hml hv
  obtain ⟨rfl, ⟨hsz, hP, hK, hNW, hSF⟩, hAO⟩ := hv
  subst hsz
  subst hoy
  have hl := lv_entry (av ad) (n := maxL) (hlen ad)
  rw [lg_entry_eq]
  rw [hlv] at hl
  exact body (p, l, e, rm, s, m, (av ad).toArray, below, meth, c, maxL, xA ad (b + 1) s.heap.size) ad Sh σ rfl rfl ((name_of_methodNamed B.named B.method).1.trans hin) hAO hSb hσb ⟨B.exec, B.bytes, findClass_of_methodNamed B.named, atoms_spec (ws := ws) B.pre, hK, fun q h => Or.inr h, fun i h => Or.inl ⟨i, h, rfl⟩, hI, hml, B.returns, B.notSynchronized, hNW, hSF, rfl⟩ () rfl s.heap [] _ hP va_S.rf hl
section XCT
variable {R' : Type} {Γ : xG} {cc : ByteArray} {c0 : Cond} {Ts : List Cond} {own : String} {ret : Option FieldType} {rm : Room} {D : va_G} {ad : Nat → Nat} {N : Nat} {Sh : xSh} {Q : R' → State → Prop} {k n : Nat} {σ : xS} {ex : Option R'} {pc : Nat} {lv lv2 : List (Nat × Value)} {st st2 rest : List Value}
theorem xr_cret {ad0 : Nat → Nat} {b nn : Nat} {Sh0 : xSh} {σ0 : xS} {P : (Nat → Nat) → xSh → xS → Prop} {k1 n1 : Nat} (X : xC Γ cc Ts own none rm D ad (b + nn)) (hp : xPost ad0 Sh0 σ0 b P (ad, Sh, σ)) (hk : k ≤ k1) (hn : n ≤ n1) (dg : decode cc pc = .ok (.return_, 1)) : xM Γ D ad (b + nn) Sh (xQC Γ D ad0 b nn Sh0 σ0 P k1 n1) k n (some ()) σ pc lv [] := by
  obtain ⟨p, l, e, R, s, m, args, below, meth, c, nL, A⟩ := Γ
  intro q hq H locs ls hP hS hl
  exact W.widen hk hn (W.vret X.1 X.2.1 X.2.2.2.2.2.2.2.2.2.1 (fun t ht hW => ⟨⟨(ad, Sh, σ), rfl, hp, show va_P D vwCl (xW ad (b + nn) Sh σ) t.heap by rw [ht]; exact hP, xD X.2.2.2.2.2.2.1 X.2.2.2.2.2.2.2.1⟩, hS.F ht⟩) hS.2.2 dg (hlocks := X.2.2.2.2.2.2.2.2.2.2.1))
theorem x_conv (h1 : lv = lv2) (h2 : st = st2) (kk : xM Γ D ad N Sh Q k n ex σ pc lv2 st2) : xM Γ D ad N Sh Q k n ex σ pc lv st := by subst h1; subst h2; exact kk
theorem x_convE {ex2 : Option R'} (h1 : ex = ex2) (kk : xM Γ D ad N Sh Q k n ex2 σ pc lv st) : xM Γ D ad N Sh Q k n ex σ pc lv st := by subst h1; exact kk
theorem x_convN {N2 : Nat} (h1 : N = N2) (kk : xM Γ D ad N2 Sh Q k n ex σ pc lv st) : xM Γ D ad N Sh Q k n ex σ pc lv st := by subst h1; exact kk
/-- another shape that looks the same -/
theorem x_convS {Sh2 : xSh} (h : ∀ i H, i < N → va_at D vwCl (ad i, Sh i (σ i)) H → va_at D vwCl (ad i, Sh2 i (σ i)) H) (kk : xM Γ D ad N Sh2 Q k n ex σ pc lv st) : xM Γ D ad N Sh Q k n ex σ pc lv st := by
  obtain ⟨p, l, e, R, s, m, args, below, meth, c, nL, A⟩ := Γ
  refine fun q hq H locs ls hP hS hl => kk q hq H locs ls (fun i q hq2 => ?_) hS hl
  obtain ⟨h1, h2⟩ := xW_lt hq2
  subst h2
  exact h i H h1 (hP i _ (xW_get h1))
theorem xr_oinit {index : Nat} {v : Nat} (X : xC Γ cc (c0 :: wG) own ret rm D ad N) (h1 : Cond.methodLink own index objectInit ∈ wG) (h2 : Cond.instanceMethod objectInit ∈ wG) (h3 : Cond.code objectInit ⟨#[0xb1]⟩ 1 none ∈ wG) (hf : 1 ≤ rm.frames) (hlo : (st.map fun v => v.category).sum + 12 ≤ rm.locals) (dg : decode cc pc = .ok (.invokespecial index, 3)) (kk : xM Γ D ad N Sh Q k n ex σ (pc + 3) lv st) : xM Γ D ad N Sh Q k n ex σ pc lv (.ref v :: st) := by
  obtain ⟨p, l, e, R, s, m, args, below, meth, c, nL, A⟩ := Γ
  have hRR : R = rm := X.2.2.2.2.2.2.2.2.2.2.2.2.2
  subst hRR
  refine fun q hq H locs ls hP hS hl => W.objInit X.1 X.2.1 X.2.2.1 (X.2.2.2.1 _ (List.mem_cons_of_mem _ h1)) (X.2.2.2.1 _ (List.mem_cons_of_mem _ h2)) (X.2.2.2.1 _ (List.mem_cons_of_mem _ h3)) rfl (hl.1.trans X.2.2.2.2.2.2.2.2.1.symm) rfl dg hf ?_ (kk q hq H locs ls hP hS hl)
  show 2 * 0 + _ + 12 ≤ _
  omega
theorem xr_new {C : String} {T : u_T} {NF ci ik : Nat} {tyf : Nat → FieldType} {fs : List Value} (X : xC Γ cc (c0 :: wG) own ret rm D ad N) (sh : (Nat → Int32) → va_E) (hc : vwCl[ci]? = some (C, T, NF)) (hin : ∀ w ∈ u_ws C T NF, w ∈ (c0 :: wG)) (hty : ∀ k, k < NF → parseFieldDescriptor (T k).2.2.1 = some (tyf k)) (hcl : Cond.classLink own ik C ∈ wG) (hinst : Cond.instantiable C NF ∈ wG) (hini : Cond.initialized C ∈ wG) (hsh : sh (fun _ => 0) = .inr (ci, fs)) (hfs : ∀ j, j < NF → defaultValue (tyf j) = vp_V fs j) (hcells : k + 1 ≤ rm.cells) (hslots : n + NF ≤ rm.slots) (dg : decode cc pc = .ok (.new ik, 3))
    (kk : ∀ ad2 : Nat → Nat, (∀ i, i < N → ad2 i = ad i) → xC Γ cc (c0 :: wG) own ret rm D ad2 (N + 1) → xM Γ D ad2 (N + 1) (xupS Sh N sh) Q (k + 1) (n + NF) ex (xz σ N) (pc + 3) lv (.ref (ad2 N) :: st)) : xM Γ D ad N Sh Q k n ex σ pc lv st := by
  have kk0 := kk
  obtain ⟨p, l, e, R, s, m, args, below, meth, c, nL, A⟩ := Γ
  have hRR : R = rm := X.2.2.2.2.2.2.2.2.2.2.2.2.2
  subst hRR
  intro q hq H locs ls hP hS hl
  refine va_new (D := D) X.1 X.2.1 X.2.2.2.1 hin tyf hty X.2.2.1 (X.2.2.2.1 _ (List.mem_cons_of_mem _ hcl)) (X.2.2.2.1 _ (List.mem_cons_of_mem _ hinst)) (X.2.2.2.1 _ (List.mem_cons_of_mem _ hini)) X.2.2.2.2.1 hP (xD X.2.2.2.2.2.2.1 X.2.2.2.2.2.2.2.1) hS X.2.2.2.2.2.1 hc hfs hcells hslots dg (fun a H1 hP1 hD1 hS1 => ?_)
  rw [xW_push hsh] at hP1 hD1
  have k1 := kk0 (xadd ad N a) (fun i hi => by simp [xadd, Nat.ne_of_lt hi]) (xC_re (Γ := (p, l, e, R, s, m, args, below, meth, c, nL, A)) X (xD_in hD1)) q hq H1 locs ls hP1 hS1 hl
  rw [show xadd ad N a N = a by simp [xadd]] at k1
  exact k1
theorem xr_newA {ty : FieldType} {n0 : Int32} {N' t0 : Nat} (X : xC Γ cc (c0 :: wG) own ret rm D ad N) (atype : ArrayType) (sh : (Nat → Int32) → va_E) (cid : ClassId) (hty : newarray.typeOf atype = ty) (hno : ∀ C, ty ≠ .object C) (ht : (xT D)[t0]? = some (cid, ty)) (harr : Cond.arrayClass (newarray.typeOf atype) ∈ wG) (hsh : sh (fun _ => 0) = .inl (cid, N', .inl (fun _ => 0))) (hdv : defaultValue ty = .int 0) (hn : ¬ n0 < 0) (hN : n0.toNatClampNeg = N') (hbytes : N' * componentBytes ty ≤ 536870912) (hcells : k + 1 ≤ rm.cells) (hslots : n + N' ≤ rm.slots) (dg : decode cc pc = .ok (.newarray atype, 2))
    (kk : ∀ ad2 : Nat → Nat, (∀ i, i < N → ad2 i = ad i) → xC Γ cc (c0 :: wG) own ret rm D ad2 (N + 1) → xM Γ D ad2 (N + 1) (xupS Sh N sh) Q (k + 1) (n + N') ex (xz σ N) (pc + 2) lv (.ref (ad2 N) :: st)) : xM Γ D ad N Sh Q k n ex σ pc lv (.int n0 :: st) := by
  have kk0 := kk
  obtain ⟨p, l, e, R, s, m, args, below, meth, c, nL, A⟩ := Γ
  have hRR : R = rm := X.2.2.2.2.2.2.2.2.2.2.2.2.2
  subst hRR
  intro q hq H locs ls hP hS hl
  refine va_newa (D := D) (atype := atype) (ty := ty) (a0 := (N', .inl (fun _ => 0))) X.1 X.2.1 (X.2.2.2.1 _ (List.mem_cons_of_mem _ harr)) hty X.2.2.2.2.1 hP (xD X.2.2.2.2.2.2.1 X.2.2.2.2.2.2.2.1) hS X.2.2.2.2.2.1 (fun cA => by rw [hdv]; rfl) hn hN hbytes hcells hslots dg (fun a cA H1 hK1 hP1 hD1 hS1 => ?_)
  have hcA : cA = cid := by
    have a1 := (hK1.2 (xT D).length (cA, ty) (by simp)).2
    have a2 := (X.2.2.2.2.1.2 t0 (cid, ty) ht).2
    cases ty with
    | object C => exact absurd rfl (hno C)
    | _ => exact Option.some.inj (a1.symm.trans a2)
  subst hcA
  rw [xW_push hsh] at hP1 hD1
  have k1 := kk0 (xadd ad N a) (fun i hi => by simp [xadd, Nat.ne_of_lt hi]) (xC_re (Γ := (p, l, e, R, s, m, args, below, meth, c, nL, A)) X (xD_in hD1)) q hq H1 locs ls hP1 hS1 hl
  rw [show xadd ad N a N = a by simp [xadd]] at k1
  exact k1
theorem xr_newq {C : String} {index t0 : Nat} {cid : ClassId} {n0 : Int32} {N' : Nat} (X : xC Γ cc (c0 :: wG) own ret rm D ad N) (sh : (Nat → Int32) → va_E) (hover : va_AO C Γ.2.2.2.2.1) (hcl : Cond.classLink own index C ∈ wG) (ht : (xT D)[t0]? = some (cid, .object C)) (hsh : sh (fun _ => 0) = .inl (cid, N', .inr (.inr (.inr (.inr (fun _ => none)))))) (hn : ¬ n0 < 0) (hN : n0.toNatClampNeg = N') (hbytes : N' * 4 ≤ 536870912) (hcells : k + 1 ≤ rm.cells) (hslots : n + N' ≤ rm.slots) (dg : decode cc pc = .ok (.anewarray index, 3))
    (kk : ∀ ad2 : Nat → Nat, (∀ i, i < N → ad2 i = ad i) → xC Γ cc (c0 :: wG) own ret rm D ad2 (N + 1) → xM Γ D ad2 (N + 1) (xupS Sh N sh) Q (k + 1) (n + N') ex (xz σ N) (pc + 3) lv (.ref (ad2 N) :: st)) : xM Γ D ad N Sh Q k n ex σ pc lv (.int n0 :: st) := by
  have kk0 := kk
  obtain ⟨p, l, e, R, s, m, args, below, meth, c, nL, A⟩ := Γ
  have hRR : R = rm := X.2.2.2.2.2.2.2.2.2.2.2.2.2
  subst hRR
  intro q hq H locs ls hP hS hl
  refine va_newq (D := D) X.1 X.2.1 X.2.2.1 (X.2.2.2.1 _ (List.mem_cons_of_mem _ hcl)) hover X.2.2.2.2.1 hP (xD X.2.2.2.2.2.2.1 X.2.2.2.2.2.2.2.1) hS X.2.2.2.2.2.1 hn hN hbytes hcells hslots dg (fun a cA H1 hK1 hP1 hD1 hS1 => ?_)
  have hcA : cA = cid := by
    obtain ⟨_, _, _, _, _, a1⟩ := (hK1.2 (xT D).length (cA, .object C) (by simp)).2
    obtain ⟨_, _, _, _, _, a2⟩ := (X.2.2.2.2.1.2 t0 (cid, .object C) ht).2
    exact Option.some.inj (a1.symm.trans a2)
  subst hcA
  rw [xW_push hsh] at hP1 hD1
  have k1 := kk0 (xadd ad N a) (fun i hi => by simp [xadd, Nat.ne_of_lt hi]) (xC_re (Γ := (p, l, e, R, s, m, args, below, meth, c, nL, A)) X (xD_in hD1)) q hq H1 locs ls hP1 hS1 hl
  rw [show xadd ad N a N = a by simp [xadd]] at k1
  exact k1
/-- a final field of a reference is set, in a constructor -/
theorem xr_putR {C : String} {T : u_T} {NF ci index : Nat} {tyf : Nat → FieldType} {ty : FieldType} {fs : List Value} (X : xC Γ cc (c0 :: wG) own ret rm D ad N) (hname : Γ.2.2.2.2.2.2.2.2.1.name = "<init>") (o j f : Nat) (sh sh2 : (Nat → Int32) → va_E) (ho : o < N) (hs : Sh o = sh) (he : sh (σ o) = .inr (ci, fs)) (he2 : sh2 (σ o) = .inr (ci, fs.set f (.ref (ad j)))) (hc : vwCl[ci]? = some (C, T, NF)) (hin : ∀ w ∈ u_ws C T NF, w ∈ (c0 :: wG)) (hty : ∀ k, k < NF → parseFieldDescriptor (T k).2.2.1 = some (tyf k)) (hnm : ∀ a, a < NF → ∀ b, b < NF → a ≠ b → (T a).2.1 ≠ (T b).2.1) (hf : f < NF) (hw : Cond.fieldLink own index own (T f).2.1 (T f).2.2.1 ∈ wG) (hr : (T f).1 = own) (hfin : (T f).2.2.2 = true) (hd : parseFieldDescriptor (T f).2.2.1 = some ty) (hn : ∀ a, narrow ty (.ref a) = .ref a) (hfit : ∀ a, fits ty (.ref a) = true) (hlen : f < fs.length) (dg : decode cc pc = .ok (.putfield index, 3))
    (kk : xM Γ D ad N (xupS Sh o sh2) Q k n ex σ (pc + 3) lv st) : xM Γ D ad N Sh Q k n ex σ pc lv (.ref (ad j) :: .ref (ad o) :: st) := by
  have kk0 := kk
  obtain ⟨p, l, e, R, s, m, args, below, meth, c, nL, A⟩ := Γ
  intro q hq H locs ls hP hS hl
  refine va_putF (D := D) X.1 X.2.1 X.2.2.2.1 hin tyf hty hnm X.2.2.1 X.2.2.2.2.1 hP (xD X.2.2.2.2.2.2.1 X.2.2.2.2.2.2.2.1) hS o (by rw [xW_get ho, hs, he]) hc f hf (X.2.2.2.1 _ (List.mem_cons_of_mem _ hw)) (fun x hx => by rw [← hr]; exact hx) hfin hname hr hd (hn _) (hfit _) hlen dg (fun H1 locs1 hP1 hD1 hS1 => kk0 q hq H1 locs1 ls ?_ hS1 hl)
  rwa [xW_setS ho he2] at hP1
/-- a final field of an int, in a constructor -/
theorem xr_putFI {C : String} {T : u_T} {NF ci index : Nat} {tyf : Nat → FieldType} {fs : List Value} {v : Int32} (X : xC Γ cc (c0 :: wG) own ret rm D ad N) (hname : Γ.2.2.2.2.2.2.2.2.1.name = "<init>") (o f : Nat) (sh : (Nat → Int32) → va_E) (ho : o < N) (hs : Sh o = sh) (he : sh (σ o) = .inr (ci, fs)) (he2 : sh (upd (σ o) f v) = .inr (ci, fs.set f (.int v))) (hc : vwCl[ci]? = some (C, T, NF)) (hin : ∀ w ∈ u_ws C T NF, w ∈ (c0 :: wG)) (hty : ∀ k, k < NF → parseFieldDescriptor (T k).2.2.1 = some (tyf k)) (hnm : ∀ a, a < NF → ∀ b, b < NF → a ≠ b → (T a).2.1 ≠ (T b).2.1) (hf : f < NF) (hw : Cond.fieldLink own index own (T f).2.1 (T f).2.2.1 ∈ wG) (hr : (T f).1 = own) (hfin : (T f).2.2.2 = true) (hd : parseFieldDescriptor (T f).2.2.1 = some .int) (hlen : f < fs.length) (dg : decode cc pc = .ok (.putfield index, 3))
    (kk : xM Γ D ad N Sh Q k n ex (xu σ o f v) (pc + 3) lv st) : xM Γ D ad N Sh Q k n ex σ pc lv (.int v :: .ref (ad o) :: st) := by
  have kk0 := kk
  obtain ⟨p, l, e, R, s, m, args, below, meth, c, nL, A⟩ := Γ
  intro q hq H locs ls hP hS hl
  refine va_putF (D := D) X.1 X.2.1 X.2.2.2.1 hin tyf hty hnm X.2.2.1 X.2.2.2.2.1 hP (xD X.2.2.2.2.2.2.1 X.2.2.2.2.2.2.2.1) hS o (by rw [xW_get ho, hs, he]) hc f hf (X.2.2.2.1 _ (List.mem_cons_of_mem _ hw)) (fun x hx => by rw [← hr]; exact hx) hfin hname hr hd rfl rfl hlen dg (fun H1 locs1 hP1 hD1 hS1 => kk0 q hq H1 locs1 ls ?_ hS1 hl)
  rwa [xW_set (k := f) (v := v) ho (by rw [hs, he2])] at hP1
/-- a field of an int, in a constructor -/
theorem xr_putI {C : String} {T : u_T} {NF ci index : Nat} {tyf : Nat → FieldType} {fs : List Value} {v : Int32} (X : xC Γ cc (c0 :: wG) own ret rm D ad N) (o f : Nat) (sh : (Nat → Int32) → va_E) (ho : o < N) (hs : Sh o = sh) (he : sh (σ o) = .inr (ci, fs)) (he2 : sh (upd (σ o) f v) = .inr (ci, fs.set f (.int v))) (hc : vwCl[ci]? = some (C, T, NF)) (hin : ∀ w ∈ u_ws C T NF, w ∈ (c0 :: wG)) (hty : ∀ k, k < NF → parseFieldDescriptor (T k).2.2.1 = some (tyf k)) (hnm : ∀ a, a < NF → ∀ b, b < NF → a ≠ b → (T a).2.1 ≠ (T b).2.1) (hf : f < NF) (hw : Cond.fieldLink own index own (T f).2.1 (T f).2.2.1 ∈ wG) (hr : (T f).1 = own) (hfin : (T f).2.2.2 = false) (hd : parseFieldDescriptor (T f).2.2.1 = some .int) (hlen : f < fs.length) (dg : decode cc pc = .ok (.putfield index, 3))
    (kk : xM Γ D ad N Sh Q k n ex (xu σ o f v) (pc + 3) lv st) : xM Γ D ad N Sh Q k n ex σ pc lv (.int v :: .ref (ad o) :: st) := by
  have kk0 := kk
  obtain ⟨p, l, e, R, s, m, args, below, meth, c, nL, A⟩ := Γ
  intro q hq H locs ls hP hS hl
  refine va_put (D := D) X.1 X.2.1 X.2.2.2.1 hin tyf hty hnm X.2.2.1 X.2.2.2.2.1 hP (xD X.2.2.2.2.2.2.1 X.2.2.2.2.2.2.2.1) hS o (by rw [xW_get ho, hs, he]) hc f hf (X.2.2.2.1 _ (List.mem_cons_of_mem _ hw)) (fun x hx => by rw [← hr]; exact hx) hfin hd rfl rfl hlen dg (fun H1 locs1 hP1 hD1 hS1 => kk0 q hq H1 locs1 ls ?_ hS1 hl)
  rwa [xW_set (k := f) (v := v) ho (by rw [hs, he2])] at hP1
/-- a row of references gets one -/
theorem xr_astq {C : String} {T : u_T} {NF ci n0 t0 : Nat} {cid : ClassId} {vs : List Value} {f : Nat → Option Nat} {i : Int32} (X : xC Γ cc (c0 :: wG) own ret rm D ad N) (o j : Nat) (sh2 : (Nat → Int32) → va_E) (ho : o < N) (hj : j < N) (hs : Sh o (σ o) = .inl (cid, n0, .inr (.inr (.inr (.inr f))))) (ht : (xT D)[t0]? = some (cid, .object C)) (hv : Sh j (σ j) = .inr (ci, vs)) (hc : vwCl[ci]? = some (C, T, NF)) (hi : vp_in i n0) (he2 : sh2 (σ o) = .inl (cid, n0, .inr (.inr (.inr (.inr (va_up f i.toNatClampNeg (some (ad j)))))))) (dg : decode cc pc = .ok (.aastore, 1))
    (kk : xM Γ D ad N (xupS Sh o sh2) Q k n ex σ (pc + 1) lv st) : xM Γ D ad N Sh Q k n ex σ pc lv (.ref (ad j) :: .int i :: .ref (ad o) :: st) := by
  have kk0 := kk
  obtain ⟨p, l, e, R, s, m, args, below, meth, c, nL, A⟩ := Γ
  intro q hq H locs ls hP hS hl
  refine va_astq (D := D) X.1 X.2.1 X.2.2.2.2.1 hP (xD X.2.2.2.2.2.2.1 X.2.2.2.2.2.2.2.1) hS o t0 j ci (r := (C, T, NF)) (by rw [xW_get ho, hs]) ht (by rw [xW_get hj, hv]) hc hi dg (fun H1 locs1 hP1 hD1 hS1 => kk0 q hq H1 locs1 ls ?_ hS1 hl)
  rwa [xW_setS ho he2] at hP1
/-- a field of a reference is read while the object is made -/
theorem xr_getB {C : String} {T : u_T} {NF ci index : Nat} {fs : List Value} {v : Value} (X : xC Γ cc (c0 :: wG) own ret rm D ad N) (o f : Nat) (ho : o < N) (he : Sh o (σ o) = .inr (ci, fs)) (hc : vwCl[ci]? = some (C, T, NF)) (hin : ∀ w ∈ u_ws C T NF, w ∈ (c0 :: wG)) (hf : f < NF) (hw : Cond.fieldLink own index own (T f).2.1 (T f).2.2.1 ∈ wG) (hr : (T f).1 = own) (hv : fs[f]? = some v) (dg : decode cc pc = .ok (.getfield index, 3)) (kk : xM Γ D ad N Sh Q k n ex σ (pc + 3) lv (v :: st)) : xM Γ D ad N Sh Q k n ex σ pc lv (.ref (ad o) :: st) :=
  xr_get X o (Sh o) ho rfl he hc hin f hf (List.mem_cons_of_mem _ hw) hr hv dg kk
/-- a constructor is called on the newest cell -/
theorem xr_callC {y : MethodName} {bytes : ByteArray} {maxL mc ms na index : Nat} {ws ws' : List Cond} {rm1 : Room} {av : (Nat → Nat) → List Value} {nn : Nat} {shB : (Nat → Int32) → va_E} {P : (Nat → Nat) → xSh → xS → Prop} (b : Nat) (As : List Value) (X : xC Γ cc Ts own ret rm D ad (b + 1)) (hAO : xAO Γ.2.2.2.2.1) (hM : xKC Γ.2.1 y ws rm1 mc ms D av b nn shB P) (hs : Sh b = shB) (h0 : σ b = (fun _ => 0)) (hav : av ad = .ref (ad b) :: As) (hG : GoodIn Ts ws) (hw : ws = Cond.code y bytes maxL none :: ws') (hrc : rm1.cells = mc) (hrs : rm1.slots = ms) (hini : Cond.initialized y.cls ∈ Ts) (hlink : Cond.methodLink own index y ∈ Ts) (hinst : Cond.instanceMethod y ∈ Ts) (hy1 : y.name = "<init>")
    (hd : y.cls ≠ "java/lang/invoke/MethodHandle" ∧ y.cls ≠ "java/lang/invoke/VarHandle" ∧ (parseMethodDescriptor y.desc).map (fun d => d.parameters.length) = some na) (hR : rm1.frames + 1 ≤ rm.frames ∧ 8 + (maxL + 11) + rm1.locals ≤ rm.locals)
    (hn : As.length = na) (hst : As.reverse ++ .ref (ad b) :: rest = st) (hcat : (rest.map fun v => v.category).sum ≤ 8) (hf : k + mc ≤ rm.cells ∧ n + ms ≤ rm.slots) (dg : decode cc pc = .ok (.invokespecial index, 3))
    (kk : ∀ ad2 Sh2 σ2, xPost ad Sh σ b P (ad2, Sh2, σ2) → xC Γ cc Ts own ret rm D ad2 (b + nn) → xM Γ D ad2 (b + nn) Sh2 Q (k + mc) (n + ms) ex σ2 (pc + 3) lv rest) : xM Γ D ad (b + 1) Sh Q k n ex σ pc lv st := by
  have kk0 := kk
  obtain ⟨p, l, e, R, s, m, args, below, meth, c, nL, A⟩ := Γ
  have hRR : R = rm := X.2.2.2.2.2.2.2.2.2.2.2.2.2
  subst hRR
  intro q hq H locs ls hP hS hl
  have hM1 := hM ad Sh σ H.size X.2.2.2.2.2.2.2.1 hs h0
  rw [hav] at hM1
  refine va_callv (va_runI (As := As) (rest := rest) ⟨X.1, X.2.1, X.2.2.2.2.2.2.2.2.1, X.2.2.1, X.2.2.2.1⟩ hM1 ⟨callB_of na X.2.2.2.1 hG hw hrc hrs (X.2.2.2.1 _ hini) (X.2.2.2.1 _ hlink) hd hR, hy1, X.2.2.2.1 _ hinst⟩ ⟨xBlindC, fun U hU hW => ?_⟩ rfl hn hl.1 hst.symm (lv_room hcat) dg hf) hS (fun q _ h => xA_sub X.2.2.2.2.2.1 X.2.2.2.2.2.2.1 hS q h) (xA_sub X.2.2.2.2.2.1 X.2.2.2.2.2.2.1 hS)
      (fun u t H1 locs1 ht hvm hp hB hz hk hS1 => ?_)
  · obtain ⟨g0, g1⟩ := xCallPre (av := .ref (ad b) :: As) X hP hS U hU hW
    exact ⟨g0, g1, va_AO.moved hW.alike hAO.1, va_AO.moved hW.alike hAO.2⟩
  · obtain ⟨ad2, Sh2, σ2⟩ := u
    have hD2 := xD_in hB.2
    exact kk0 ad2 Sh2 σ2 hp (xC_re (Γ := (p, l, e, R, s, m, args, below, meth, c, nL, A)) X ⟨fun i hi => xA_sub X.2.2.2.2.2.1 X.2.2.2.2.2.2.1 hS _ (hD2.1 i hi), hD2.2⟩) q hq H1 locs1 ls (ht ▸ hB.1) hS1 hl
/-- .. a nest mate's private constructor -/
theorem xr_callCN {host : String} {y : MethodName} {bytes : ByteArray} {maxL mc ms na index : Nat} {ws ws' : List Cond} {rm1 : Room} {av : (Nat → Nat) → List Value} {nn : Nat} {shB : (Nat → Int32) → va_E} {P : (Nat → Nat) → xSh → xS → Prop} (b : Nat) (As : List Value) (X : xC Γ cc Ts own ret rm D ad (b + 1)) (hAO : xAO Γ.2.2.2.2.1) (hM : xKC Γ.2.1 y ws rm1 mc ms D av b nn shB P) (hs : Sh b = shB) (h0 : σ b = (fun _ => 0)) (hav : av ad = .ref (ad b) :: As) (hG : GoodIn Ts ws) (hw : ws = Cond.code y bytes maxL none :: ws') (hrc : rm1.cells = mc) (hrs : rm1.slots = ms) (hini : Cond.initialized y.cls ∈ Ts) (j : Nat) (hlink : xNw[j]? = some (Cond.methodLinkNest own index y host)) (hinst : Cond.instanceMethod y ∈ Ts) (hy1 : y.name = "<init>")
    (hd : y.cls ≠ "java/lang/invoke/MethodHandle" ∧ y.cls ≠ "java/lang/invoke/VarHandle" ∧ (parseMethodDescriptor y.desc).map (fun d => d.parameters.length) = some na) (hR : rm1.frames + 1 ≤ rm.frames ∧ 8 + (maxL + 11) + rm1.locals ≤ rm.locals)
    (hn : As.length = na) (hst : As.reverse ++ .ref (ad b) :: rest = st) (hcat : (rest.map fun v => v.category).sum ≤ 8) (hf : k + mc ≤ rm.cells ∧ n + ms ≤ rm.slots) (dg : decode cc pc = .ok (.invokespecial index, 3))
    (kk : ∀ ad2 Sh2 σ2, xPost ad Sh σ b P (ad2, Sh2, σ2) → xC Γ cc Ts own ret rm D ad2 (b + nn) → xM Γ D ad2 (b + nn) Sh2 Q (k + mc) (n + ms) ex σ2 (pc + 3) lv rest) : xM Γ D ad (b + 1) Sh Q k n ex σ pc lv st := by
  have kk0 := kk
  obtain ⟨p, l, e, R, s, m, args, below, meth, c, nL, A⟩ := Γ
  have hRR : R = rm := X.2.2.2.2.2.2.2.2.2.2.2.2.2
  subst hRR
  intro q hq H locs ls hP hS hl
  have hM1 := hM ad Sh σ H.size X.2.2.2.2.2.2.2.1 hs h0
  rw [hav] at hM1
  refine va_callv (va_runIN (As := As) (rest := rest) ⟨X.1, X.2.1, X.2.2.2.2.2.2.2.2.1, X.2.2.1, X.2.2.2.1⟩ hM1 ⟨va_cnB na X.2.2.2.1 hG hw hrc hrs (X.2.2.2.2.2.2.2.2.2.2.2.1 _ (List.mem_of_getElem? hlink)) (X.2.2.2.1 _ hini) hd hR, hy1, X.2.2.2.1 _ hinst⟩ ⟨xBlindC, fun U hU hW => ?_⟩ rfl hn hl.1 hst.symm (lv_room hcat) dg hf) hS (fun q _ h => xA_sub X.2.2.2.2.2.1 X.2.2.2.2.2.2.1 hS q h) (xA_sub X.2.2.2.2.2.1 X.2.2.2.2.2.2.1 hS)
      (fun u t H1 locs1 ht hvm hp hB hz hk hS1 => ?_)
  · obtain ⟨g0, g1⟩ := xCallPre (av := .ref (ad b) :: As) X hP hS U hU hW
    exact ⟨g0, g1, va_AO.moved hW.alike hAO.1, va_AO.moved hW.alike hAO.2⟩
  · obtain ⟨ad2, Sh2, σ2⟩ := u
    have hD2 := xD_in hB.2
    exact kk0 ad2 Sh2 σ2 hp (xC_re (Γ := (p, l, e, R, s, m, args, below, meth, c, nL, A)) X ⟨fun i hi => xA_sub X.2.2.2.2.2.1 X.2.2.2.2.2.2.1 hS _ (hD2.1 i hi), hD2.2⟩) q hq H1 locs1 ls (ht ▸ hB.1) hS1 hl
end XCT
/-- the shapes of things just made -/
def shB0 : (Nat → Int32) → va_E := fun r => .inr (0, [.null, .null, .null, .int (r 3)])
def shB1 : (Nat → Int32) → va_E := fun r => .inr (1, [.null, .int (r 1), .int (r 2)])
def shB2 : (Nat → Int32) → va_E := fun r => .inr (2, [.int (r 0), .null, .int (r 2), .int (r 3), .int (r 4), .int (r 5), .int (r 6), .int (r 7), .null, .int (r 9), .int (r 10), .int (r 11), .int (r 12), .int (r 13)])
def shB3 : (Nat → Int32) → va_E := fun r => .inr (3, [.int (r 0), .int (r 1), .null, .null, .null])
def shB4 : (Nat → Int32) → va_E := fun r => .inr (4, [.null, .int (r 1), .int (r 2), .int (r 3), .int (r 4), .int (r 5), .int (r 6), .int (r 7)])
def shB5 : (Nat → Int32) → va_E := fun _ => .inr (5, [.null, .null, .null, .null, .null, .null, .null])
/-- what lies between two numbers is the same -/
def xEx (ad : Nat → Nat) (Sh : xSh) (ad2 : Nat → Nat) (Sh2 : xSh) (lo hi : Nat) : Prop := ∀ i, lo ≤ i → i < hi → ad2 i = ad i ∧ Sh2 i = Sh i
theorem xEx.sub {ad ad2 : Nat → Nat} {Sh Sh2 : xSh} {lo hi lo2 hi2 : Nat} (h : xEx ad Sh ad2 Sh2 lo hi) (h1 : lo ≤ lo2) (h2 : hi2 ≤ hi) : xEx ad Sh ad2 Sh2 lo2 hi2 := fun i a b => h i (by omega) (by omega)
theorem xHas_ex {N N2 o : Nat} {ad ad2 : Nat → Nat} {Sh Sh2 : xSh} {sh sh2 : (Nat → Int32) → va_E} {lo hi : Nat} (h : xHas N Sh o sh) (hx : xEx ad Sh ad2 Sh2 lo hi) (h1 : lo ≤ o) (h2 : o < hi) (h3 : hi ≤ N2) (he : sh2 = sh) : xHas N2 Sh2 o sh2 := ⟨by omega, by rw [(hx o h1 h2).2, h.2, he]⟩
theorem xIs0_ex {D : va_G} {N N2 c d : Nat} {ad ad2 : Nat → Nat} {Sh Sh2 : xSh} (h : xIs0 D ad N Sh c d) (hx : xEx ad Sh ad2 Sh2 d (d + 4)) (h3 : d + 4 ≤ N2) : xIs0 D ad2 N2 Sh2 c d :=
  ⟨xHas_ex h.1 hx (by omega) (by omega) h3 (by unfold shX0; rw [(hx (d + 1) (by omega) (by omega)).1, (hx (d + 2) (by omega) (by omega)).1, (hx (d + 3) (by omega) (by omega)).1]), xHas_ex h.2.1 hx (by omega) (by omega) h3 rfl, xHas_ex h.2.2.1 hx (by omega) (by omega) h3 rfl, xHas_ex h.2.2.2 hx (by omega) (by omega) h3 rfl⟩
theorem xIs2_ex {D : va_G} {N N2 d : Nat} {ad ad2 : Nat → Nat} {Sh Sh2 : xSh} (h : xIs2 D ad N Sh d) (hx : xEx ad Sh ad2 Sh2 d (d + 9)) (h3 : d + 9 ≤ N2) : xIs2 D ad2 N2 Sh2 d :=
  ⟨xHas_ex h.1 hx (by omega) (by omega) h3 (by unfold shX2; rw [(hx (d + 1) (by omega) (by omega)).1, (hx (d + 5) (by omega) (by omega)).1]), xIs0_ex h.2.1 (hx.sub (by omega) (by omega)) (by omega), xIs0_ex h.2.2 (hx.sub (by omega) (by omega)) (by omega)⟩
theorem shPs_eq {D : va_G} {ad ad2 : Nat → Nat} {g : Nat → Nat} {n : Nat} (h : ∀ j, j < n → ad2 (g j) = ad (g j)) : shPs D ad2 n g = shPs D ad n g := by
  unfold shPs
  have e : (fun j => if j < n then some (ad2 (g j)) else none) = (fun j => if j < n then some (ad (g j)) else none) := by
    funext j
    split
    · rename_i hj; rw [h j hj]
    · rfl
  rw [e]
theorem shOs_eq {D : va_G} {ad ad2 : Nat → Nat} {g : Nat → Nat} {n : Nat} (h : ∀ j, j < n → ad2 (g j) = ad (g j)) : shOs D ad2 n g = shOs D ad n g := by
  unfold shOs
  have e : (fun j => if j < n then some (ad2 (g j)) else none) = (fun j => if j < n then some (ad (g j)) else none) := by
    funext j
    split
    · rename_i hj; rw [h j hj]
    · rfl
  rw [e]
theorem xIs3_ex {D : va_G} {N N2 d : Nat} {ad ad2 : Nat → Nat} {Sh Sh2 : xSh} (h : xIs3 D ad N Sh d) (hx : xEx ad Sh ad2 Sh2 d (d + 43)) (h3 : d + 43 ≤ N2) : xIs3 D ad2 N2 Sh2 d :=
  ⟨xHas_ex h.1 hx (by omega) (by omega) h3 (by unfold shX3; rw [(hx (d + 1) (by omega) (by omega)).1, (hx (d + 2) (by omega) (by omega)).1, (hx (d + 6) (by omega) (by omega)).1]), xHas_ex h.2.1 hx (by omega) (by omega) h3 rfl, xIs0_ex h.2.2.1 (hx.sub (by omega) (by omega)) (by omega),
   xHas_ex h.2.2.2.1 hx (by omega) (by omega) h3 (shPs_eq (fun j hj => (hx _ (by omega) (by omega)).1)), fun j hj => xIs2_ex (h.2.2.2.2 j hj) (hx.sub (by omega) (by omega)) (by omega)⟩
theorem xIs1_ex {D : va_G} {N N2 d : Nat} {ad ad2 : Nat → Nat} {Sh Sh2 : xSh} (h : xIs1 D ad N Sh d) (hx : xEx ad Sh ad2 Sh2 d (d + 604)) (h3 : d + 604 ≤ N2) : xIs1 D ad2 N2 Sh2 d :=
  ⟨xHas_ex h.1 hx (by omega) (by omega) h3 (by unfold shX1; rw [(hx (d + 1) (by omega) (by omega)).1]), xHas_ex h.2.1 hx (by omega) (by omega) h3 (shOs_eq (fun j hj => (hx _ (by omega) (by omega)).1)), fun j hj => xIs3_ex (h.2.2 j hj) (hx.sub (by omega) (by omega)) (by omega)⟩
theorem xIs4_ex {D : va_G} {N N2 d : Nat} {ad ad2 : Nat → Nat} {Sh Sh2 : xSh} (h : xIs4 D ad N Sh d) (hx : xEx ad Sh ad2 Sh2 d (d + 2)) (h3 : d + 2 ≤ N2) : xIs4 D ad2 N2 Sh2 d :=
  ⟨xHas_ex h.1 hx (by omega) (by omega) h3 (by unfold shX4; rw [(hx (d + 1) (by omega) (by omega)).1]), xHas_ex h.2 hx (by omega) (by omega) h3 rfl⟩
theorem xIs5_ex {D : va_G} {N N2 d : Nat} {ad ad2 : Nat → Nat} {Sh Sh2 : xSh} (h : xIs5 D ad N Sh d) (hx : xEx ad Sh ad2 Sh2 d (d + 824)) (h3 : d + 824 ≤ N2) : xIs5 D ad2 N2 Sh2 d :=
  ⟨xHas_ex h.1 hx (by omega) (by omega) h3 (by unfold shX5; rw [(hx (d + 1) (by omega) (by omega)).1, (hx (d + 3) (by omega) (by omega)).1, (hx (d + 46) (by omega) (by omega)).1, (hx (d + 650) (by omega) (by omega)).1, (hx (d + 651) (by omega) (by omega)).1, (hx (d + 652) (by omega) (by omega)).1, (hx (d + 695) (by omega) (by omega)).1]), xIs4_ex h.2.1 (hx.sub (by omega) (by omega)) (by omega), xIs3_ex h.2.2.1 (hx.sub (by omega) (by omega)) (by omega), xIs1_ex h.2.2.2.1 (hx.sub (by omega) (by omega)) (by omega),
   xHas_ex h.2.2.2.2.1 hx (by omega) (by omega) h3 (shOs_eq (fun j hj => (hx _ (by omega) (by omega)).1)), xHas_ex h.2.2.2.2.2.1 hx (by omega) (by omega) h3 rfl, xIs3_ex h.2.2.2.2.2.2.1 (hx.sub (by omega) (by omega)) (by omega), xIs3_ex h.2.2.2.2.2.2.2.1 (hx.sub (by omega) (by omega)) (by omega), fun j hj => xIs3_ex (h.2.2.2.2.2.2.2.2 j hj) (hx.sub (by omega) (by omega)) (by omega)⟩
section XII
variable {R' : Type} {Γ : xG} {cc : ByteArray} {Ts : List Cond} {own : String} {ret : Option FieldType} {rm : Room} {D : va_G} {ad : Nat → Nat} {N : Nat} {Sh : xSh} {Q : R' → State → Prop} {k n : Nat} {σ : xS} {ex : Option R'} {pc : Nat} {lv lv2 : List (Nat × Value)} {st : List Value}
theorem xr_iincC (X : xC Γ cc Ts own ret rm D ad N) {i nL0 j : Nat} {d : Int} {x v : Int32} (ks : List Nat) (hn : i < nL0) (hG : Γ.2.2.2.2.2.2.2.2.2.2.1 = nL0) (hj : lv[j]? = some (i, .int x)) (hv : x + Int32.ofInt d = v) (hl2 : lv_pick ((i, Value.int v) :: lv.filter (fun q => !(q.1 == i) && !(q.1 + 1 == i && q.2.category == 2))) ks = lv2) (dg : decode cc pc = .ok (.iinc i d, 3)) (kk : xM Γ D ad N Sh Q k n ex σ (pc + 3) lv2 st) : xM Γ D ad N Sh Q k n ex σ pc lv st := by
  obtain ⟨p, l, e, R, s, m, args, below, meth, c, nL, A⟩ := Γ
  subst hG
  exact fun q hq H locs ls hP hS hl => lv_iinc X.1 X.2.1 dg hl hj hv hn rfl (fun ls2 h2 => kk q hq H locs ls2 hP hS (lv_sub h2 ks hl2))
end XII
