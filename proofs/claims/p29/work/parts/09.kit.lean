/-! THE SIMULATION KIT. A method's meaning is a function on xS (an object's or array's number, a slot: an int); 'none' means nothing is claimed. xM says: if the expression has a value, the machine, from here, comes to the end with that value. Each instruction turns xM at the next place into xM here. -/
abbrev xS : Type := Nat → Nat → Int32
/-- one slot is written -/
def xu (σ : xS) (o k : Nat) (v : Int32) : xS := fun i => if i = o then upd (σ o) k v else σ i
abbrev xSh : Type := Nat → (Nat → Int32) → va_E
def xW (ad : Nat → Nat) (N : Nat) (Sh : xSh) (σ : xS) : va_W := (List.range N).map (fun i => (ad i, Sh i (σ i)))
theorem xW_get {ad : Nat → Nat} {N : Nat} {Sh : xSh} {σ : xS} {i : Nat} (h : i < N) : (xW ad N Sh σ)[i]? = some (ad i, Sh i (σ i)) := by simp [xW, h]
theorem xW_lt {ad : Nat → Nat} {N : Nat} {Sh : xSh} {σ : xS} {i : Nat} {q : Nat × va_E} (h : (xW ad N Sh σ)[i]? = some q) : i < N ∧ q = (ad i, Sh i (σ i)) := by
  have h1 : i < N := by
    have h2 := (List.getElem?_eq_some_iff.mp h).1
    simpa [xW] using h2
  rw [xW_get h1] at h
  exact ⟨h1, (Option.some.inj h).symm⟩
theorem xW_set {ad : Nat → Nat} {N : Nat} {Sh : xSh} {σ : xS} {o k : Nat} {v : Int32} {e : va_E} (h : o < N) (he : Sh o (upd (σ o) k v) = e) : (xW ad N Sh σ).set o (ad o, e) = xW ad N Sh (xu σ o k v) := by
  subst he
  apply List.ext_getElem?
  intro i
  by_cases hi : i < N
  · rw [xW_get hi]
    by_cases hio : i = o
    · subst hio
      rw [List.getElem?_set_self (by simpa [xW] using hi)]
      simp [xu]
    · rw [List.getElem?_set_ne (Ne.symm hio), xW_get hi]
      simp [xu, hio]
  · rw [List.getElem?_eq_none (by simp [xW]; omega), List.getElem?_eq_none (by simp [xW]; omega)]
/-- the kinds of arrays that the worlds hold, by their classes' numbers -/
def xT (D : va_G) : List (ClassId × FieldType) := [(D.1 100, .int), (D.1 101, .char), (D.1 102, .boolean), (D.1 103, .int), (D.1 104, .object "HeldNotes$Pair"), (D.1 105, .object "HeldNotes$Post")]
/-- which cells a method may change -/
def xA (ad : Nat → Nat) (N sz : Nat) : Nat → Prop := fun q => (∃ i, i < N ∧ q = ad i) ∨ sz ≤ q
/-- the words that speak of nest mates -/
def xNw : List Cond := [.fieldLinkNest RX5 100 "HeldNotes$Post" "time" "I" "HeldNotes", .fieldLinkNest RX5 103 "HeldNotes$Post" "planned" "LHeldNotes$Dated;" "HeldNotes", .fieldLinkNest RX5 107 "HeldNotes$Dated" "count" "I" "HeldNotes", .fieldLinkNest RX5 125 "HeldNotes$Post" "pairs" "[LHeldNotes$Pair;" "HeldNotes", .fieldLinkNest RX5 137 "HeldNotes$Pair" "letters" "LHeldNotes$Dated;" "HeldNotes", .fieldLinkNest RX5 149 "HeldNotes$Post" "settings" "[I" "HeldNotes", .fieldLinkNest RX5 160 "HeldNotes$Memory" "count" "I" "HeldNotes", .fieldLinkNest RX5 172 "HeldNotes$Pair" "written" "I" "HeldNotes", .fieldLinkNest RX5 178 "HeldNotes$Pair" "sent" "I" "HeldNotes", .fieldLinkNest RX5 221 "HeldNotes$Pair" "outbox" "I" "HeldNotes", .fieldLinkNest RX5 52 "HeldNotes$TextBuffer" "length" "I" "HeldNotes", .fieldLinkNest RX5 78 "HeldNotes$TextBuffer" "kind" "I" "HeldNotes", .fieldLinkNest RX5 81 "HeldNotes$TextBuffer" "first" "I" "HeldNotes", .fieldLinkNest RX5 84 "HeldNotes$TextBuffer" "second" "I" "HeldNotes", .fieldLinkNest RX5 87 "HeldNotes$TextBuffer" "third" "I" "HeldNotes", .fieldLinkNest RX5 97 "HeldNotes$Post" "writers" "I" "HeldNotes", .fieldLinkNest RX2 27 "HeldNotes$Dated" "count" "I" "HeldNotes", .fieldLinkNest RX3 102 "HeldNotes$Pair" "holdsBack" "Z" "HeldNotes", .fieldLinkNest RX3 132 "HeldNotes$Pair" "answerTime" "I" "HeldNotes", .fieldLinkNest RX3 142 "HeldNotes$Pair" "outbox" "I" "HeldNotes", .fieldLinkNest RX3 145 "HeldNotes$Pair" "ticksHeld" "I" "HeldNotes", .fieldLinkNest RX3 160 "HeldNotes$Pair" "letters" "LHeldNotes$Dated;" "HeldNotes", .fieldLinkNest RX3 169 "HeldNotes$Pair" "signsCame" "I" "HeldNotes", .fieldLinkNest RX3 37 "HeldNotes" "FIRST_VALUES" "[I" "HeldNotes", .fieldLinkNest RX3 47 "HeldNotes$Dated" "count" "I" "HeldNotes", .fieldLinkNest RX3 89 "HeldNotes" "LOWEST_VALUES" "[I" "HeldNotes", .fieldLinkNest RX3 92 "HeldNotes" "HIGHEST_VALUES" "[I" "HeldNotes", .methodLinkNest RX5 9 yX4_init "HeldNotes", .methodLinkNest RX3 66 yX5_isWithin "HeldNotes", .castable "java/lang/IndexOutOfBoundsException" "java/lang/IndexOutOfBoundsException", .castable "java/lang/IllegalArgumentException" "java/lang/IllegalArgumentException", .castable "java/lang/IllegalStateException" "java/lang/IllegalStateException", .declares (Bundle.init0 "java/lang/RuntimeException"), .declares (Bundle.init0 "java/lang/Exception"), .declares (Bundle.init0 "java/lang/Throwable")]
def xNW (U : State) : Prop := ∀ w ∈ xNw, va_Nw w U
theorem xNW_warm {s U : State} (hW : s.WarmedH U.vm) (h : xNW s) : xNW U := by
  intro w hw
  have h1 := h w hw
  simp only [xNw, List.mem_cons, List.not_mem_nil, or_false] at hw
  rcases hw with rfl | rfl | rfl | rfl | rfl | rfl | rfl | rfl | rfl | rfl | rfl | rfl | rfl | rfl | rfl | rfl | rfl | rfl | rfl | rfl | rfl | rfl | rfl | rfl | rfl | rfl | rfl | rfl | rfl | rfl | rfl | rfl | rfl | rfl | rfl
  all_goals first | exact va_Nw.warmF hW h1 | exact va_Nw.warmM hW h1 | exact va_Nw.warmC hW h1 | exact va_Nw.warmD hW h1
theorem xNW_same {u U : State} (h : u.vm = U.vm) (hZ : xNW u) : xNW U := by
  intro w hw
  have h1 := hZ w hw
  simp only [xNw, List.mem_cons, List.not_mem_nil, or_false] at hw
  rcases hw with rfl | rfl | rfl | rfl | rfl | rfl | rfl | rfl | rfl | rfl | rfl | rfl | rfl | rfl | rfl | rfl | rfl | rfl | rfl | rfl | rfl | rfl | rfl | rfl | rfl | rfl | rfl | rfl | rfl | rfl | rfl | rfl | rfl | rfl | rfl
  all_goals exact va_Nw.same rfl h h1
/-- the static arrays -/
def xF1 : Nat → Int32 := fun j => match j with | 0 => 3 | 1 => 6 | 2 => 20 | _ => 3
def xF2 : Nat → Int32 := fun j => match j with | 0 => 1 | 1 => 0 | 2 => 4 | _ => 1
def xF3 : Nat → Int32 := fun j => match j with | 0 => 9 | 1 => 20 | 2 => 99 | _ => 6
def xSF1 (n : String) (f : Nat → Int32) (A : Nat → Prop) (U : State) (H : Heap) : Prop := ∃ a : Nat, va_Z "HeldNotes" n "[I" (.ref a) A U H ∧ va_T .int a 4 (fun j => .int (f j)) A U H
/-- which thrown class isn't another -/
def xNC (U : State) : Prop := va_Nc "java/lang/IndexOutOfBoundsException" "java/lang/IllegalArgumentException" U ∧ va_Nc "java/lang/IndexOutOfBoundsException" "java/lang/IllegalStateException" U ∧ va_Nc "java/lang/IllegalArgumentException" "java/lang/IndexOutOfBoundsException" U ∧ va_Nc "java/lang/IllegalArgumentException" "java/lang/IllegalStateException" U ∧ va_Nc "java/lang/IllegalStateException" "java/lang/IndexOutOfBoundsException" U ∧ va_Nc "java/lang/IllegalStateException" "java/lang/IllegalArgumentException" U
theorem xNC_moved {u U : State} (hvm : u.vm.Alike U.vm) (h : xNC u) : xNC U := ⟨va_Nc.moved hvm h.1, va_Nc.moved hvm h.2.1, va_Nc.moved hvm h.2.2.1, va_Nc.moved hvm h.2.2.2.1, va_Nc.moved hvm h.2.2.2.2.1, va_Nc.moved hvm h.2.2.2.2.2⟩
def xSF (A : Nat → Prop) (U : State) (H : Heap) : Prop := xSF1 "FIRST_VALUES" xF1 A U H ∧ xSF1 "LOWEST_VALUES" xF2 A U H ∧ xSF1 "HIGHEST_VALUES" xF3 A U H ∧ vx_Zq Bundle.tN "UNASSIGNED_STACK" Bundle.steD A U H ∧ vx_Zq Bundle.tN "SUPPRESSED_SENTINEL" Bundle.listD A U H ∧ xNC U
theorem xSF1_to {n : String} {f : Nat → Int32} {A B : Nat → Prop} {u U : State} {H H1 : Heap} (h : xSF1 n f A u H) (hvm : u.vm.Alike U.vm) (hq : ∀ a : Nat, a < H.size → ¬ A a → H1[a]? = H[a]?) (hAB : ∀ q, B q → A q) : xSF1 n f B U H1 := by
  obtain ⟨a, h1, h2⟩ := h
  exact ⟨a, ((h1.kept hq).moved hvm).narrow hAB, ((h2.kept hq).moved hvm).narrow hAB⟩
theorem xZq_to {C n d : String} {A B : Nat → Prop} {u U : State} {H H1 : Heap} (h : vx_Zq C n d A u H) (hvm : u.vm.Alike U.vm) (hq : ∀ a : Nat, a < H.size → ¬ A a → H1[a]? = H[a]?) (hAB : ∀ q, B q → A q) : vx_Zq C n d B U H1 := ((h.kept hq).moved hvm).narrow hAB
theorem xSF_to {A B : Nat → Prop} {u U : State} {H H1 : Heap} (h : xSF A u H) (hvm : u.vm.Alike U.vm) (hq : ∀ a : Nat, a < H.size → ¬ A a → H1[a]? = H[a]?) (hAB : ∀ q, B q → A q) : xSF B U H1 :=
  ⟨xSF1_to h.1 hvm hq hAB, xSF1_to h.2.1 hvm hq hAB, xSF1_to h.2.2.1 hvm hq hAB, xZq_to h.2.2.2.1 hvm hq hAB, xZq_to h.2.2.2.2.1 hvm hq hAB, xNC_moved hvm h.2.2.2.2.2⟩
/-- a method's start -/
def xPre (D : va_G) (ad : Nat → Nat) (N : Nat) (Sh : xSh) (σ : xS) (sz : Nat) (U : State) : Prop := U.heap.size = sz ∧ va_P D vwCl (xW ad N Sh σ) U.heap ∧ va_K D vwCl (xT D) U ∧ xNW U ∧ xSF (xA ad N sz) U U.heap
/-- the machine's part of a goal: program, launch, environment, room, start, method, arguments, frames below, method's row, code, locals, cells that may change -/
abbrev xG : Type := Program × Launch × Env × Room × State × MethodId × Array Value × List Frame × Method × Code × Nat × (Nat → Prop)
def xVV (p : Program) (l : Launch) (e : Env) (R : Room) (s : State) (m : MethodId) (args : Array Value) (below : List Frame) (meth : Method) (c : Code) (nL : Nat) (A : Nat → Prop) (D : va_G) (ad : Nat → Nat) (N : Nat) (Sh : xSh) (Q : State → Prop) (k n : Nat) (σ : xS) (pc : Nat) (lv : List (Nat × Value)) (st : List Value) : Prop :=
  ∀ (H : Heap) (locs : List Loc) (ls : Array Slot), va_P D vwCl (xW ad N Sh σ) H → va_S A s.heap H locs → lv_has ls nL lv → W p l e R s m args below meth c H locs k n Q (F0 m pc ls st)
def xV (Γ : xG) (D : va_G) (ad : Nat → Nat) (N : Nat) (Sh : xSh) (Q : State → Prop) (k n : Nat) (σ : xS) (pc : Nat) (lv : List (Nat × Value)) (st : List Value) : Prop :=
  match Γ with
  | (p, l, e, R, s, m, args, below, meth, c, nL, A) => xVV p l e R s m args below meth c nL A D ad N Sh Q k n σ pc lv st
def xM {R' : Type} (Γ : xG) (D : va_G) (ad : Nat → Nat) (N : Nat) (Sh : xSh) (Q : R' → State → Prop) (k n : Nat) (ex : Option R') (σ : xS) (pc : Nat) (lv : List (Nat × Value)) (st : List Value) : Prop := ∀ q, ex = some q → xV Γ D ad N Sh (Q q) k n σ pc lv st
def xCC (p : Program) (R : Room) (s : State) (m : MethodId) (args : Array Value) (meth : Method) (c : Code) (nL : Nat) (A : Nat → Prop) (cc : ByteArray) (Ts : List Cond) (own : String) (ret : Option FieldType) (rm : Room) (D : va_G) (ad : Nat → Nat) (N : Nat) : Prop :=
  p.tables.exec = Jvm.exec ∧ c.code = cc ∧ s.vm.findClass own = some m.cls ∧ (∀ w ∈ Ts, w.before args s = true) ∧ va_K D vwCl (xT D) s ∧ (∀ q : Nat, s.heap.size ≤ q → A q) ∧ (∀ i, i < N → A (ad i)) ∧ (∀ i j, i < N → j < N → ad i = ad j → i = j) ∧ c.maxLocals = nL ∧ meth.sig.returnType = ret ∧ meth.locks = false ∧ xNW s ∧ xSF A s s.heap ∧ R = rm
/-- what stands fast through a method's body -/
def xC (Γ : xG) (cc : ByteArray) (Ts : List Cond) (own : String) (ret : Option FieldType) (rm : Room) (D : va_G) (ad : Nat → Nat) (N : Nat) : Prop :=
  match Γ with
  | (p, _, _, R, s, m, args, _, meth, c, nL, A) => xCC p R s m args meth c nL A cc Ts own ret rm D ad N
theorem xD {A : Nat → Prop} {ad : Nat → Nat} {N : Nat} {Sh : xSh} {σ : xS} (h1 : ∀ i, i < N → A (ad i)) (h2 : ∀ i j, i < N → j < N → ad i = ad j → i = j) : va_D A (xW ad N Sh σ) :=
  ⟨fun i j p q hp hq hpq => by
    obtain ⟨a1, a2⟩ := xW_lt hp
    obtain ⟨b1, b2⟩ := xW_lt hq
    subst a2; subst b2
    exact h2 i j a1 b1 hpq, fun k q hk => by
    obtain ⟨a1, a2⟩ := xW_lt hk
    subst a2
    exact h1 k a1⟩
section XK
variable {R' : Type} {Γ : xG} {cc : ByteArray} {Ts : List Cond} {own : String} {ret : Option FieldType} {rm : Room} {D : va_G} {ad : Nat → Nat} {N : Nat} {Sh : xSh} {Q : R' → State → Prop} {k n : Nat} {σ : xS} {ex : Option R'} {pc pc2 : Nat} {lv lv2 : List (Nat × Value)} {st st2 rest : List Value}
theorem xM_none : xM Γ D ad N Sh Q k n none σ pc lv st := fun q h => by cases h
/-- an instruction that changes neither heap nor meaning -/
theorem x_lift (X : xC Γ cc Ts own ret rm D ad N)
    (h : ∀ (p : Program) (l : Launch) (e : Env) (R : Room) (s : State) (m : MethodId) (args : Array Value) (below : List Frame) (meth : Method) (c : Code) (nL : Nat) (A : Nat → Prop) (Q1 : State → Prop) (H : Heap) (locs : List Loc) (ls : Array Slot), xCC p R s m args meth c nL A cc Ts own ret rm D ad N → lv_has ls nL lv →
      (∀ ls2, lv_has ls2 nL lv2 → W p l e R s m args below meth c H locs k n Q1 (F0 m pc2 ls2 st2)) → W p l e R s m args below meth c H locs k n Q1 (F0 m pc ls st))
    (kk : xM Γ D ad N Sh Q k n ex σ pc2 lv2 st2) : xM Γ D ad N Sh Q k n ex σ pc lv st := by
  obtain ⟨p, l, e, R, s, m, args, below, meth, c, nL, A⟩ := Γ
  exact fun q hq H locs ls hP hS hl => h p l e R s m args below meth c nL A (Q q) H locs ls X hl (fun ls2 hl2 => kk q hq H locs ls2 hP hS hl2)
/-- a branch -/
theorem x_br {c0 : Prop} [Decidable c0] {tgt : Nat} {a b : Option R'} (X : xC Γ cc Ts own ret rm D ad N)
    (h : ∀ (p : Program) (l : Launch) (e : Env) (R : Room) (s : State) (m : MethodId) (args : Array Value) (below : List Frame) (meth : Method) (c : Code) (nL : Nat) (A : Nat → Prop) (Q1 : State → Prop) (H : Heap) (locs : List Loc) (ls : Array Slot), xCC p R s m args meth c nL A cc Ts own ret rm D ad N → lv_has ls nL lv →
      (c0 → W p l e R s m args below meth c H locs k n Q1 (F0 m tgt ls st2)) → (¬ c0 → W p l e R s m args below meth c H locs k n Q1 (F0 m (pc + 3) ls st2)) → W p l e R s m args below meth c H locs k n Q1 (F0 m pc ls st))
    (kt : c0 → xM Γ D ad N Sh Q k n a σ tgt lv st2) (kf : ¬ c0 → xM Γ D ad N Sh Q k n b σ (pc + 3) lv st2) : xM Γ D ad N Sh Q k n (if c0 then a else b) σ pc lv st := by
  obtain ⟨p, l, e, R, s, m, args, below, meth, c, nL, A⟩ := Γ
  exact fun q hq H locs ls hP hS hl => h p l e R s m args below meth c nL A (Q q) H locs ls X hl (fun hc => kt hc q (by rwa [if_pos hc] at hq) H locs ls hP hS hl) (fun hc => kf hc q (by rwa [if_neg hc] at hq) H locs ls hP hS hl)
/-- a test of the meaning alone -/
theorem x_if {c0 : Prop} [Decidable c0] {a b : Option R'} (kt : c0 → xM Γ D ad N Sh Q k n a σ pc lv st) (kf : ¬ c0 → xM Γ D ad N Sh Q k n b σ pc lv st) : xM Γ D ad N Sh Q k n (if c0 then a else b) σ pc lv st := by
  intro q hq
  by_cases hc : c0
  · exact kt hc q (by rwa [if_pos hc] at hq)
  · exact kf hc q (by rwa [if_neg hc] at hq)
/-- a guard of the meaning -/
theorem x_gd {c0 : Prop} [Decidable c0] {a : Option R'} (kt : c0 → xM Γ D ad N Sh Q k n a σ pc lv st) : xM Γ D ad N Sh Q k n (if c0 then a else none) σ pc lv st := x_if kt (fun _ => xM_none)
/-- a value gets a name -/
def xlet {α R' : Type} (x : α) (K : α → Option R') : Option R' := K x
theorem x_let {α : Type} {x : α} {K : α → Option R'} (kk : ∀ z, z = x → xM Γ D ad N Sh Q k n (K z) σ pc lv st) : xM Γ D ad N Sh Q k n (xlet x K) σ pc lv st := kk x rfl
theorem x_leti {x : Int32} {K : Int32 → Option R'} (kk : ∀ z, xM Γ D ad N Sh Q k n (K z) σ pc lv (.int z :: st)) : xM Γ D ad N Sh Q k n (xlet x K) σ pc lv (.int x :: st) := kk x
theorem x_letl {x : Int64} {K : Int64 → Option R'} (kk : ∀ z, xM Γ D ad N Sh Q k n (K z) σ pc lv (.long z :: st)) : xM Γ D ad N Sh Q k n (xlet x K) σ pc lv (.long x :: st) := kk x
/-- what goes on behind a place where ways meet -/
def xjn {T R' : Type} (K : T) (B : T → Option R') : Option R' := B K
theorem x_jn {T : Type} {K : T} {B : T → Option R'} (P : T → Prop) (hK : P K) (hB : ∀ K, P K → xM Γ D ad N Sh Q k n (B K) σ pc lv st) : xM Γ D ad N Sh Q k n (xjn K B) σ pc lv st := hB K hK
/-- fewer locals, in another order -/
theorem x_sub (ks : List Nat) (hl : lv_pick lv ks = lv2) (kk : xM Γ D ad N Sh Q k n ex σ pc lv2 st) : xM Γ D ad N Sh Q k n ex σ pc lv st := by
  obtain ⟨p, l, e, R, s, m, args, below, meth, c, nL, A⟩ := Γ
  exact fun q hq H locs ls hP hS h => kk q hq H locs ls hP hS (lv_sub h ks hl)
theorem x_pc (h : pc = pc2) (kk : xM Γ D ad N Sh Q k n ex σ pc2 lv st) : xM Γ D ad N Sh Q k n ex σ pc lv st := h ▸ kk
end XK
