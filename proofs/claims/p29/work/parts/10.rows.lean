def xin (i : Int32) (n : Nat) : Bool := !(decide (i < 0) || decide (n ≤ i.toNatClampNeg))
theorem xin_vp {i : Int32} {n : Nat} (h : xin i n = true) : vp_in i n := by
  unfold xin at h
  unfold vp_in
  simpa using h
section XR
variable {R' : Type} {Γ : xG} {cc : ByteArray} {Ts : List Cond} {own : String} {ret : Option FieldType} {rm : Room} {D : va_G} {ad : Nat → Nat} {N : Nat} {Sh : xSh} {Q : R' → State → Prop} {k n : Nat} {σ : xS} {ex : Option R'} {pc : Nat} {lv lv2 : List (Nat × Value)} {st rest : List Value}
theorem xr_iconst (X : xC Γ cc Ts own ret rm D ad N) {i : Int} {v : Int32} (dg : decode cc pc = .ok (.iconst i, 1)) (hv : Int32.ofInt i = v) (kk : xM Γ D ad N Sh Q k n ex σ (pc + 1) lv (.int v :: st)) : xM Γ D ad N Sh Q k n ex σ pc lv st :=
  x_lift X (fun p l e R s m args below meth c nL A Q1 H locs ls C hl kk0 => lv_iconst C.1 C.2.1 dg hv (kk0 ls hl)) kk
theorem xr_bipush (X : xC Γ cc Ts own ret rm D ad N) {i : Int} {v : Int32} (dg : decode cc pc = .ok (.bipush i, 2)) (hv : (Int8.ofInt i).toInt32 = v) (kk : xM Γ D ad N Sh Q k n ex σ (pc + 2) lv (.int v :: st)) : xM Γ D ad N Sh Q k n ex σ pc lv st :=
  x_lift X (fun p l e R s m args below meth c nL A Q1 H locs ls C hl kk0 => lv_bipush C.1 C.2.1 dg hv (kk0 ls hl)) kk
theorem xr_sipush (X : xC Γ cc Ts own ret rm D ad N) {i : Int} {v : Int32} (dg : decode cc pc = .ok (.sipush i, 3)) (hv : (Int16.ofInt i).toInt32 = v) (kk : xM Γ D ad N Sh Q k n ex σ (pc + 3) lv (.int v :: st)) : xM Γ D ad N Sh Q k n ex σ pc lv st :=
  x_lift X (fun p l e R s m args below meth c nL A Q1 H locs ls C hl kk0 => lv_sipush C.1 C.2.1 dg hv (kk0 ls hl)) kk
theorem xr_ldc (X : xC Γ cc Ts own ret rm D ad N) {index : Nat} {v : Int32} (dg : decode cc pc = .ok (.ldc index, 2)) (hw : Cond.constant own index v ∈ Ts) (kk : xM Γ D ad N Sh Q k n ex σ (pc + 2) lv (.int v :: st)) : xM Γ D ad N Sh Q k n ex σ pc lv st :=
  x_lift X (fun p l e R s m args below meth c nL A Q1 H locs ls C hl kk0 => lv_ldc C.1 C.2.1 C.2.2.1 (C.2.2.2.1 _ hw) dg (kk0 ls hl)) kk
theorem xr_ldc2 (X : xC Γ cc Ts own ret rm D ad N) {index : Nat} {v : Int64} (dg : decode cc pc = .ok (.ldc2_w index, 3)) (hw : Cond.constantLong own index v ∈ Ts) (kk : xM Γ D ad N Sh Q k n ex σ (pc + 3) lv (.long v :: st)) : xM Γ D ad N Sh Q k n ex σ pc lv st :=
  x_lift X (fun p l e R s m args below meth c nL A Q1 H locs ls C hl kk0 => lv_ldc2 C.1 C.2.1 C.2.2.1 (C.2.2.2.1 _ hw) dg (kk0 ls hl)) kk
theorem xr_lconst (X : xC Γ cc Ts own ret rm D ad N) {i : Fin 2} {v : Int64} (dg : decode cc pc = .ok (.lconst i, 1)) (hv : Int64.ofNat (i : Nat) = v) (kk : xM Γ D ad N Sh Q k n ex σ (pc + 1) lv (.long v :: st)) : xM Γ D ad N Sh Q k n ex σ pc lv st :=
  x_lift X (fun p l e R s m args below meth c nL A Q1 H locs ls C hl kk0 => lv_lconst C.1 C.2.1 dg hv (kk0 ls hl)) kk
theorem xr_iload (X : xC Γ cc Ts own ret rm D ad N) {i : Nat} {v : Int32} (j : Nat) (hj : lv[j]? = some (i, .int v)) (dg : decode cc pc = .ok (.iload i, 2)) (kk : xM Γ D ad N Sh Q k n ex σ (pc + 2) lv (.int v :: st)) : xM Γ D ad N Sh Q k n ex σ pc lv st :=
  x_lift X (fun p l e R s m args below meth c nL A Q1 H locs ls C hl kk0 => lv_iload C.1 C.2.1 dg (lv_at hl j hj) (kk0 ls hl)) kk
theorem xr_iload_n (X : xC Γ cc Ts own ret rm D ad N) {i : Nat} {f : Fin 4} {v : Int32} (j : Nat) (hj : lv[j]? = some (i, .int v)) (hf : (f : Nat) = i) (dg : decode cc pc = .ok (.iload_n f, 1)) (kk : xM Γ D ad N Sh Q k n ex σ (pc + 1) lv (.int v :: st)) : xM Γ D ad N Sh Q k n ex σ pc lv st :=
  x_lift X (fun p l e R s m args below meth c nL A Q1 H locs ls C hl kk0 => lv_iload_n C.1 C.2.1 dg hf (lv_at hl j hj) (kk0 ls hl)) kk
theorem xr_aload (X : xC Γ cc Ts own ret rm D ad N) {i : Nat} {v : Nat} (j : Nat) (hj : lv[j]? = some (i, .ref v)) (dg : decode cc pc = .ok (.aload i, 2)) (kk : xM Γ D ad N Sh Q k n ex σ (pc + 2) lv (.ref v :: st)) : xM Γ D ad N Sh Q k n ex σ pc lv st :=
  x_lift X (fun p l e R s m args below meth c nL A Q1 H locs ls C hl kk0 => lv_aload C.1 C.2.1 dg (lv_at hl j hj) (kk0 ls hl)) kk
theorem xr_aload_n (X : xC Γ cc Ts own ret rm D ad N) {i : Nat} {f : Fin 4} {v : Nat} (j : Nat) (hj : lv[j]? = some (i, .ref v)) (hf : (f : Nat) = i) (dg : decode cc pc = .ok (.aload_n f, 1)) (kk : xM Γ D ad N Sh Q k n ex σ (pc + 1) lv (.ref v :: st)) : xM Γ D ad N Sh Q k n ex σ pc lv st :=
  x_lift X (fun p l e R s m args below meth c nL A Q1 H locs ls C hl kk0 => lv_aload_n C.1 C.2.1 dg hf (lv_at hl j hj) (kk0 ls hl)) kk
theorem xr_lload (X : xC Γ cc Ts own ret rm D ad N) {i : Nat} {v : Int64} (j : Nat) (hj : lv[j]? = some (i, .long v)) (dg : decode cc pc = .ok (.lload i, 2)) (kk : xM Γ D ad N Sh Q k n ex σ (pc + 2) lv (.long v :: st)) : xM Γ D ad N Sh Q k n ex σ pc lv st :=
  x_lift X (fun p l e R s m args below meth c nL A Q1 H locs ls C hl kk0 => lv_lload C.1 C.2.1 dg (lv_at hl j hj) (kk0 ls hl)) kk
theorem xr_lload_n (X : xC Γ cc Ts own ret rm D ad N) {i : Nat} {f : Fin 4} {v : Int64} (j : Nat) (hj : lv[j]? = some (i, .long v)) (hf : (f : Nat) = i) (dg : decode cc pc = .ok (.lload_n f, 1)) (kk : xM Γ D ad N Sh Q k n ex σ (pc + 1) lv (.long v :: st)) : xM Γ D ad N Sh Q k n ex σ pc lv st :=
  x_lift X (fun p l e R s m args below meth c nL A Q1 H locs ls C hl kk0 => lv_lload_n C.1 C.2.1 dg hf (lv_at hl j hj) (kk0 ls hl)) kk
theorem xr_istore (X : xC Γ cc Ts own ret rm D ad N) {i nL0 : Nat} {v : Int32} (ks : List Nat) (hn : i < nL0) (hG : Γ.2.2.2.2.2.2.2.2.2.2.1 = nL0) (hl2 : lv_pick ((i, Value.int v) :: lv.filter (fun q => !(q.1 == i) && !(q.1 + 1 == i && q.2.category == 2))) ks = lv2) (dg : decode cc pc = .ok (.istore i, 2)) (kk : xM Γ D ad N Sh Q k n ex σ (pc + 2) lv2 st) : xM Γ D ad N Sh Q k n ex σ pc lv (.int v :: st) := by
  obtain ⟨p, l, e, R, s, m, args, below, meth, c, nL, A⟩ := Γ
  subst hG
  exact fun q hq H locs ls hP hS hl => lv_istore X.1 X.2.1 dg hl hn rfl (fun ls2 h2 => kk q hq H locs ls2 hP hS (lv_sub h2 ks hl2))
theorem xr_istore_n (X : xC Γ cc Ts own ret rm D ad N) {i nL0 : Nat} {f : Fin 4} (hf : (f : Nat) = i) {v : Int32} (ks : List Nat) (hn : i < nL0) (hG : Γ.2.2.2.2.2.2.2.2.2.2.1 = nL0) (hl2 : lv_pick ((i, Value.int v) :: lv.filter (fun q => !(q.1 == i) && !(q.1 + 1 == i && q.2.category == 2))) ks = lv2) (dg : decode cc pc = .ok (.istore_n f, 1)) (kk : xM Γ D ad N Sh Q k n ex σ (pc + 1) lv2 st) : xM Γ D ad N Sh Q k n ex σ pc lv (.int v :: st) := by
  obtain ⟨p, l, e, R, s, m, args, below, meth, c, nL, A⟩ := Γ
  subst hG
  exact fun q hq H locs ls hP hS hl => lv_istore_n X.1 X.2.1 dg hf hl hn rfl (fun ls2 h2 => kk q hq H locs ls2 hP hS (lv_sub h2 ks hl2))
theorem xr_astore (X : xC Γ cc Ts own ret rm D ad N) {i nL0 : Nat} {v : Nat} (ks : List Nat) (hn : i < nL0) (hG : Γ.2.2.2.2.2.2.2.2.2.2.1 = nL0) (hl2 : lv_pick ((i, Value.ref v) :: lv.filter (fun q => !(q.1 == i) && !(q.1 + 1 == i && q.2.category == 2))) ks = lv2) (dg : decode cc pc = .ok (.astore i, 2)) (kk : xM Γ D ad N Sh Q k n ex σ (pc + 2) lv2 st) : xM Γ D ad N Sh Q k n ex σ pc lv (.ref v :: st) := by
  obtain ⟨p, l, e, R, s, m, args, below, meth, c, nL, A⟩ := Γ
  subst hG
  exact fun q hq H locs ls hP hS hl => lv_astore X.1 X.2.1 dg hl hn rfl (fun ls2 h2 => kk q hq H locs ls2 hP hS (lv_sub h2 ks hl2))
theorem xr_astore_n (X : xC Γ cc Ts own ret rm D ad N) {i nL0 : Nat} {f : Fin 4} (hf : (f : Nat) = i) {v : Nat} (ks : List Nat) (hn : i < nL0) (hG : Γ.2.2.2.2.2.2.2.2.2.2.1 = nL0) (hl2 : lv_pick ((i, Value.ref v) :: lv.filter (fun q => !(q.1 == i) && !(q.1 + 1 == i && q.2.category == 2))) ks = lv2) (dg : decode cc pc = .ok (.astore_n f, 1)) (kk : xM Γ D ad N Sh Q k n ex σ (pc + 1) lv2 st) : xM Γ D ad N Sh Q k n ex σ pc lv (.ref v :: st) := by
  obtain ⟨p, l, e, R, s, m, args, below, meth, c, nL, A⟩ := Γ
  subst hG
  exact fun q hq H locs ls hP hS hl => lv_astore_n X.1 X.2.1 dg hf hl hn rfl (fun ls2 h2 => kk q hq H locs ls2 hP hS (lv_sub h2 ks hl2))
theorem xr_lstore (X : xC Γ cc Ts own ret rm D ad N) {i nL0 : Nat} {v : Int64} (ks : List Nat) (hn : i + 1 < nL0) (hG : Γ.2.2.2.2.2.2.2.2.2.2.1 = nL0) (hl2 : lv_pick ((i, Value.long v) :: lv.filter (fun q => !(q.1 == i) && (!(q.1 == i + 1) && !(q.1 + 1 == i && q.2.category == 2)))) ks = lv2) (dg : decode cc pc = .ok (.lstore i, 2)) (kk : xM Γ D ad N Sh Q k n ex σ (pc + 2) lv2 st) : xM Γ D ad N Sh Q k n ex σ pc lv (.long v :: st) := by
  obtain ⟨p, l, e, R, s, m, args, below, meth, c, nL, A⟩ := Γ
  subst hG
  exact fun q hq H locs ls hP hS hl => lv_lstore X.1 X.2.1 dg hl hn rfl (fun ls2 h2 => kk q hq H locs ls2 hP hS (lv_sub h2 ks hl2))
theorem xr_lstore_n (X : xC Γ cc Ts own ret rm D ad N) {i nL0 : Nat} {f : Fin 4} (hf : (f : Nat) = i) {v : Int64} (ks : List Nat) (hn : i + 1 < nL0) (hG : Γ.2.2.2.2.2.2.2.2.2.2.1 = nL0) (hl2 : lv_pick ((i, Value.long v) :: lv.filter (fun q => !(q.1 == i) && (!(q.1 == i + 1) && !(q.1 + 1 == i && q.2.category == 2)))) ks = lv2) (dg : decode cc pc = .ok (.lstore_n f, 1)) (kk : xM Γ D ad N Sh Q k n ex σ (pc + 1) lv2 st) : xM Γ D ad N Sh Q k n ex σ pc lv (.long v :: st) := by
  obtain ⟨p, l, e, R, s, m, args, below, meth, c, nL, A⟩ := Γ
  subst hG
  exact fun q hq H locs ls hP hS hl => lv_lstore_n X.1 X.2.1 dg hf hl hn rfl (fun ls2 h2 => kk q hq H locs ls2 hP hS (lv_sub h2 ks hl2))
theorem xr_iinc (X : xC Γ cc Ts own ret rm D ad N) {i nL0 j : Nat} {d : Int} {x v : Int32} {K : Int32 → Option R'} (ks : List Nat) (hn : i < nL0) (hG : Γ.2.2.2.2.2.2.2.2.2.2.1 = nL0) (hj : lv[j]? = some (i, .int x)) (hv : x + Int32.ofInt d = v) (lv2 : Int32 → List (Nat × Value)) (hl2 : ∀ z, lv_pick ((i, Value.int z) :: lv.filter (fun q => !(q.1 == i) && !(q.1 + 1 == i && q.2.category == 2))) ks = lv2 z) (dg : decode cc pc = .ok (.iinc i d, 3)) (kk : ∀ z, xM Γ D ad N Sh Q k n (K z) σ (pc + 3) (lv2 z) st) : xM Γ D ad N Sh Q k n (xlet v K) σ pc lv st := by
  obtain ⟨p, l, e, R, s, m, args, below, meth, c, nL, A⟩ := Γ
  subst hG
  exact fun q hq H locs ls hP hS hl => lv_iinc X.1 X.2.1 dg hl hj hv hn rfl (fun ls2 h2 => kk v q hq H locs ls2 hP hS (lv_sub h2 ks (hl2 v)))
theorem xr_iadd (X : xC Γ cc Ts own ret rm D ad N) {x y : Int32} (dg : decode cc pc = .ok (.iadd, 1)) (kk : xM Γ D ad N Sh Q k n ex σ (pc + 1) lv (.int (x + y) :: st)) : xM Γ D ad N Sh Q k n ex σ pc lv (.int y :: .int x :: st) :=
  x_lift X (fun p l e R s m args below meth c nL A Q1 H locs ls C hl kk0 => lv_iadd C.1 C.2.1 dg (kk0 ls hl)) kk
theorem xr_isub (X : xC Γ cc Ts own ret rm D ad N) {x y : Int32} (dg : decode cc pc = .ok (.isub, 1)) (kk : xM Γ D ad N Sh Q k n ex σ (pc + 1) lv (.int (x - y) :: st)) : xM Γ D ad N Sh Q k n ex σ pc lv (.int y :: .int x :: st) :=
  x_lift X (fun p l e R s m args below meth c nL A Q1 H locs ls C hl kk0 => lv_isub C.1 C.2.1 dg (kk0 ls hl)) kk
theorem xr_imul (X : xC Γ cc Ts own ret rm D ad N) {x y : Int32} (dg : decode cc pc = .ok (.imul, 1)) (kk : xM Γ D ad N Sh Q k n ex σ (pc + 1) lv (.int (x * y) :: st)) : xM Γ D ad N Sh Q k n ex σ pc lv (.int y :: .int x :: st) :=
  x_lift X (fun p l e R s m args below meth c nL A Q1 H locs ls C hl kk0 => lv_imul C.1 C.2.1 dg (kk0 ls hl)) kk
theorem xr_iand (X : xC Γ cc Ts own ret rm D ad N) {x y : Int32} (dg : decode cc pc = .ok (.iand, 1)) (kk : xM Γ D ad N Sh Q k n ex σ (pc + 1) lv (.int (x &&& y) :: st)) : xM Γ D ad N Sh Q k n ex σ pc lv (.int y :: .int x :: st) :=
  x_lift X (fun p l e R s m args below meth c nL A Q1 H locs ls C hl kk0 => lv_iand C.1 C.2.1 dg (kk0 ls hl)) kk
theorem xr_ladd (X : xC Γ cc Ts own ret rm D ad N) {x y : Int64} (dg : decode cc pc = .ok (.ladd, 1)) (kk : xM Γ D ad N Sh Q k n ex σ (pc + 1) lv (.long (x + y) :: st)) : xM Γ D ad N Sh Q k n ex σ pc lv (.long y :: .long x :: st) :=
  x_lift X (fun p l e R s m args below meth c nL A Q1 H locs ls C hl kk0 => lv_ladd C.1 C.2.1 dg (kk0 ls hl)) kk
theorem xr_lsub (X : xC Γ cc Ts own ret rm D ad N) {x y : Int64} (dg : decode cc pc = .ok (.lsub, 1)) (kk : xM Γ D ad N Sh Q k n ex σ (pc + 1) lv (.long (x - y) :: st)) : xM Γ D ad N Sh Q k n ex σ pc lv (.long y :: .long x :: st) :=
  x_lift X (fun p l e R s m args below meth c nL A Q1 H locs ls C hl kk0 => lv_lsub C.1 C.2.1 dg (kk0 ls hl)) kk
theorem xr_lmul (X : xC Γ cc Ts own ret rm D ad N) {x y : Int64} (dg : decode cc pc = .ok (.lmul, 1)) (kk : xM Γ D ad N Sh Q k n ex σ (pc + 1) lv (.long (x * y) :: st)) : xM Γ D ad N Sh Q k n ex σ pc lv (.long y :: .long x :: st) :=
  x_lift X (fun p l e R s m args below meth c nL A Q1 H locs ls C hl kk0 => lv_lmul C.1 C.2.1 dg (kk0 ls hl)) kk
theorem xr_land (X : xC Γ cc Ts own ret rm D ad N) {x y : Int64} (dg : decode cc pc = .ok (.land, 1)) (kk : xM Γ D ad N Sh Q k n ex σ (pc + 1) lv (.long (x &&& y) :: st)) : xM Γ D ad N Sh Q k n ex σ pc lv (.long y :: .long x :: st) :=
  x_lift X (fun p l e R s m args below meth c nL A Q1 H locs ls C hl kk0 => lv_land C.1 C.2.1 dg (kk0 ls hl)) kk
theorem xr_lor (X : xC Γ cc Ts own ret rm D ad N) {x y : Int64} (dg : decode cc pc = .ok (.lor, 1)) (kk : xM Γ D ad N Sh Q k n ex σ (pc + 1) lv (.long (x ||| y) :: st)) : xM Γ D ad N Sh Q k n ex σ pc lv (.long y :: .long x :: st) :=
  x_lift X (fun p l e R s m args below meth c nL A Q1 H locs ls C hl kk0 => lv_lor C.1 C.2.1 dg (kk0 ls hl)) kk
theorem xr_idiv (X : xC Γ cc Ts own ret rm D ad N) {x y : Int32} (hne : ¬ y = 0) (dg : decode cc pc = .ok (.idiv, 1)) (kk : xM Γ D ad N Sh Q k n ex σ (pc + 1) lv (.int (x / y) :: st)) : xM Γ D ad N Sh Q k n ex σ pc lv (.int y :: .int x :: st) :=
  x_lift X (fun p l e R s m args below meth c nL A Q1 H locs ls C hl kk0 => lv_idiv C.1 C.2.1 dg hne (kk0 ls hl)) kk
theorem xr_irem (X : xC Γ cc Ts own ret rm D ad N) {x y : Int32} (hne : ¬ y = 0) (dg : decode cc pc = .ok (.irem, 1)) (kk : xM Γ D ad N Sh Q k n ex σ (pc + 1) lv (.int (x - x / y * y) :: st)) : xM Γ D ad N Sh Q k n ex σ pc lv (.int y :: .int x :: st) :=
  x_lift X (fun p l e R s m args below meth c nL A Q1 H locs ls C hl kk0 => lv_irem C.1 C.2.1 dg hne (kk0 ls hl)) kk
theorem xr_ldiv (X : xC Γ cc Ts own ret rm D ad N) {x y : Int64} (hne : ¬ y = 0) (dg : decode cc pc = .ok (.ldiv, 1)) (kk : xM Γ D ad N Sh Q k n ex σ (pc + 1) lv (.long (x / y) :: st)) : xM Γ D ad N Sh Q k n ex σ pc lv (.long y :: .long x :: st) :=
  x_lift X (fun p l e R s m args below meth c nL A Q1 H locs ls C hl kk0 => lv_ldiv C.1 C.2.1 dg hne (kk0 ls hl)) kk
theorem xr_lrem (X : xC Γ cc Ts own ret rm D ad N) {x y : Int64} (hne : ¬ y = 0) (dg : decode cc pc = .ok (.lrem, 1)) (kk : xM Γ D ad N Sh Q k n ex σ (pc + 1) lv (.long (x - x / y * y) :: st)) : xM Γ D ad N Sh Q k n ex σ pc lv (.long y :: .long x :: st) :=
  x_lift X (fun p l e R s m args below meth c nL A Q1 H locs ls C hl kk0 => lv_lrem C.1 C.2.1 dg hne (kk0 ls hl)) kk
theorem xr_ineg (X : xC Γ cc Ts own ret rm D ad N) {x : Int32} (dg : decode cc pc = .ok (.ineg, 1)) (kk : xM Γ D ad N Sh Q k n ex σ (pc + 1) lv (.int (-x) :: st)) : xM Γ D ad N Sh Q k n ex σ pc lv (.int x :: st) :=
  x_lift X (fun p l e R s m args below meth c nL A Q1 H locs ls C hl kk0 => lv_ineg C.1 C.2.1 dg (kk0 ls hl)) kk
theorem xr_i2l (X : xC Γ cc Ts own ret rm D ad N) {x : Int32} (dg : decode cc pc = .ok (.i2l, 1)) (kk : xM Γ D ad N Sh Q k n ex σ (pc + 1) lv (.long x.toInt64 :: st)) : xM Γ D ad N Sh Q k n ex σ pc lv (.int x :: st) :=
  x_lift X (fun p l e R s m args below meth c nL A Q1 H locs ls C hl kk0 => lv_i2l C.1 C.2.1 dg rfl (kk0 ls hl)) kk
theorem xr_l2i (X : xC Γ cc Ts own ret rm D ad N) {x : Int64} (dg : decode cc pc = .ok (.l2i, 1)) (kk : xM Γ D ad N Sh Q k n ex σ (pc + 1) lv (.int x.toInt32 :: st)) : xM Γ D ad N Sh Q k n ex σ pc lv (.long x :: st) :=
  x_lift X (fun p l e R s m args below meth c nL A Q1 H locs ls C hl kk0 => lv_l2i C.1 C.2.1 dg rfl (kk0 ls hl)) kk
theorem xr_i2c (X : xC Γ cc Ts own ret rm D ad N) {x : Int32} (dg : decode cc pc = .ok (.i2c, 1)) (kk : xM Γ D ad N Sh Q k n ex σ (pc + 1) lv (.int (x.toUInt32 % 65536).toInt32 :: st)) : xM Γ D ad N Sh Q k n ex σ pc lv (.int x :: st) :=
  x_lift X (fun p l e R s m args below meth c nL A Q1 H locs ls C hl kk0 => lv_i2c C.1 C.2.1 dg rfl (kk0 ls hl)) kk
theorem xr_lushr (X : xC Γ cc Ts own ret rm D ad N) {x : Int64} {y : Int32} (dg : decode cc pc = .ok (.lushr, 1)) (kk : xM Γ D ad N Sh Q k n ex σ (pc + 1) lv (.long ((x.toUInt64 >>> (y.toInt64.toUInt64 &&& Int64.toUInt64 63)).toInt64) :: st)) : xM Γ D ad N Sh Q k n ex σ pc lv (.int y :: .long x :: st) :=
  x_lift X (fun p l e R s m args below meth c nL A Q1 H locs ls C hl kk0 => lv_lushr C.1 C.2.1 dg rfl (kk0 ls hl)) kk
theorem xr_lshl (X : xC Γ cc Ts own ret rm D ad N) {x : Int64} {y : Int32} (dg : decode cc pc = .ok (.lshl, 1)) (kk : xM Γ D ad N Sh Q k n ex σ (pc + 1) lv (.long (x <<< (y.toInt64 &&& 63)) :: st)) : xM Γ D ad N Sh Q k n ex σ pc lv (.int y :: .long x :: st) :=
  x_lift X (fun p l e R s m args below meth c nL A Q1 H locs ls C hl kk0 => lv_lshl C.1 C.2.1 dg rfl (kk0 ls hl)) kk
theorem xr_lcmp (X : xC Γ cc Ts own ret rm D ad N) {x y : Int64} (dg : decode cc pc = .ok (.lcmp, 1)) (kk : xM Γ D ad N Sh Q k n ex σ (pc + 1) lv (.int (lg_cmp x y) :: st)) : xM Γ D ad N Sh Q k n ex σ pc lv (.long y :: .long x :: st) :=
  x_lift X (fun p l e R s m args below meth c nL A Q1 H locs ls C hl kk0 => W.lcmp C.1 C.2.1 dg (kk0 ls hl)) kk
theorem xr_dup (X : xC Γ cc Ts own ret rm D ad N) {v : Value} (hc : v.category = 1) (dg : decode cc pc = .ok (.dup, 1)) (kk : xM Γ D ad N Sh Q k n ex σ (pc + 1) lv (v :: v :: st)) : xM Γ D ad N Sh Q k n ex σ pc lv (v :: st) :=
  x_lift X (fun p l e R s m args below meth c nL A Q1 H locs ls C hl kk0 => lv_dup C.1 C.2.1 dg hc (kk0 ls hl)) kk
theorem xr_dup2 (X : xC Γ cc Ts own ret rm D ad N) {v w : Value} (hc : v.category = 1) (hd : w.category = 1) (dg : decode cc pc = .ok (.dup2, 1)) (kk : xM Γ D ad N Sh Q k n ex σ (pc + 1) lv (v :: w :: v :: w :: st)) : xM Γ D ad N Sh Q k n ex σ pc lv (v :: w :: st) :=
  x_lift X (fun p l e R s m args below meth c nL A Q1 H locs ls C hl kk0 => lv_dup2_11 C.1 C.2.1 dg hc hd (kk0 ls hl)) kk
theorem xr_pop (X : xC Γ cc Ts own ret rm D ad N) {v : Value} (hc : v.category = 1) (dg : decode cc pc = .ok (.pop, 1)) (kk : xM Γ D ad N Sh Q k n ex σ (pc + 1) lv st) : xM Γ D ad N Sh Q k n ex σ pc lv (v :: st) :=
  x_lift X (fun p l e R s m args below meth c nL A Q1 H locs ls C hl kk0 => lv_pop C.1 C.2.1 dg hc (kk0 ls hl)) kk
theorem xr_goto (X : xC Γ cc Ts own ret rm D ad N) {off : Int} (tgt : Nat) (ht : (pc : Int) + off = (tgt : Int)) (dg : decode cc pc = .ok (.goto off, 3)) (kk : xM Γ D ad N Sh Q k n ex σ tgt lv st) : xM Γ D ad N Sh Q k n ex σ pc lv st :=
  x_lift X (fun p l e R s m args below meth c nL A Q1 H locs ls C hl kk0 => lv_goto C.1 C.2.1 dg ht (kk0 ls hl)) kk
theorem xr_if_eq (X : xC Γ cc Ts own ret rm D ad N) {x : Int32} {off : Int} (tgt : Nat) {a b : Option R'} (ht : (pc : Int) + off = (tgt : Int)) (dg : decode cc pc = .ok (.ifCond .eq off, 3)) (kt : x = 0 → xM Γ D ad N Sh Q k n a σ tgt lv st) (kf : ¬ (x = 0) → xM Γ D ad N Sh Q k n b σ (pc + 3) lv st) : xM Γ D ad N Sh Q k n (if x = 0 then a else b) σ pc lv (.int x :: st) :=
  x_br X (fun p l e R s m args below meth c nL A Q1 H locs ls C hl => fun ka kb => lv_if_eq C.1 C.2.1 dg ht ka kb) kt kf
theorem xr_if_ne (X : xC Γ cc Ts own ret rm D ad N) {x : Int32} {off : Int} (tgt : Nat) {a b : Option R'} (ht : (pc : Int) + off = (tgt : Int)) (dg : decode cc pc = .ok (.ifCond .ne off, 3)) (kt : ¬ x = 0 → xM Γ D ad N Sh Q k n a σ tgt lv st) (kf : ¬ (¬ x = 0) → xM Γ D ad N Sh Q k n b σ (pc + 3) lv st) : xM Γ D ad N Sh Q k n (if ¬ x = 0 then a else b) σ pc lv (.int x :: st) :=
  x_br X (fun p l e R s m args below meth c nL A Q1 H locs ls C hl => fun ka kb => lv_if_ne C.1 C.2.1 dg ht ka (fun hx => kb (fun h => h hx))) kt kf
theorem xr_if_lt (X : xC Γ cc Ts own ret rm D ad N) {x : Int32} {off : Int} (tgt : Nat) {a b : Option R'} (ht : (pc : Int) + off = (tgt : Int)) (dg : decode cc pc = .ok (.ifCond .lt off, 3)) (kt : x < 0 → xM Γ D ad N Sh Q k n a σ tgt lv st) (kf : ¬ (x < 0) → xM Γ D ad N Sh Q k n b σ (pc + 3) lv st) : xM Γ D ad N Sh Q k n (if x < 0 then a else b) σ pc lv (.int x :: st) :=
  x_br X (fun p l e R s m args below meth c nL A Q1 H locs ls C hl => fun ka kb => lv_if_lt C.1 C.2.1 dg ht ka kb) kt kf
theorem xr_if_le (X : xC Γ cc Ts own ret rm D ad N) {x : Int32} {off : Int} (tgt : Nat) {a b : Option R'} (ht : (pc : Int) + off = (tgt : Int)) (dg : decode cc pc = .ok (.ifCond .le off, 3)) (kt : x ≤ 0 → xM Γ D ad N Sh Q k n a σ tgt lv st) (kf : ¬ (x ≤ 0) → xM Γ D ad N Sh Q k n b σ (pc + 3) lv st) : xM Γ D ad N Sh Q k n (if x ≤ 0 then a else b) σ pc lv (.int x :: st) :=
  x_br X (fun p l e R s m args below meth c nL A Q1 H locs ls C hl => fun ka kb => lv_if_le C.1 C.2.1 dg ht ka kb) kt kf
theorem xr_if_gt (X : xC Γ cc Ts own ret rm D ad N) {x : Int32} {off : Int} (tgt : Nat) {a b : Option R'} (ht : (pc : Int) + off = (tgt : Int)) (dg : decode cc pc = .ok (.ifCond .gt off, 3)) (kt : 0 < x → xM Γ D ad N Sh Q k n a σ tgt lv st) (kf : ¬ (0 < x) → xM Γ D ad N Sh Q k n b σ (pc + 3) lv st) : xM Γ D ad N Sh Q k n (if 0 < x then a else b) σ pc lv (.int x :: st) :=
  x_br X (fun p l e R s m args below meth c nL A Q1 H locs ls C hl => fun ka kb => lv_if_gt C.1 C.2.1 dg ht ka kb) kt kf
theorem xr_if_ge (X : xC Γ cc Ts own ret rm D ad N) {x : Int32} {off : Int} (tgt : Nat) {a b : Option R'} (ht : (pc : Int) + off = (tgt : Int)) (dg : decode cc pc = .ok (.ifCond .ge off, 3)) (kt : 0 ≤ x → xM Γ D ad N Sh Q k n a σ tgt lv st) (kf : ¬ (0 ≤ x) → xM Γ D ad N Sh Q k n b σ (pc + 3) lv st) : xM Γ D ad N Sh Q k n (if 0 ≤ x then a else b) σ pc lv (.int x :: st) :=
  x_br X (fun p l e R s m args below meth c nL A Q1 H locs ls C hl => fun ka kb => lv_if_ge C.1 C.2.1 dg ht ka kb) kt kf
theorem xr_icmp_eq (X : xC Γ cc Ts own ret rm D ad N) {x y : Int32} {off : Int} (tgt : Nat) {a b : Option R'} (ht : (pc : Int) + off = (tgt : Int)) (dg : decode cc pc = .ok (.if_icmp .eq off, 3)) (kt : x = y → xM Γ D ad N Sh Q k n a σ tgt lv st) (kf : ¬ (x = y) → xM Γ D ad N Sh Q k n b σ (pc + 3) lv st) : xM Γ D ad N Sh Q k n (if x = y then a else b) σ pc lv (.int y :: .int x :: st) :=
  x_br X (fun p l e R s m args below meth c nL A Q1 H locs ls C hl => fun ka kb => lv_icmp_eq C.1 C.2.1 dg ht ka kb) kt kf
theorem xr_icmp_ne (X : xC Γ cc Ts own ret rm D ad N) {x y : Int32} {off : Int} (tgt : Nat) {a b : Option R'} (ht : (pc : Int) + off = (tgt : Int)) (dg : decode cc pc = .ok (.if_icmp .ne off, 3)) (kt : ¬ x = y → xM Γ D ad N Sh Q k n a σ tgt lv st) (kf : ¬ (¬ x = y) → xM Γ D ad N Sh Q k n b σ (pc + 3) lv st) : xM Γ D ad N Sh Q k n (if ¬ x = y then a else b) σ pc lv (.int y :: .int x :: st) :=
  x_br X (fun p l e R s m args below meth c nL A Q1 H locs ls C hl => fun ka kb => lv_icmp_ne C.1 C.2.1 dg ht ka (fun hx => kb (fun h => h hx))) kt kf
theorem xr_icmp_lt (X : xC Γ cc Ts own ret rm D ad N) {x y : Int32} {off : Int} (tgt : Nat) {a b : Option R'} (ht : (pc : Int) + off = (tgt : Int)) (dg : decode cc pc = .ok (.if_icmp .lt off, 3)) (kt : x < y → xM Γ D ad N Sh Q k n a σ tgt lv st) (kf : ¬ (x < y) → xM Γ D ad N Sh Q k n b σ (pc + 3) lv st) : xM Γ D ad N Sh Q k n (if x < y then a else b) σ pc lv (.int y :: .int x :: st) :=
  x_br X (fun p l e R s m args below meth c nL A Q1 H locs ls C hl => fun ka kb => lv_icmp_lt C.1 C.2.1 dg ht ka kb) kt kf
theorem xr_icmp_le (X : xC Γ cc Ts own ret rm D ad N) {x y : Int32} {off : Int} (tgt : Nat) {a b : Option R'} (ht : (pc : Int) + off = (tgt : Int)) (dg : decode cc pc = .ok (.if_icmp .le off, 3)) (kt : x ≤ y → xM Γ D ad N Sh Q k n a σ tgt lv st) (kf : ¬ (x ≤ y) → xM Γ D ad N Sh Q k n b σ (pc + 3) lv st) : xM Γ D ad N Sh Q k n (if x ≤ y then a else b) σ pc lv (.int y :: .int x :: st) :=
  x_br X (fun p l e R s m args below meth c nL A Q1 H locs ls C hl => fun ka kb => lv_icmp_le C.1 C.2.1 dg ht ka kb) kt kf
theorem xr_icmp_gt (X : xC Γ cc Ts own ret rm D ad N) {x y : Int32} {off : Int} (tgt : Nat) {a b : Option R'} (ht : (pc : Int) + off = (tgt : Int)) (dg : decode cc pc = .ok (.if_icmp .gt off, 3)) (kt : y < x → xM Γ D ad N Sh Q k n a σ tgt lv st) (kf : ¬ (y < x) → xM Γ D ad N Sh Q k n b σ (pc + 3) lv st) : xM Γ D ad N Sh Q k n (if y < x then a else b) σ pc lv (.int y :: .int x :: st) :=
  x_br X (fun p l e R s m args below meth c nL A Q1 H locs ls C hl => fun ka kb => lv_icmp_gt C.1 C.2.1 dg ht ka kb) kt kf
theorem xr_icmp_ge (X : xC Γ cc Ts own ret rm D ad N) {x y : Int32} {off : Int} (tgt : Nat) {a b : Option R'} (ht : (pc : Int) + off = (tgt : Int)) (dg : decode cc pc = .ok (.if_icmp .ge off, 3)) (kt : y ≤ x → xM Γ D ad N Sh Q k n a σ tgt lv st) (kf : ¬ (y ≤ x) → xM Γ D ad N Sh Q k n b σ (pc + 3) lv st) : xM Γ D ad N Sh Q k n (if y ≤ x then a else b) σ pc lv (.int y :: .int x :: st) :=
  x_br X (fun p l e R s m args below meth c nL A Q1 H locs ls C hl => fun ka kb => lv_icmp_ge C.1 C.2.1 dg ht ka kb) kt kf
theorem xr_tin (X : xC Γ cc Ts own ret rm D ad N) {dflt lo hi : Int} {offs : Array Int} {len : Nat} {x : Int32} {off : Int} (tgt : Nat) (dg : decode cc pc = .ok (.tableswitch dflt lo hi offs, len)) (h1 : ¬ x.toInt < lo) (h2 : ¬ hi < x.toInt) (ho : offs[(x.toInt - lo).toNat]? = some off) (ht : (pc : Int) + off = (tgt : Int)) (kk : xM Γ D ad N Sh Q k n ex σ tgt lv st) : xM Γ D ad N Sh Q k n ex σ pc lv (.int x :: st) :=
  x_lift X (fun p l e R s m args below meth c nL A Q1 H locs ls C hl kk0 => lv_tableIn C.1 C.2.1 dg h1 h2 ho ht (kk0 ls hl)) kk
theorem xr_tout (X : xC Γ cc Ts own ret rm D ad N) {dflt lo hi : Int} {offs : Array Int} {len : Nat} {x : Int32} (tgt : Nat) (dg : decode cc pc = .ok (.tableswitch dflt lo hi offs, len)) (h : x.toInt < lo ∨ hi < x.toInt) (ht : (pc : Int) + dflt = (tgt : Int)) (kk : xM Γ D ad N Sh Q k n ex σ tgt lv st) : xM Γ D ad N Sh Q k n ex σ pc lv (.int x :: st) :=
  x_lift X (fun p l e R s m args below meth c nL A Q1 H locs ls C hl kk0 => lv_tableOut C.1 C.2.1 dg h ht (kk0 ls hl)) kk
theorem xr_look (X : xC Γ cc Ts own ret rm D ad N) {dflt : Int} {ps : Array (Int × Int)} {len : Nat} {x : Int32} {off : Int} (tgt : Nat) (dg : decode cc pc = .ok (.lookupswitch dflt ps, len)) (hp : (ps.toList.zip (ps.toList.drop 1)).all (fun (a, next) => a.1 < next.1) = true) (ho : Op.lookupswitch.offset ps.toList dflt x.toInt = off) (ht : (pc : Int) + off = (tgt : Int)) (kk : xM Γ D ad N Sh Q k n ex σ tgt lv st) : xM Γ D ad N Sh Q k n ex σ pc lv (.int x :: st) :=
  x_lift X (fun p l e R s m args below meth c nL A Q1 H locs ls C hl kk0 => lv_lookup C.1 C.2.1 dg hp ho ht (kk0 ls hl)) kk
/-- a word that this method's list holds -/
theorem xr_get (X : xC Γ cc Ts own ret rm D ad N) {ref C : String} {T : u_T} {NF ci index : Nat} {fs : List Value} {v : Value} (o : Nat) (sh : (Nat → Int32) → va_E) (ho : o < N) (hs : Sh o = sh) (he : sh (σ o) = .inr (ci, fs)) (hc : vwCl[ci]? = some (C, T, NF)) (hin : ∀ w ∈ u_ws C T NF, w ∈ Ts) (f : Nat) (hf : f < NF) (hw : Cond.fieldLink own index ref (T f).2.1 (T f).2.2.1 ∈ Ts) (hr : (T f).1 = ref) (hv : fs[f]? = some v) (dg : decode cc pc = .ok (.getfield index, 3)) (kk : xM Γ D ad N Sh Q k n ex σ (pc + 3) lv (v :: st)) : xM Γ D ad N Sh Q k n ex σ pc lv (.ref (ad o) :: st) := by
  obtain ⟨p, l, e, R, s, m, args, below, meth, c, nL, A⟩ := Γ
  exact fun q hq H locs ls hP hS hl => va_get (D := D) X.1 X.2.1 X.2.2.2.1 hin X.2.2.1 X.2.2.2.2.1 hP o (by rw [xW_get ho, hs, he]) hc f hf (X.2.2.2.1 _ hw) (fun x hx => by rw [← hr]; exact hx) hv dg (kk q hq H locs ls hP hS hl)
theorem xr_getN (X : xC Γ cc Ts own ret rm D ad N) {ref C host : String} {T : u_T} {NF ci index : Nat} {fs : List Value} {v : Value} (o : Nat) (sh : (Nat → Int32) → va_E) (ho : o < N) (hs : Sh o = sh) (he : sh (σ o) = .inr (ci, fs)) (hc : vwCl[ci]? = some (C, T, NF)) (hin : ∀ w ∈ u_ws C T NF, w ∈ Ts) (f : Nat) (hf : f < NF) (j : Nat) (hw : xNw[j]? = some (Cond.fieldLinkNest own index ref (T f).2.1 (T f).2.2.1 host)) (hr : (T f).1 = ref) (hv : fs[f]? = some v) (dg : decode cc pc = .ok (.getfield index, 3)) (kk : xM Γ D ad N Sh Q k n ex σ (pc + 3) lv (v :: st)) : xM Γ D ad N Sh Q k n ex σ pc lv (.ref (ad o) :: st) := by
  obtain ⟨p, l, e, R, s, m, args, below, meth, c, nL, A⟩ := Γ
  exact fun q hq H locs ls hP hS hl => va_getN (D := D) X.1 X.2.1 X.2.2.2.1 hin X.2.2.1 X.2.2.2.2.1 hP o (by rw [xW_get ho, hs, he]) hc f hf (va_Nw.use rfl (X.2.2.2.2.2.2.2.2.2.2.2.1 _ (List.mem_of_getElem? hw))) (fun x hx => by rw [← hr]; exact hx) hv dg (kk q hq H locs ls hP hS hl)
theorem xr_put (X : xC Γ cc Ts own ret rm D ad N) {ref C : String} {T : u_T} {ty0 : Nat → FieldType} {NF ci index : Nat} {fs : List Value} {v : Int32} {ty : FieldType} {K : xS → Option R'} (o : Nat) (sh : (Nat → Int32) → va_E) (ho : o < N) (hs : Sh o = sh) (f : Nat) (he : sh (σ o) = .inr (ci, fs)) (he2 : ∀ r : Nat → Int32, sh (upd r f v) = .inr (ci, (match sh r with | .inr x => x.2 | _ => []).set f (.int v))) (hc : vwCl[ci]? = some (C, T, NF)) (hin : ∀ w ∈ u_ws C T NF, w ∈ Ts) (hty : ∀ k, k < NF → parseFieldDescriptor (T k).2.2.1 = some (ty0 k)) (hnm : ∀ a, a < NF → ∀ b, b < NF → a ≠ b → (T a).2.1 ≠ (T b).2.1) (hf : f < NF) (hw : Cond.fieldLink own index ref (T f).2.1 (T f).2.2.1 ∈ Ts) (hr : (T f).1 = ref) (hfin : (T f).2.2.2 = false) (hd : parseFieldDescriptor (T f).2.2.1 = some ty) (hn : narrow ty (.int v) = .int v) (hfit : fits ty (.int v) = true) (hlen : f < fs.length) (dg : decode cc pc = .ok (.putfield index, 3)) (kk : ∀ σ1, xM Γ D ad N Sh Q k n (K σ1) σ1 (pc + 3) lv st) : xM Γ D ad N Sh Q k n (xlet (xu σ o f v) K) σ pc lv (.int v :: .ref (ad o) :: st) := by
  obtain ⟨p, l, e, R, s, m, args, below, meth, c, nL, A⟩ := Γ
  intro q hq H locs ls hP hS hl
  refine va_put (D := D) X.1 X.2.1 X.2.2.2.1 hin ty0 hty hnm X.2.2.1 X.2.2.2.2.1 hP (xD X.2.2.2.2.2.2.1 X.2.2.2.2.2.2.2.1) hS o (by rw [xW_get ho, hs, he]) hc f hf (X.2.2.2.1 _ hw) (fun x hx => by rw [← hr]; exact hx) hfin hd hn hfit hlen dg (fun H1 locs1 hP1 hD1 hS1 => kk _ q hq H1 locs1 ls ?_ hS1 hl)
  rwa [xW_set (k := f) (v := v) ho (by rw [hs, he2, he])] at hP1
theorem xr_putN (X : xC Γ cc Ts own ret rm D ad N) {ref C host : String} {T : u_T} {ty0 : Nat → FieldType} {NF ci index : Nat} {fs : List Value} {v : Int32} {ty : FieldType} {K : xS → Option R'} (o : Nat) (sh : (Nat → Int32) → va_E) (ho : o < N) (hs : Sh o = sh) (f : Nat) (he : sh (σ o) = .inr (ci, fs)) (he2 : ∀ r : Nat → Int32, sh (upd r f v) = .inr (ci, (match sh r with | .inr x => x.2 | _ => []).set f (.int v))) (hc : vwCl[ci]? = some (C, T, NF)) (hin : ∀ w ∈ u_ws C T NF, w ∈ Ts) (hty : ∀ k, k < NF → parseFieldDescriptor (T k).2.2.1 = some (ty0 k)) (hnm : ∀ a, a < NF → ∀ b, b < NF → a ≠ b → (T a).2.1 ≠ (T b).2.1) (hf : f < NF) (j : Nat) (hw : xNw[j]? = some (Cond.fieldLinkNest own index ref (T f).2.1 (T f).2.2.1 host)) (hr : (T f).1 = ref) (hfin : (T f).2.2.2 = false) (hd : parseFieldDescriptor (T f).2.2.1 = some ty) (hn : narrow ty (.int v) = .int v) (hfit : fits ty (.int v) = true) (hlen : f < fs.length) (dg : decode cc pc = .ok (.putfield index, 3)) (kk : ∀ σ1, xM Γ D ad N Sh Q k n (K σ1) σ1 (pc + 3) lv st) : xM Γ D ad N Sh Q k n (xlet (xu σ o f v) K) σ pc lv (.int v :: .ref (ad o) :: st) := by
  obtain ⟨p, l, e, R, s, m, args, below, meth, c, nL, A⟩ := Γ
  intro q hq H locs ls hP hS hl
  refine va_putN (D := D) X.1 X.2.1 X.2.2.2.1 hin ty0 hty hnm X.2.2.1 X.2.2.2.2.1 hP (xD X.2.2.2.2.2.2.1 X.2.2.2.2.2.2.2.1) hS o (by rw [xW_get ho, hs, he]) hc f hf (va_Nw.use rfl (X.2.2.2.2.2.2.2.2.2.2.2.1 _ (List.mem_of_getElem? hw))) (fun x hx => by rw [← hr]; exact hx) hfin hd hn hfit hlen dg (fun H1 locs1 hP1 hD1 hS1 => kk _ q hq H1 locs1 ls ?_ hS1 hl)
  rwa [xW_set (k := f) (v := v) ho (by rw [hs, he2, he])] at hP1
theorem xr_iald (X : xC Γ cc Ts own ret rm D ad N) {i : Int32} {K : Int32 → Option R'} (o n0 : Nat) (ho : o < N) (hs : Sh o = (fun r => .inl (D.1 100, n0, .inl r))) (dg : decode cc pc = .ok (.iaload, 1)) (kk : ∀ z, xM Γ D ad N Sh Q k n (K z) σ (pc + 1) lv (.int z :: st)) : xM Γ D ad N Sh Q k n (if xin i n0 = true then xlet (σ o i.toNatClampNeg) K else none) σ pc lv (.int i :: .ref (ad o) :: st) := by
  refine x_if (fun hi0 => ?_) (fun _ => xM_none)
  have hi := xin_vp hi0
  obtain ⟨p, l, e, R, s, m, args, below, meth, c, nL, A⟩ := Γ
  exact fun q hq H locs ls hP hS hl => va_iald (D := D) X.1 X.2.1 X.2.2.2.2.1 hP o 0 (by rw [xW_get ho, hs]) rfl hi dg (kk _ q hq H locs ls hP hS hl)
theorem xr_cald (X : xC Γ cc Ts own ret rm D ad N) {i : Int32} {K : Int32 → Option R'} (o n0 : Nat) (ho : o < N) (hs : Sh o = (fun r => .inl (D.1 101, n0, .inl r))) (dg : decode cc pc = .ok (.caload, 1)) (kk : ∀ z, xM Γ D ad N Sh Q k n (K z) σ (pc + 1) lv (.int z :: st)) : xM Γ D ad N Sh Q k n (if xin i n0 = true then xlet (σ o i.toNatClampNeg) K else none) σ pc lv (.int i :: .ref (ad o) :: st) := by
  refine x_if (fun hi0 => ?_) (fun _ => xM_none)
  have hi := xin_vp hi0
  obtain ⟨p, l, e, R, s, m, args, below, meth, c, nL, A⟩ := Γ
  exact fun q hq H locs ls hP hS hl => va_cald (D := D) X.1 X.2.1 X.2.2.2.2.1 hP o 1 (by rw [xW_get ho, hs]) rfl hi dg (kk _ q hq H locs ls hP hS hl)
theorem xr_zald (X : xC Γ cc Ts own ret rm D ad N) {i : Int32} {K : Int32 → Option R'} (o n0 : Nat) (ho : o < N) (hs : Sh o = (fun r => .inl (D.1 102, n0, .inl r))) (dg : decode cc pc = .ok (.baload, 1)) (kk : ∀ z, xM Γ D ad N Sh Q k n (K z) σ (pc + 1) lv (.int z :: st)) : xM Γ D ad N Sh Q k n (if xin i n0 = true then xlet (σ o i.toNatClampNeg) K else none) σ pc lv (.int i :: .ref (ad o) :: st) := by
  refine x_if (fun hi0 => ?_) (fun _ => xM_none)
  have hi := xin_vp hi0
  obtain ⟨p, l, e, R, s, m, args, below, meth, c, nL, A⟩ := Γ
  exact fun q hq H locs ls hP hS hl => va_zald (D := D) X.1 X.2.1 X.2.2.2.2.1 hP o 2 (by rw [xW_get ho, hs]) rfl hi dg (kk _ q hq H locs ls hP hS hl)
theorem xr_iast (X : xC Γ cc Ts own ret rm D ad N) {i v : Int32} {K : xS → Option R'} (o n0 : Nat) (ho : o < N) (hs : Sh o = (fun r => .inl (D.1 100, n0, .inl r))) (dg : decode cc pc = .ok (.iastore, 1)) (kk : ∀ σ1, xM Γ D ad N Sh Q k n (K σ1) σ1 (pc + 1) lv st) : xM Γ D ad N Sh Q k n (if xin i n0 = true then xlet (xu σ o i.toNatClampNeg v) K else none) σ pc lv (.int v :: .int i :: .ref (ad o) :: st) := by
  refine x_if (fun hi0 => ?_) (fun _ => xM_none)
  have hi := xin_vp hi0
  obtain ⟨p, l, e, R, s, m, args, below, meth, c, nL, A⟩ := Γ
  intro q hq H locs ls hP hS hl
  refine va_iast (D := D) X.1 X.2.1 X.2.2.2.2.1 hP (xD X.2.2.2.2.2.2.1 X.2.2.2.2.2.2.2.1) hS o 0 (by rw [xW_get ho, hs]) rfl hi dg (fun H1 locs1 hP1 hD1 hS1 => kk _ q hq H1 locs1 ls ?_ hS1 hl)
  rwa [xW_set (k := i.toNatClampNeg) (v := v) ho (by rw [hs])] at hP1
theorem xr_cast (X : xC Γ cc Ts own ret rm D ad N) {i v : Int32} {K : xS → Option R'} (o n0 : Nat) (ho : o < N) (hs : Sh o = (fun r => .inl (D.1 101, n0, .inl r))) (dg : decode cc pc = .ok (.castore, 1)) (kk : ∀ σ1, xM Γ D ad N Sh Q k n (K σ1) σ1 (pc + 1) lv st) : xM Γ D ad N Sh Q k n (if xin i n0 = true then xlet (xu σ o i.toNatClampNeg (vp_nar .char v)) K else none) σ pc lv (.int v :: .int i :: .ref (ad o) :: st) := by
  refine x_if (fun hi0 => ?_) (fun _ => xM_none)
  have hi := xin_vp hi0
  obtain ⟨p, l, e, R, s, m, args, below, meth, c, nL, A⟩ := Γ
  intro q hq H locs ls hP hS hl
  refine va_cast (D := D) X.1 X.2.1 X.2.2.2.2.1 hP (xD X.2.2.2.2.2.2.1 X.2.2.2.2.2.2.2.1) hS o 1 (by rw [xW_get ho, hs]) rfl hi dg (fun H1 locs1 hP1 hD1 hS1 => kk _ q hq H1 locs1 ls ?_ hS1 hl)
  rwa [xW_set (k := i.toNatClampNeg) (v := (vp_nar .char v)) ho (by rw [hs])] at hP1
theorem xr_zast (X : xC Γ cc Ts own ret rm D ad N) {i v : Int32} {K : xS → Option R'} (o n0 : Nat) (ho : o < N) (hs : Sh o = (fun r => .inl (D.1 102, n0, .inl r))) (dg : decode cc pc = .ok (.bastore, 1)) (kk : ∀ σ1, xM Γ D ad N Sh Q k n (K σ1) σ1 (pc + 1) lv st) : xM Γ D ad N Sh Q k n (if xin i n0 = true then xlet (xu σ o i.toNatClampNeg (vp_nar .boolean v)) K else none) σ pc lv (.int v :: .int i :: .ref (ad o) :: st) := by
  refine x_if (fun hi0 => ?_) (fun _ => xM_none)
  have hi := xin_vp hi0
  obtain ⟨p, l, e, R, s, m, args, below, meth, c, nL, A⟩ := Γ
  intro q hq H locs ls hP hS hl
  refine va_zast (D := D) X.1 X.2.1 X.2.2.2.2.1 hP (xD X.2.2.2.2.2.2.1 X.2.2.2.2.2.2.2.1) hS o 2 (by rw [xW_get ho, hs]) rfl hi dg (fun H1 locs1 hP1 hD1 hS1 => kk _ q hq H1 locs1 ls ?_ hS1 hl)
  rwa [xW_set (k := i.toNatClampNeg) (v := (vp_nar .boolean v)) ho (by rw [hs])] at hP1
theorem xr_aldPair (X : xC Γ cc Ts own ret rm D ad N) {i : Int32} {f : Nat → Option Nat} (o n0 : Nat) (g : Nat → Nat) (ho : o < N) (hs : Sh o = (fun _ => .inl (D.1 104, n0, .inr (.inr (.inr (.inr f)))))) (hf : ∀ j, j < n0 → f j = some (ad (g j))) (dg : decode cc pc = .ok (.aaload, 1)) (kk : xin i n0 = true → xM Γ D ad N Sh Q k n ex σ (pc + 1) lv (.ref (ad (g i.toNatClampNeg)) :: st)) : xM Γ D ad N Sh Q k n (if xin i n0 = true then ex else none) σ pc lv (.int i :: .ref (ad o) :: st) := by
  refine x_if (fun hi0 => ?_) (fun _ => xM_none)
  have hi := xin_vp hi0
  have hlt : i.toNatClampNeg < n0 := Nat.not_le.mp fun q => hi (Or.inr q)
  obtain ⟨p, l, e, R, s, m, args, below, meth, c, nL, A⟩ := Γ
  refine fun q hq H locs ls hP hS hl => va_aldq (D := D) X.1 X.2.1 X.2.2.2.2.1 hP o 4 (f := f) (by rw [xW_get ho, hs]) rfl hi dg ?_
  rw [hf _ hlt]
  exact kk hi0 q hq H locs ls hP hS hl
theorem xr_aldPost (X : xC Γ cc Ts own ret rm D ad N) {i : Int32} {f : Nat → Option Nat} (o n0 : Nat) (g : Nat → Nat) (ho : o < N) (hs : Sh o = (fun _ => .inl (D.1 105, n0, .inr (.inr (.inr (.inr f)))))) (hf : ∀ j, j < n0 → f j = some (ad (g j))) (dg : decode cc pc = .ok (.aaload, 1)) (kk : xin i n0 = true → xM Γ D ad N Sh Q k n ex σ (pc + 1) lv (.ref (ad (g i.toNatClampNeg)) :: st)) : xM Γ D ad N Sh Q k n (if xin i n0 = true then ex else none) σ pc lv (.int i :: .ref (ad o) :: st) := by
  refine x_if (fun hi0 => ?_) (fun _ => xM_none)
  have hi := xin_vp hi0
  have hlt : i.toNatClampNeg < n0 := Nat.not_le.mp fun q => hi (Or.inr q)
  obtain ⟨p, l, e, R, s, m, args, below, meth, c, nL, A⟩ := Γ
  refine fun q hq H locs ls hP hS hl => va_aldq (D := D) X.1 X.2.1 X.2.2.2.2.1 hP o 5 (f := f) (by rw [xW_get ho, hs]) rfl hi dg ?_
  rw [hf _ hlt]
  exact kk hi0 q hq H locs ls hP hS hl
theorem xr_alenI (X : xC Γ cc Ts own ret rm D ad N) (o n0 : Nat) (ho : o < N) (hs : Sh o = (fun r => .inl (D.1 100, n0, .inl r))) (dg : decode cc pc = .ok (.arraylength, 1)) (kk : xM Γ D ad N Sh Q k n ex σ (pc + 1) lv (.int (nI n0) :: st)) : xM Γ D ad N Sh Q k n ex σ pc lv (.ref (ad o) :: st) := by
  obtain ⟨p, l, e, R, s, m, args, below, meth, c, nL, A⟩ := Γ
  exact fun q hq H locs ls hP hS hl => va_alen (D := D) X.1 X.2.1 X.2.2.2.2.1 hP o 0 (x := (n0, .inl (σ o))) (by rw [xW_get ho, hs]) rfl rfl dg (kk q hq H locs ls hP hS hl)
theorem xr_alenC (X : xC Γ cc Ts own ret rm D ad N) (o n0 : Nat) (ho : o < N) (hs : Sh o = (fun r => .inl (D.1 101, n0, .inl r))) (dg : decode cc pc = .ok (.arraylength, 1)) (kk : xM Γ D ad N Sh Q k n ex σ (pc + 1) lv (.int (nI n0) :: st)) : xM Γ D ad N Sh Q k n ex σ pc lv (.ref (ad o) :: st) := by
  obtain ⟨p, l, e, R, s, m, args, below, meth, c, nL, A⟩ := Γ
  exact fun q hq H locs ls hP hS hl => va_alen (D := D) X.1 X.2.1 X.2.2.2.2.1 hP o 1 (x := (n0, .inl (σ o))) (by rw [xW_get ho, hs]) rfl rfl dg (kk q hq H locs ls hP hS hl)
theorem xr_alenO (X : xC Γ cc Ts own ret rm D ad N) {f : Nat → Option Nat} (o n0 : Nat) (ho : o < N) (hs : Sh o = (fun _ => .inl (D.1 105, n0, .inr (.inr (.inr (.inr f)))))) (dg : decode cc pc = .ok (.arraylength, 1)) (kk : xM Γ D ad N Sh Q k n ex σ (pc + 1) lv (.int (nI n0) :: st)) : xM Γ D ad N Sh Q k n ex σ pc lv (.ref (ad o) :: st) := by
  obtain ⟨p, l, e, R, s, m, args, below, meth, c, nL, A⟩ := Γ
  exact fun q hq H locs ls hP hS hl => va_alen (D := D) X.1 X.2.1 X.2.2.2.2.1 hP o 5 (x := (n0, .inr (.inr (.inr (.inr f))))) (by rw [xW_get ho, hs]) rfl rfl dg (kk q hq H locs ls hP hS hl)
theorem xr_max (X : xC Γ cc Ts own ret rm D ad N) {x y : Int32} {index : Nat} (h1 : Cond.methodLink own index Lib.Math.max.name ∈ Ts) (h2 : Cond.static Lib.Math.max.name ∈ Ts) (h3 : Cond.initialized "java/lang/Math" ∈ Ts) (h4 : Cond.code Lib.Math.max.name Lib.Math.max.code 2 (some .int) ∈ Ts) (hf : 1 ≤ rm.frames) (hlo : (st.map fun v => v.category).sum + 13 ≤ rm.locals) (hc : k ≤ rm.cells) (hs : n ≤ rm.slots) (dg : decode cc pc = .ok (.invokestatic index, 3)) (kk : xM Γ D ad N Sh Q k n ex σ (pc + 3) lv (.int (if x < y then y else x) :: st)) : xM Γ D ad N Sh Q k n ex σ pc lv (.int y :: .int x :: st) := by
  obtain ⟨p, l, e, R, s, m, args, below, meth, c, nL, A⟩ := Γ
  have hR : R = rm := X.2.2.2.2.2.2.2.2.2.2.2.2.2
  subst hR
  exact fun q hq H locs ls hP hS hl => va_mmax X.1 X.2.1 (X.2.2.2.2.2.2.2.2.1.trans hl.1.symm) X.2.2.1 (X.2.2.2.1 _ h1) (X.2.2.2.1 _ h2) (X.2.2.2.1 _ h3) (X.2.2.2.1 _ h4) hf hlo hc hs dg (kk q hq H locs ls hP hS hl)
theorem xr_min (X : xC Γ cc Ts own ret rm D ad N) {x y : Int32} {index : Nat} (h1 : Cond.methodLink own index Lib.Math.min.name ∈ Ts) (h2 : Cond.static Lib.Math.min.name ∈ Ts) (h3 : Cond.initialized "java/lang/Math" ∈ Ts) (h4 : Cond.code Lib.Math.min.name Lib.Math.min.code 2 (some .int) ∈ Ts) (hf : 1 ≤ rm.frames) (hlo : (st.map fun v => v.category).sum + 13 ≤ rm.locals) (hc : k ≤ rm.cells) (hs : n ≤ rm.slots) (dg : decode cc pc = .ok (.invokestatic index, 3)) (kk : xM Γ D ad N Sh Q k n ex σ (pc + 3) lv (.int (if y < x then y else x) :: st)) : xM Γ D ad N Sh Q k n ex σ pc lv (.int y :: .int x :: st) := by
  obtain ⟨p, l, e, R, s, m, args, below, meth, c, nL, A⟩ := Γ
  have hR : R = rm := X.2.2.2.2.2.2.2.2.2.2.2.2.2
  subst hR
  exact fun q hq H locs ls hP hS hl => va_mmin X.1 X.2.1 (X.2.2.2.2.2.2.2.2.1.trans hl.1.symm) X.2.2.1 (X.2.2.2.1 _ h1) (X.2.2.2.1 _ h2) (X.2.2.2.1 _ h3) (X.2.2.2.1 _ h4) hf hlo hc hs dg (kk q hq H locs ls hP hS hl)
theorem xr_gets (X : xC Γ cc Ts own ret rm D ad N) {index : Nat} {nm ref : String} {f : Nat → Int32} (hz : ∀ A U H, xSF A U H → xSF1 nm f A U H) (hlink : Cond.fieldLink own index ref nm "[I" ∈ Ts) (hr : ref = "HeldNotes") (dg : decode cc pc = .ok (.getstatic index, 3)) (kk : ∀ a : Nat, (∀ A, A = Γ.2.2.2.2.2.2.2.2.2.2.2 → va_T .int a 4 (fun j => .int (f j)) A Γ.2.2.2.2.1 Γ.2.2.2.2.1.heap) → xM Γ D ad N Sh Q k n ex σ (pc + 3) lv (.ref a :: st)) : xM Γ D ad N Sh Q k n ex σ pc lv st := by
  obtain ⟨p, l, e, R, s, m, args, below, meth, c, nL, A⟩ := Γ
  obtain ⟨a, z1, z2⟩ := hz _ _ _ X.2.2.2.2.2.2.2.2.2.2.2.2.1
  subst hr
  exact fun q hq H locs ls hP hS hl => va_gets X.1 X.2.1 z1 hS X.2.2.1 (X.2.2.2.1 _ hlink) (fun x hx => hx) dg (kk a (fun A' hA' => hA' ▸ z2) q hq H locs ls hP hS hl)
theorem xr_getsN (X : xC Γ cc Ts own ret rm D ad N) {index : Nat} {nm ref host : String} {f : Nat → Int32} (hz : ∀ A U H, xSF A U H → xSF1 nm f A U H) (j : Nat) (hw : xNw[j]? = some (Cond.fieldLinkNest own index ref nm "[I" host)) (hr : ref = "HeldNotes") (dg : decode cc pc = .ok (.getstatic index, 3)) (kk : ∀ a : Nat, (∀ A, A = Γ.2.2.2.2.2.2.2.2.2.2.2 → va_T .int a 4 (fun j => .int (f j)) A Γ.2.2.2.2.1 Γ.2.2.2.2.1.heap) → xM Γ D ad N Sh Q k n ex σ (pc + 3) lv (.ref a :: st)) : xM Γ D ad N Sh Q k n ex σ pc lv st := by
  obtain ⟨p, l, e, R, s, m, args, below, meth, c, nL, A⟩ := Γ
  obtain ⟨a, z1, z2⟩ := hz _ _ _ X.2.2.2.2.2.2.2.2.2.2.2.2.1
  subst hr
  exact fun q hq H locs ls hP hS hl => va_getsN X.1 X.2.1 z1 hS X.2.2.1 (va_Nw.use rfl (X.2.2.2.2.2.2.2.2.2.2.2.1 _ (List.mem_of_getElem? hw))) (fun x hx => hx) dg (kk a (fun A' hA' => hA' ▸ z2) q hq H locs ls hP hS hl)
theorem xr_sald (X : xC Γ cc Ts own ret rm D ad N) {i : Int32} {f : Nat → Int32} {K : Int32 → Option R'} {a : Nat} (hT : ∀ A, A = Γ.2.2.2.2.2.2.2.2.2.2.2 → va_T .int a 4 (fun j => .int (f j)) A Γ.2.2.2.2.1 Γ.2.2.2.2.1.heap) (dg : decode cc pc = .ok (.iaload, 1)) (kk : ∀ z, xM Γ D ad N Sh Q k n (K z) σ (pc + 1) lv (.int z :: st)) : xM Γ D ad N Sh Q k n (if xin i 4 = true then xlet (f i.toNatClampNeg) K else none) σ pc lv (.int i :: .ref a :: st) := by
  refine x_if (fun hi0 => ?_) (fun _ => xM_none)
  have hi := xin_vp hi0
  obtain ⟨p, l, e, R, s, m, args, below, meth, c, nL, A⟩ := Γ
  exact fun q hq H locs ls hP hS hl => va_ti X.1 X.2.1 (hT A rfl) hS hi rfl dg (kk _ q hq H locs ls hP hS hl)
end XR
