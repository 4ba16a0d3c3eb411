def F_L_append (oo1 : Nat) (pp2 : Int32) (aa3 : Nat) (σ : xS) : Option (Int32 × xS) :=
  xbH (F_X5_append oo1 pp2 σ) (fun (zz2 : Int32) (σ1 : xS) => if xin (0 : Int32) 1 = true then (xlet (xu σ1 aa3 (0 : Int32).toNatClampNeg zz2) (fun (σ6 : xS) => some ((0 : Int32), σ6))) else none)
 (fun (ee5 : Nat) (σ3 : xS) => (if ee5 = 2 then (some ((1 : Int32), σ3)) else (if ee5 = 3 then (some ((2 : Int32), σ3)) else none)))
abbrev rm_L_append : Room := { frames := 9, cells := 2, slots := 12, locals := 143 }
set_option maxHeartbeats 4000000 in
set_option maxRecDepth 100000 in
theorem c_L_append (l : Launch) {D : va_G} {ad : Nat → Nat} {N : Nat} {Sh : xSh} (hI : ∀ i j, i < N → j < N → ad i = ad j → i = j) (hst : l.stackTraces = false) (oo1 : Nat) (hh1 : xIs5 D ad N Sh oo1) (pp2 : Int32) (aa3 : Nat) (hh3 : xHas N Sh aa3 (shJ D 1)) (σ : xS) : xKI l yL_append (Cond.codeWith yL_append cL_append 4 (some .int) [(0, 9, 12, 13), (0, 9, 15, 15)] :: wG) rm_L_append 2 12 D ad N Sh [.ref (ad oo1), .int pp2, .ref (ad aa3)] σ (F_L_append oo1 pp2 aa3 σ) := by
  refine x_startH (own := RL) (maxL := 4) (by decide) rfl rfl rfl (Nat.le_of_ble_eq_true rfl) rfl hI (fun Γ hl hnL hXT X => ?_)
  subst hl
  unfold F_L_append
  refine xr_aload_n (pc := 0) X (i := 2) 2 rfl rfl dL_append_0 ?_
  refine xr_iconst (pc := 1) X dL_append_1 (v := 0) (by decide) ?_
  refine xr_aload_n (pc := 2) X (i := 0) 0 rfl rfl dL_append_2 ?_
  refine xr_iload_n (pc := 3) X (i := 1) 1 rfl rfl dL_append_3 ?_
  refine xr_callHVI (na := 1) (pc := 4) X (oo1) [.int pp2] _ (c_X5_append Γ.2.1 hI hst oo1 hh1 pp2 σ) (wG_V wm_6_21 wm_6_18 wm_6_19 wm_6_20 wm_1_2) rfl rfl rfl (by decide +kernel) ⟨Nat.le_of_ble_eq_true rfl, Nat.le_of_ble_eq_true rfl⟩ hh1.1.1 hh1.1.2 rfl (T := TX5) (C := RX5) rfl rfl rfl (Nat.le_of_ble_eq_true rfl) ⟨Nat.le_of_ble_eq_true rfl, Nat.le_of_ble_eq_true rfl⟩ dL_append_4 (fun zz2 σ1 => ?_) (fun ee5 σ3 qq4 => ?_)
  · refine xr_i2l (pc := 7) X dL_append_7 ?_
    refine xr_last (pc := 8) X (aa3) 1 hh3.1 hh3.2 dL_append_8 (fun σ6 => ?_)
    refine xr_goto (pc := 9) X 18 (by decide) dL_append_9 ?_
    refine xr_iconst (pc := 18) X dL_append_18 (v := 0) (by decide) ?_
    exact xr_iret (pc := 19) X (Nat.le_of_ble_eq_true rfl) (Nat.le_of_ble_eq_true rfl) dL_append_19
  refine xKX_if (fun hee7 => ?_) (fun hee7 => ?_)
  · subst hee7
    refine xKX_hat (hp := 12) (x_hat (E := "java/lang/IllegalArgumentException") (name := "java/lang/IllegalArgumentException") X hXT [] ⟨0, 9, 12, 13⟩ [⟨0, 9, 15, 15⟩] rfl (fun z hz => absurd hz List.not_mem_nil) (by decide) (by decide) wm_6_16 30 rfl rfl) ?_
    refine x_sub [] rfl ?_
    refine xr_astore_n (pc := 12) X (hf := rfl) (i := 3) [0] (Nat.le_of_ble_eq_true rfl) hnL rfl dL_append_12 ?_
    refine xr_iconst (pc := 13) X dL_append_13 (v := 1) (by decide) ?_
    exact xr_iret (pc := 14) X (Nat.le_of_ble_eq_true rfl) (Nat.le_of_ble_eq_true rfl) dL_append_14
  refine xKX_if (fun hee8 => ?_) (fun hee8 => ?_)
  · subst hee8
    refine xKX_hat (hp := 15) (x_hat (E := "java/lang/IllegalStateException") (name := "java/lang/IllegalStateException") X hXT [⟨0, 9, 12, 13⟩] ⟨0, 9, 15, 15⟩ [] rfl (fun z hz => by rw [List.mem_singleton.mp hz]; exact ⟨by decide, _, wm_6_16, (xNC_of X).2.2.2.2.2⟩) (by decide) (by decide) wm_6_17 31 rfl rfl) ?_
    refine x_sub [] rfl ?_
    refine xr_astore_n (pc := 15) X (hf := rfl) (i := 3) [0] (Nat.le_of_ble_eq_true rfl) hnL rfl dL_append_15 ?_
    refine xr_iconst (pc := 16) X dL_append_16 (v := 2) (by decide) ?_
    exact xr_iret (pc := 17) X (Nat.le_of_ble_eq_true rfl) (Nat.le_of_ble_eq_true rfl) dL_append_17
  exact xKX_none
def F_L_load (oo1 : Nat) (aa2 : Nat) (σ : xS) : Option (Int32 × xS) :=
  xbH (F_X5_load oo1 σ) (fun (zz2 : Int32) (σ1 : xS) => if xin (0 : Int32) 1 = true then (xlet (xu σ1 aa2 (0 : Int32).toNatClampNeg zz2) (fun (σ6 : xS) => some ((0 : Int32), σ6))) else none)
 (fun (ee5 : Nat) (σ3 : xS) => (if ee5 = 3 then (some ((1 : Int32), σ3)) else none))
abbrev rm_L_load : Room := { frames := 9, cells := 1, slots := 6, locals := 147 }
set_option maxHeartbeats 4000000 in
set_option maxRecDepth 100000 in
theorem c_L_load (l : Launch) {D : va_G} {ad : Nat → Nat} {N : Nat} {Sh : xSh} (hI : ∀ i j, i < N → j < N → ad i = ad j → i = j) (hst : l.stackTraces = false) (oo1 : Nat) (hh1 : xIs5 D ad N Sh oo1) (aa2 : Nat) (hh2 : xHas N Sh aa2 (shJ D 1)) (σ : xS) : xKI l yL_load (Cond.codeWith yL_load cL_load 3 (some .int) [(0, 8, 11, 15)] :: wG) rm_L_load 1 6 D ad N Sh [.ref (ad oo1), .ref (ad aa2)] σ (F_L_load oo1 aa2 σ) := by
  refine x_startH (own := RL) (maxL := 3) (by decide) rfl rfl rfl (Nat.le_of_ble_eq_true rfl) rfl hI (fun Γ hl hnL hXT X => ?_)
  subst hl
  unfold F_L_load
  refine xr_aload_n (pc := 0) X (i := 1) 1 rfl rfl dL_load_0 ?_
  refine xr_iconst (pc := 1) X dL_load_1 (v := 0) (by decide) ?_
  refine xr_aload_n (pc := 2) X (i := 0) 0 rfl rfl dL_load_2 ?_
  refine xr_callHVI (na := 0) (pc := 3) X (oo1) [] _ (c_X5_load Γ.2.1 hI hst oo1 hh1 σ) (wG_V wm_13_22 wm_13_19 wm_13_20 wm_13_21 wm_1_2) rfl rfl rfl (by decide +kernel) ⟨Nat.le_of_ble_eq_true rfl, Nat.le_of_ble_eq_true rfl⟩ hh1.1.1 hh1.1.2 rfl (T := TX5) (C := RX5) rfl rfl rfl (Nat.le_of_ble_eq_true rfl) ⟨Nat.le_of_ble_eq_true rfl, Nat.le_of_ble_eq_true rfl⟩ dL_load_3 (fun zz2 σ1 => ?_) (fun ee5 σ3 qq4 => ?_)
  · refine xr_i2l (pc := 6) X dL_load_6 ?_
    refine xr_last (pc := 7) X (aa2) 1 hh2.1 hh2.2 dL_load_7 (fun σ6 => ?_)
    refine xr_goto (pc := 8) X 14 (by decide) dL_load_8 ?_
    refine xr_iconst (pc := 14) X dL_load_14 (v := 0) (by decide) ?_
    exact xr_iret (pc := 15) X (Nat.le_of_ble_eq_true rfl) (Nat.le_of_ble_eq_true rfl) dL_load_15
  refine xKX_if (fun hee7 => ?_) (fun hee7 => ?_)
  · subst hee7
    refine xKX_hat (hp := 11) (x_hat (E := "java/lang/IllegalStateException") (name := "java/lang/IllegalStateException") X hXT [] ⟨0, 8, 11, 15⟩ [] rfl (fun z hz => absurd hz List.not_mem_nil) (by decide) (by decide) wm_6_17 31 rfl rfl) ?_
    refine x_sub [] rfl ?_
    refine xr_astore_n (pc := 11) X (hf := rfl) (i := 2) [0] (Nat.le_of_ble_eq_true rfl) hnL rfl dL_load_11 ?_
    refine xr_iconst (pc := 12) X dL_load_12 (v := 1) (by decide) ?_
    exact xr_iret (pc := 13) X (Nat.le_of_ble_eq_true rfl) (Nat.le_of_ble_eq_true rfl) dL_load_13
  exact xKX_none
def F_L_about (oo1 : Nat) (pp2 : Int32) (aa3 : Nat) (σ : xS) : Option (Int32 × xS) :=
  xbH (F_X5_about oo1 pp2 σ) (fun (zz2 : Int32) (σ1 : xS) => if xin (0 : Int32) 1 = true then (xlet (xu σ1 aa3 (0 : Int32).toNatClampNeg zz2) (fun (σ6 : xS) => some ((0 : Int32), σ6))) else none)
 (fun (ee5 : Nat) (σ3 : xS) => (if ee5 = 2 then (some ((1 : Int32), σ3)) else none))
abbrev rm_L_about : Room := { frames := 9, cells := 1, slots := 6, locals := 143 }
set_option maxHeartbeats 4000000 in
set_option maxRecDepth 100000 in
theorem c_L_about (l : Launch) {D : va_G} {ad : Nat → Nat} {N : Nat} {Sh : xSh} (hI : ∀ i j, i < N → j < N → ad i = ad j → i = j) (hst : l.stackTraces = false) (oo1 : Nat) (hh1 : xIs5 D ad N Sh oo1) (pp2 : Int32) (aa3 : Nat) (hh3 : xHas N Sh aa3 (shJ D 1)) (σ : xS) : xKI l yL_about (Cond.codeWith yL_about cL_about 4 (some .int) [(0, 9, 12, 13)] :: wG) rm_L_about 1 6 D ad N Sh [.ref (ad oo1), .int pp2, .ref (ad aa3)] σ (F_L_about oo1 pp2 aa3 σ) := by
  refine x_startH (own := RL) (maxL := 4) (by decide) rfl rfl rfl (Nat.le_of_ble_eq_true rfl) rfl hI (fun Γ hl hnL hXT X => ?_)
  subst hl
  unfold F_L_about
  refine xr_aload_n (pc := 0) X (i := 2) 2 rfl rfl dL_about_0 ?_
  refine xr_iconst (pc := 1) X dL_about_1 (v := 0) (by decide) ?_
  refine xr_aload_n (pc := 2) X (i := 0) 0 rfl rfl dL_about_2 ?_
  refine xr_iload_n (pc := 3) X (i := 1) 1 rfl rfl dL_about_3 ?_
  refine xr_callHVI (na := 1) (pc := 4) X (oo1) [.int pp2] _ (c_X5_about Γ.2.1 hI hst oo1 hh1 pp2 σ) (wG_V wm_18_16 wm_18_13 wm_18_14 wm_18_15 wm_1_2) rfl rfl rfl (by decide +kernel) ⟨Nat.le_of_ble_eq_true rfl, Nat.le_of_ble_eq_true rfl⟩ hh1.1.1 hh1.1.2 rfl (T := TX5) (C := RX5) rfl rfl rfl (Nat.le_of_ble_eq_true rfl) ⟨Nat.le_of_ble_eq_true rfl, Nat.le_of_ble_eq_true rfl⟩ dL_about_4 (fun zz2 σ1 => ?_) (fun ee5 σ3 qq4 => ?_)
  · refine xr_i2l (pc := 7) X dL_about_7 ?_
    refine xr_last (pc := 8) X (aa3) 1 hh3.1 hh3.2 dL_about_8 (fun σ6 => ?_)
    refine xr_goto (pc := 9) X 15 (by decide) dL_about_9 ?_
    refine xr_iconst (pc := 15) X dL_about_15 (v := 0) (by decide) ?_
    exact xr_iret (pc := 16) X (Nat.le_of_ble_eq_true rfl) (Nat.le_of_ble_eq_true rfl) dL_about_16
  refine xKX_if (fun hee7 => ?_) (fun hee7 => ?_)
  · subst hee7
    refine xKX_hat (hp := 12) (x_hat (E := "java/lang/IllegalArgumentException") (name := "java/lang/IllegalArgumentException") X hXT [] ⟨0, 9, 12, 13⟩ [] rfl (fun z hz => absurd hz List.not_mem_nil) (by decide) (by decide) wm_6_16 30 rfl rfl) ?_
    refine x_sub [] rfl ?_
    refine xr_astore_n (pc := 12) X (hf := rfl) (i := 3) [0] (Nat.le_of_ble_eq_true rfl) hnL rfl dL_about_12 ?_
    refine xr_iconst (pc := 13) X dL_about_13 (v := 1) (by decide) ?_
    exact xr_iret (pc := 14) X (Nat.le_of_ble_eq_true rfl) (Nat.le_of_ble_eq_true rfl) dL_about_14
  exact xKX_none
def F_L_writer (oo1 : Nat) (pp2 : Int32) (pp3 : Int32) (aa4 : Nat) (σ : xS) : Option (Int32 × xS) :=
  xbH (F_X5_writer oo1 pp2 pp3 σ) (fun (zz2 : Int32) (σ1 : xS) => if xin (0 : Int32) 1 = true then (xlet (xu σ1 aa4 (0 : Int32).toNatClampNeg zz2) (fun (σ6 : xS) => some ((0 : Int32), σ6))) else none)
 (fun (ee5 : Nat) (σ3 : xS) => (if ee5 = 1 then (some ((1 : Int32), σ3)) else (if ee5 = 2 then (some ((2 : Int32), σ3)) else none)))
abbrev rm_L_writer : Room := { frames := 9, cells := 2, slots := 12, locals := 144 }
set_option maxHeartbeats 4000000 in
set_option maxRecDepth 100000 in
theorem c_L_writer (l : Launch) {D : va_G} {ad : Nat → Nat} {N : Nat} {Sh : xSh} (hI : ∀ i j, i < N → j < N → ad i = ad j → i = j) (hst : l.stackTraces = false) (oo1 : Nat) (hh1 : xIs5 D ad N Sh oo1) (pp2 : Int32) (pp3 : Int32) (aa4 : Nat) (hh4 : xHas N Sh aa4 (shJ D 1)) (σ : xS) : xKI l yL_writer (Cond.codeWith yL_writer cL_writer 5 (some .int) [(0, 10, 13, 28), (0, 10, 17, 13)] :: wG) rm_L_writer 2 12 D ad N Sh [.ref (ad oo1), .int pp2, .int pp3, .ref (ad aa4)] σ (F_L_writer oo1 pp2 pp3 aa4 σ) := by
  refine x_startH (own := RL) (maxL := 5) (by decide) rfl rfl rfl (Nat.le_of_ble_eq_true rfl) rfl hI (fun Γ hl hnL hXT X => ?_)
  subst hl
  unfold F_L_writer
  refine xr_aload_n (pc := 0) X (i := 3) 3 rfl rfl dL_writer_0 ?_
  refine xr_iconst (pc := 1) X dL_writer_1 (v := 0) (by decide) ?_
  refine xr_aload_n (pc := 2) X (i := 0) 0 rfl rfl dL_writer_2 ?_
  refine xr_iload_n (pc := 3) X (i := 1) 1 rfl rfl dL_writer_3 ?_
  refine xr_iload_n (pc := 4) X (i := 2) 2 rfl rfl dL_writer_4 ?_
  refine xr_callHVI (na := 2) (pc := 5) X (oo1) [.int pp2, .int pp3] _ (c_X5_writer Γ.2.1 hI hst oo1 hh1 pp2 pp3 σ) (wG_V wm_19_21 wm_19_18 wm_19_19 wm_19_20 wm_1_2) rfl rfl rfl (by decide +kernel) ⟨Nat.le_of_ble_eq_true rfl, Nat.le_of_ble_eq_true rfl⟩ hh1.1.1 hh1.1.2 rfl (T := TX5) (C := RX5) rfl rfl rfl (Nat.le_of_ble_eq_true rfl) ⟨Nat.le_of_ble_eq_true rfl, Nat.le_of_ble_eq_true rfl⟩ dL_writer_5 (fun zz2 σ1 => ?_) (fun ee5 σ3 qq4 => ?_)
  · refine xr_i2l (pc := 8) X dL_writer_8 ?_
    refine xr_last (pc := 9) X (aa4) 1 hh4.1 hh4.2 dL_writer_9 (fun σ6 => ?_)
    refine xr_goto (pc := 10) X 21 (by decide) dL_writer_10 ?_
    refine xr_iconst (pc := 21) X dL_writer_21 (v := 0) (by decide) ?_
    exact xr_iret (pc := 22) X (Nat.le_of_ble_eq_true rfl) (Nat.le_of_ble_eq_true rfl) dL_writer_22
  refine xKX_if (fun hee7 => ?_) (fun hee7 => ?_)
  · subst hee7
    refine xKX_hat (hp := 13) (x_hat (E := "java/lang/IndexOutOfBoundsException") (name := "java/lang/IndexOutOfBoundsException") X hXT [] ⟨0, 10, 13, 28⟩ [⟨0, 10, 17, 13⟩] rfl (fun z hz => absurd hz List.not_mem_nil) (by decide) (by decide) wm_19_17 29 rfl rfl) ?_
    refine x_sub [] rfl ?_
    refine xr_astore (pc := 13) X (i := 4) [0] (Nat.le_of_ble_eq_true rfl) hnL rfl dL_writer_13 ?_
    refine xr_iconst (pc := 15) X dL_writer_15 (v := 1) (by decide) ?_
    exact xr_iret (pc := 16) X (Nat.le_of_ble_eq_true rfl) (Nat.le_of_ble_eq_true rfl) dL_writer_16
  refine xKX_if (fun hee8 => ?_) (fun hee8 => ?_)
  · subst hee8
    refine xKX_hat (hp := 17) (x_hat (E := "java/lang/IllegalArgumentException") (name := "java/lang/IllegalArgumentException") X hXT [⟨0, 10, 13, 28⟩] ⟨0, 10, 17, 13⟩ [] rfl (fun z hz => by rw [List.mem_singleton.mp hz]; exact ⟨by decide, _, wm_19_17, (xNC_of X).2.2.1⟩) (by decide) (by decide) wm_6_16 30 rfl rfl) ?_
    refine x_sub [] rfl ?_
    refine xr_astore (pc := 17) X (i := 4) [0] (Nat.le_of_ble_eq_true rfl) hnL rfl dL_writer_17 ?_
    refine xr_iconst (pc := 19) X dL_writer_19 (v := 2) (by decide) ?_
    exact xr_iret (pc := 20) X (Nat.le_of_ble_eq_true rfl) (Nat.le_of_ble_eq_true rfl) dL_writer_20
  exact xKX_none
def F_L_desk (oo1 : Nat) (pp2 : Int32) (pp3 : Int32) (aa4 : Nat) (σ : xS) : Option (Int32 × xS) :=
  xbH (F_X5_desk oo1 pp2 pp3 σ) (fun (zz2 : Int32) (σ1 : xS) => if xin (0 : Int32) 1 = true then (xlet (xu σ1 aa4 (0 : Int32).toNatClampNeg zz2) (fun (σ6 : xS) => some ((0 : Int32), σ6))) else none)
 (fun (ee5 : Nat) (σ3 : xS) => (if ee5 = 1 then (some ((1 : Int32), σ3)) else (if ee5 = 2 then (some ((2 : Int32), σ3)) else none)))
abbrev rm_L_desk : Room := { frames := 9, cells := 2, slots := 12, locals := 144 }
set_option maxHeartbeats 4000000 in
set_option maxRecDepth 100000 in
theorem c_L_desk (l : Launch) {D : va_G} {ad : Nat → Nat} {N : Nat} {Sh : xSh} (hI : ∀ i j, i < N → j < N → ad i = ad j → i = j) (hst : l.stackTraces = false) (oo1 : Nat) (hh1 : xIs5 D ad N Sh oo1) (pp2 : Int32) (pp3 : Int32) (aa4 : Nat) (hh4 : xHas N Sh aa4 (shJ D 1)) (σ : xS) : xKI l yL_desk (Cond.codeWith yL_desk cL_desk 5 (some .int) [(0, 10, 13, 28), (0, 10, 17, 13)] :: wG) rm_L_desk 2 12 D ad N Sh [.ref (ad oo1), .int pp2, .int pp3, .ref (ad aa4)] σ (F_L_desk oo1 pp2 pp3 aa4 σ) := by
  refine x_startH (own := RL) (maxL := 5) (by decide) rfl rfl rfl (Nat.le_of_ble_eq_true rfl) rfl hI (fun Γ hl hnL hXT X => ?_)
  subst hl
  unfold F_L_desk
  refine xr_aload_n (pc := 0) X (i := 3) 3 rfl rfl dL_desk_0 ?_
  refine xr_iconst (pc := 1) X dL_desk_1 (v := 0) (by decide) ?_
  refine xr_aload_n (pc := 2) X (i := 0) 0 rfl rfl dL_desk_2 ?_
  refine xr_iload_n (pc := 3) X (i := 1) 1 rfl rfl dL_desk_3 ?_
  refine xr_iload_n (pc := 4) X (i := 2) 2 rfl rfl dL_desk_4 ?_
  refine xr_callHVI (na := 2) (pc := 5) X (oo1) [.int pp2, .int pp3] _ (c_X5_desk Γ.2.1 hI hst oo1 hh1 pp2 pp3 σ) (wG_V wm_20_11 wm_20_8 wm_20_9 wm_20_10 wm_1_2) rfl rfl rfl (by decide +kernel) ⟨Nat.le_of_ble_eq_true rfl, Nat.le_of_ble_eq_true rfl⟩ hh1.1.1 hh1.1.2 rfl (T := TX5) (C := RX5) rfl rfl rfl (Nat.le_of_ble_eq_true rfl) ⟨Nat.le_of_ble_eq_true rfl, Nat.le_of_ble_eq_true rfl⟩ dL_desk_5 (fun zz2 σ1 => ?_) (fun ee5 σ3 qq4 => ?_)
  · refine xr_i2l (pc := 8) X dL_desk_8 ?_
    refine xr_last (pc := 9) X (aa4) 1 hh4.1 hh4.2 dL_desk_9 (fun σ6 => ?_)
    refine xr_goto (pc := 10) X 21 (by decide) dL_desk_10 ?_
    refine xr_iconst (pc := 21) X dL_desk_21 (v := 0) (by decide) ?_
    exact xr_iret (pc := 22) X (Nat.le_of_ble_eq_true rfl) (Nat.le_of_ble_eq_true rfl) dL_desk_22
  refine xKX_if (fun hee7 => ?_) (fun hee7 => ?_)
  · subst hee7
    refine xKX_hat (hp := 13) (x_hat (E := "java/lang/IndexOutOfBoundsException") (name := "java/lang/IndexOutOfBoundsException") X hXT [] ⟨0, 10, 13, 28⟩ [⟨0, 10, 17, 13⟩] rfl (fun z hz => absurd hz List.not_mem_nil) (by decide) (by decide) wm_19_17 29 rfl rfl) ?_
    refine x_sub [] rfl ?_
    refine xr_astore (pc := 13) X (i := 4) [0] (Nat.le_of_ble_eq_true rfl) hnL rfl dL_desk_13 ?_
    refine xr_iconst (pc := 15) X dL_desk_15 (v := 1) (by decide) ?_
    exact xr_iret (pc := 16) X (Nat.le_of_ble_eq_true rfl) (Nat.le_of_ble_eq_true rfl) dL_desk_16
  refine xKX_if (fun hee8 => ?_) (fun hee8 => ?_)
  · subst hee8
    refine xKX_hat (hp := 17) (x_hat (E := "java/lang/IllegalArgumentException") (name := "java/lang/IllegalArgumentException") X hXT [⟨0, 10, 13, 28⟩] ⟨0, 10, 17, 13⟩ [] rfl (fun z hz => by rw [List.mem_singleton.mp hz]; exact ⟨by decide, _, wm_19_17, (xNC_of X).2.2.1⟩) (by decide) (by decide) wm_6_16 30 rfl rfl) ?_
    refine x_sub [] rfl ?_
    refine xr_astore (pc := 17) X (i := 4) [0] (Nat.le_of_ble_eq_true rfl) hnL rfl dL_desk_17 ?_
    refine xr_iconst (pc := 19) X dL_desk_19 (v := 2) (by decide) ?_
    exact xr_iret (pc := 20) X (Nat.le_of_ble_eq_true rfl) (Nat.le_of_ble_eq_true rfl) dL_desk_20
  exact xKX_none
def F_L_letter (oo1 : Nat) (pp2 : Int32) (pp3 : Int32) (pp4 : Int32) (aa5 : Nat) (σ : xS) : Option (Int32 × xS) :=
  xbH (F_X5_letter oo1 pp2 pp3 pp4 σ) (fun (zz2 : Int32) (σ1 : xS) => if xin (0 : Int32) 1 = true then (xlet (xu σ1 aa5 (0 : Int32).toNatClampNeg zz2) (fun (σ6 : xS) => some ((0 : Int32), σ6))) else none)
 (fun (ee5 : Nat) (σ3 : xS) => (if ee5 = 1 then (some ((1 : Int32), σ3)) else (if ee5 = 2 then (some ((2 : Int32), σ3)) else none)))
abbrev rm_L_letter : Room := { frames := 9, cells := 3, slots := 18, locals := 146 }
set_option maxHeartbeats 4000000 in
set_option maxRecDepth 100000 in
theorem c_L_letter (l : Launch) {D : va_G} {ad : Nat → Nat} {N : Nat} {Sh : xSh} (hI : ∀ i j, i < N → j < N → ad i = ad j → i = j) (hst : l.stackTraces = false) (oo1 : Nat) (hh1 : xIs5 D ad N Sh oo1) (pp2 : Int32) (pp3 : Int32) (pp4 : Int32) (aa5 : Nat) (hh5 : xHas N Sh aa5 (shJ D 1)) (σ : xS) : xKI l yL_letter (Cond.codeWith yL_letter cL_letter 6 (some .int) [(0, 12, 15, 28), (0, 12, 19, 13)] :: wG) rm_L_letter 3 18 D ad N Sh [.ref (ad oo1), .int pp2, .int pp3, .int pp4, .ref (ad aa5)] σ (F_L_letter oo1 pp2 pp3 pp4 aa5 σ) := by
  refine x_startH (own := RL) (maxL := 6) (by decide) rfl rfl rfl (Nat.le_of_ble_eq_true rfl) rfl hI (fun Γ hl hnL hXT X => ?_)
  subst hl
  unfold F_L_letter
  refine xr_aload (pc := 0) X (i := 4) 4 rfl dL_letter_0 ?_
  refine xr_iconst (pc := 2) X dL_letter_2 (v := 0) (by decide) ?_
  refine xr_aload_n (pc := 3) X (i := 0) 0 rfl rfl dL_letter_3 ?_
  refine xr_iload_n (pc := 4) X (i := 1) 1 rfl rfl dL_letter_4 ?_
  refine xr_iload_n (pc := 5) X (i := 2) 2 rfl rfl dL_letter_5 ?_
  refine xr_iload_n (pc := 6) X (i := 3) 3 rfl rfl dL_letter_6 ?_
  refine xr_callHVI (na := 3) (pc := 7) X (oo1) [.int pp2, .int pp3, .int pp4] _ (c_X5_letter Γ.2.1 hI hst oo1 hh1 pp2 pp3 pp4 σ) (wG_V wm_21_0 wm_20_21 wm_20_22 wm_20_23 wm_1_2) rfl rfl rfl (by decide +kernel) ⟨Nat.le_of_ble_eq_true rfl, Nat.le_of_ble_eq_true rfl⟩ hh1.1.1 hh1.1.2 rfl (T := TX5) (C := RX5) rfl rfl rfl (Nat.le_of_ble_eq_true rfl) ⟨Nat.le_of_ble_eq_true rfl, Nat.le_of_ble_eq_true rfl⟩ dL_letter_7 (fun zz2 σ1 => ?_) (fun ee5 σ3 qq4 => ?_)
  · refine xr_i2l (pc := 10) X dL_letter_10 ?_
    refine xr_last (pc := 11) X (aa5) 1 hh5.1 hh5.2 dL_letter_11 (fun σ6 => ?_)
    refine xr_goto (pc := 12) X 23 (by decide) dL_letter_12 ?_
    refine xr_iconst (pc := 23) X dL_letter_23 (v := 0) (by decide) ?_
    exact xr_iret (pc := 24) X (Nat.le_of_ble_eq_true rfl) (Nat.le_of_ble_eq_true rfl) dL_letter_24
  refine xKX_if (fun hee7 => ?_) (fun hee7 => ?_)
  · subst hee7
    refine xKX_hat (hp := 15) (x_hat (E := "java/lang/IndexOutOfBoundsException") (name := "java/lang/IndexOutOfBoundsException") X hXT [] ⟨0, 12, 15, 28⟩ [⟨0, 12, 19, 13⟩] rfl (fun z hz => absurd hz List.not_mem_nil) (by decide) (by decide) wm_19_17 29 rfl rfl) ?_
    refine x_sub [] rfl ?_
    refine xr_astore (pc := 15) X (i := 5) [0] (Nat.le_of_ble_eq_true rfl) hnL rfl dL_letter_15 ?_
    refine xr_iconst (pc := 17) X dL_letter_17 (v := 1) (by decide) ?_
    exact xr_iret (pc := 18) X (Nat.le_of_ble_eq_true rfl) (Nat.le_of_ble_eq_true rfl) dL_letter_18
  refine xKX_if (fun hee8 => ?_) (fun hee8 => ?_)
  · subst hee8
    refine xKX_hat (hp := 19) (x_hat (E := "java/lang/IllegalArgumentException") (name := "java/lang/IllegalArgumentException") X hXT [⟨0, 12, 15, 28⟩] ⟨0, 12, 19, 13⟩ [] rfl (fun z hz => by rw [List.mem_singleton.mp hz]; exact ⟨by decide, _, wm_19_17, (xNC_of X).2.2.1⟩) (by decide) (by decide) wm_6_16 30 rfl rfl) ?_
    refine x_sub [] rfl ?_
    refine xr_astore (pc := 19) X (i := 5) [0] (Nat.le_of_ble_eq_true rfl) hnL rfl dL_letter_19 ?_
    refine xr_iconst (pc := 21) X dL_letter_21 (v := 2) (by decide) ?_
    exact xr_iret (pc := 22) X (Nat.le_of_ble_eq_true rfl) (Nat.le_of_ble_eq_true rfl) dL_letter_22
  exact xKX_none
def F_L_planned (oo1 : Nat) (pp2 : Int32) (pp3 : Int32) (aa4 : Nat) (σ : xS) : Option (Int32 × xS) :=
  xbH (F_X5_planned oo1 pp2 pp3 σ) (fun (zz2 : Int32) (σ1 : xS) => if xin (0 : Int32) 1 = true then (xlet (xu σ1 aa4 (0 : Int32).toNatClampNeg zz2) (fun (σ6 : xS) => some ((0 : Int32), σ6))) else none)
 (fun (ee5 : Nat) (σ3 : xS) => (if ee5 = 1 then (some ((1 : Int32), σ3)) else (if ee5 = 2 then (some ((2 : Int32), σ3)) else none)))
abbrev rm_L_planned : Room := { frames := 9, cells := 2, slots := 12, locals := 145 }
set_option maxHeartbeats 4000000 in
set_option maxRecDepth 100000 in
theorem c_L_planned (l : Launch) {D : va_G} {ad : Nat → Nat} {N : Nat} {Sh : xSh} (hI : ∀ i j, i < N → j < N → ad i = ad j → i = j) (hst : l.stackTraces = false) (oo1 : Nat) (hh1 : xIs5 D ad N Sh oo1) (pp2 : Int32) (pp3 : Int32) (aa4 : Nat) (hh4 : xHas N Sh aa4 (shJ D 1)) (σ : xS) : xKI l yL_planned (Cond.codeWith yL_planned cL_planned 5 (some .int) [(0, 10, 13, 28), (0, 10, 17, 13)] :: wG) rm_L_planned 2 12 D ad N Sh [.ref (ad oo1), .int pp2, .int pp3, .ref (ad aa4)] σ (F_L_planned oo1 pp2 pp3 aa4 σ) := by
  refine x_startH (own := RL) (maxL := 5) (by decide) rfl rfl rfl (Nat.le_of_ble_eq_true rfl) rfl hI (fun Γ hl hnL hXT X => ?_)
  subst hl
  unfold F_L_planned
  refine xr_aload_n (pc := 0) X (i := 3) 3 rfl rfl dL_planned_0 ?_
  refine xr_iconst (pc := 1) X dL_planned_1 (v := 0) (by decide) ?_
  refine xr_aload_n (pc := 2) X (i := 0) 0 rfl rfl dL_planned_2 ?_
  refine xr_iload_n (pc := 3) X (i := 1) 1 rfl rfl dL_planned_3 ?_
  refine xr_iload_n (pc := 4) X (i := 2) 2 rfl rfl dL_planned_4 ?_
  refine xr_callHVI (na := 2) (pc := 5) X (oo1) [.int pp2, .int pp3] _ (c_X5_planned Γ.2.1 hI hst oo1 hh1 pp2 pp3 σ) (wG_V wm_21_13 wm_21_10 wm_21_11 wm_21_12 wm_1_2) rfl rfl rfl (by decide +kernel) ⟨Nat.le_of_ble_eq_true rfl, Nat.le_of_ble_eq_true rfl⟩ hh1.1.1 hh1.1.2 rfl (T := TX5) (C := RX5) rfl rfl rfl (Nat.le_of_ble_eq_true rfl) ⟨Nat.le_of_ble_eq_true rfl, Nat.le_of_ble_eq_true rfl⟩ dL_planned_5 (fun zz2 σ1 => ?_) (fun ee5 σ3 qq4 => ?_)
  · refine xr_i2l (pc := 8) X dL_planned_8 ?_
    refine xr_last (pc := 9) X (aa4) 1 hh4.1 hh4.2 dL_planned_9 (fun σ6 => ?_)
    refine xr_goto (pc := 10) X 21 (by decide) dL_planned_10 ?_
    refine xr_iconst (pc := 21) X dL_planned_21 (v := 0) (by decide) ?_
    exact xr_iret (pc := 22) X (Nat.le_of_ble_eq_true rfl) (Nat.le_of_ble_eq_true rfl) dL_planned_22
  refine xKX_if (fun hee7 => ?_) (fun hee7 => ?_)
  · subst hee7
    refine xKX_hat (hp := 13) (x_hat (E := "java/lang/IndexOutOfBoundsException") (name := "java/lang/IndexOutOfBoundsException") X hXT [] ⟨0, 10, 13, 28⟩ [⟨0, 10, 17, 13⟩] rfl (fun z hz => absurd hz List.not_mem_nil) (by decide) (by decide) wm_19_17 29 rfl rfl) ?_
    refine x_sub [] rfl ?_
    refine xr_astore (pc := 13) X (i := 4) [0] (Nat.le_of_ble_eq_true rfl) hnL rfl dL_planned_13 ?_
    refine xr_iconst (pc := 15) X dL_planned_15 (v := 1) (by decide) ?_
    exact xr_iret (pc := 16) X (Nat.le_of_ble_eq_true rfl) (Nat.le_of_ble_eq_true rfl) dL_planned_16
  refine xKX_if (fun hee8 => ?_) (fun hee8 => ?_)
  · subst hee8
    refine xKX_hat (hp := 17) (x_hat (E := "java/lang/IllegalArgumentException") (name := "java/lang/IllegalArgumentException") X hXT [⟨0, 10, 13, 28⟩] ⟨0, 10, 17, 13⟩ [] rfl (fun z hz => by rw [List.mem_singleton.mp hz]; exact ⟨by decide, _, wm_19_17, (xNC_of X).2.2.1⟩) (by decide) (by decide) wm_6_16 30 rfl rfl) ?_
    refine x_sub [] rfl ?_
    refine xr_astore (pc := 17) X (i := 4) [0] (Nat.le_of_ble_eq_true rfl) hnL rfl dL_planned_17 ?_
    refine xr_iconst (pc := 19) X dL_planned_19 (v := 2) (by decide) ?_
    exact xr_iret (pc := 20) X (Nat.le_of_ble_eq_true rfl) (Nat.le_of_ble_eq_true rfl) dL_planned_20
  exact xKX_none
def F_L_setting (oo1 : Nat) (pp2 : Int32) (aa3 : Nat) (σ : xS) : Option (Int32 × xS) :=
  xbH (F_X5_setting oo1 pp2 σ) (fun (zz2 : Int32) (σ1 : xS) => if xin (0 : Int32) 1 = true then (xlet (xu σ1 aa3 (0 : Int32).toNatClampNeg zz2) (fun (σ6 : xS) => some ((0 : Int32), σ6))) else none)
 (fun (ee5 : Nat) (σ3 : xS) => (if ee5 = 2 then (some ((1 : Int32), σ3)) else none))
abbrev rm_L_setting : Room := { frames := 9, cells := 1, slots := 6, locals := 143 }
set_option maxHeartbeats 4000000 in
set_option maxRecDepth 100000 in
theorem c_L_setting (l : Launch) {D : va_G} {ad : Nat → Nat} {N : Nat} {Sh : xSh} (hI : ∀ i j, i < N → j < N → ad i = ad j → i = j) (hst : l.stackTraces = false) (oo1 : Nat) (hh1 : xIs5 D ad N Sh oo1) (pp2 : Int32) (aa3 : Nat) (hh3 : xHas N Sh aa3 (shJ D 1)) (σ : xS) : xKI l yL_setting (Cond.codeWith yL_setting cL_setting 4 (some .int) [(0, 9, 12, 13)] :: wG) rm_L_setting 1 6 D ad N Sh [.ref (ad oo1), .int pp2, .ref (ad aa3)] σ (F_L_setting oo1 pp2 aa3 σ) := by
  refine x_startH (own := RL) (maxL := 4) (by decide) rfl rfl rfl (Nat.le_of_ble_eq_true rfl) rfl hI (fun Γ hl hnL hXT X => ?_)
  subst hl
  unfold F_L_setting
  refine xr_aload_n (pc := 0) X (i := 2) 2 rfl rfl dL_setting_0 ?_
  refine xr_iconst (pc := 1) X dL_setting_1 (v := 0) (by decide) ?_
  refine xr_aload_n (pc := 2) X (i := 0) 0 rfl rfl dL_setting_2 ?_
  refine xr_iload_n (pc := 3) X (i := 1) 1 rfl rfl dL_setting_3 ?_
  refine xr_callHVI (na := 1) (pc := 4) X (oo1) [.int pp2] _ (c_X5_setting Γ.2.1 hI hst oo1 hh1 pp2 σ) (wG_V wm_22_2 wm_21_23 wm_22_0 wm_22_1 wm_1_2) rfl rfl rfl (by decide +kernel) ⟨Nat.le_of_ble_eq_true rfl, Nat.le_of_ble_eq_true rfl⟩ hh1.1.1 hh1.1.2 rfl (T := TX5) (C := RX5) rfl rfl rfl (Nat.le_of_ble_eq_true rfl) ⟨Nat.le_of_ble_eq_true rfl, Nat.le_of_ble_eq_true rfl⟩ dL_setting_4 (fun zz2 σ1 => ?_) (fun ee5 σ3 qq4 => ?_)
  · refine xr_i2l (pc := 7) X dL_setting_7 ?_
    refine xr_last (pc := 8) X (aa3) 1 hh3.1 hh3.2 dL_setting_8 (fun σ6 => ?_)
    refine xr_goto (pc := 9) X 15 (by decide) dL_setting_9 ?_
    refine xr_iconst (pc := 15) X dL_setting_15 (v := 0) (by decide) ?_
    exact xr_iret (pc := 16) X (Nat.le_of_ble_eq_true rfl) (Nat.le_of_ble_eq_true rfl) dL_setting_16
  refine xKX_if (fun hee7 => ?_) (fun hee7 => ?_)
  · subst hee7
    refine xKX_hat (hp := 12) (x_hat (E := "java/lang/IllegalArgumentException") (name := "java/lang/IllegalArgumentException") X hXT [] ⟨0, 9, 12, 13⟩ [] rfl (fun z hz => absurd hz List.not_mem_nil) (by decide) (by decide) wm_6_16 30 rfl rfl) ?_
    refine x_sub [] rfl ?_
    refine xr_astore_n (pc := 12) X (hf := rfl) (i := 3) [0] (Nat.le_of_ble_eq_true rfl) hnL rfl dL_setting_12 ?_
    refine xr_iconst (pc := 13) X dL_setting_13 (v := 1) (by decide) ?_
    exact xr_iret (pc := 14) X (Nat.le_of_ble_eq_true rfl) (Nat.le_of_ble_eq_true rfl) dL_setting_14
  exact xKX_none
def F_L_post (oo1 : Nat) (pp2 : Int32) (aa3 : Nat) (σ : xS) : Option (Int32 × xS) :=
  xbH (F_X5_post oo1 pp2 σ) (fun (zz2 : Int32) (σ1 : xS) => if xin (0 : Int32) 1 = true then (xlet (xu σ1 aa3 (0 : Int32).toNatClampNeg zz2) (fun (σ6 : xS) => some ((0 : Int32), σ6))) else none)
 (fun (ee5 : Nat) (σ3 : xS) => (if ee5 = 2 then (some ((1 : Int32), σ3)) else none))
abbrev rm_L_post : Room := { frames := 9, cells := 1, slots := 6, locals := 170 }
set_option maxHeartbeats 4000000 in
set_option maxRecDepth 100000 in
theorem c_L_post (l : Launch) {D : va_G} {ad : Nat → Nat} {N : Nat} {Sh : xSh} (hI : ∀ i j, i < N → j < N → ad i = ad j → i = j) (hst : l.stackTraces = false) (oo1 : Nat) (hh1 : xIs5 D ad N Sh oo1) (pp2 : Int32) (aa3 : Nat) (hh3 : xHas N Sh aa3 (shJ D 1)) (σ : xS) : xKI l yL_post (Cond.codeWith yL_post cL_post 4 (some .int) [(0, 9, 12, 13)] :: wG) rm_L_post 1 6 D ad N Sh [.ref (ad oo1), .int pp2, .ref (ad aa3)] σ (F_L_post oo1 pp2 aa3 σ) := by
  refine x_startH (own := RL) (maxL := 4) (by decide) rfl rfl rfl (Nat.le_of_ble_eq_true rfl) rfl hI (fun Γ hl hnL hXT X => ?_)
  subst hl
  unfold F_L_post
  refine xr_aload_n (pc := 0) X (i := 2) 2 rfl rfl dL_post_0 ?_
  refine xr_iconst (pc := 1) X dL_post_1 (v := 0) (by decide) ?_
  refine xr_aload_n (pc := 2) X (i := 0) 0 rfl rfl dL_post_2 ?_
  refine xr_iload_n (pc := 3) X (i := 1) 1 rfl rfl dL_post_3 ?_
  refine xr_callHVI (na := 1) (pc := 4) X (oo1) [.int pp2] _ (c_X5_post Γ.2.1 hI hst oo1 hh1 pp2 σ) (wG_V wm_22_14 wm_22_11 wm_22_12 wm_22_13 wm_1_2) rfl rfl rfl (by decide +kernel) ⟨Nat.le_of_ble_eq_true rfl, Nat.le_of_ble_eq_true rfl⟩ hh1.1.1 hh1.1.2 rfl (T := TX5) (C := RX5) rfl rfl rfl (Nat.le_of_ble_eq_true rfl) ⟨Nat.le_of_ble_eq_true rfl, Nat.le_of_ble_eq_true rfl⟩ dL_post_4 (fun zz2 σ1 => ?_) (fun ee5 σ3 qq4 => ?_)
  · refine xr_i2l (pc := 7) X dL_post_7 ?_
    refine xr_last (pc := 8) X (aa3) 1 hh3.1 hh3.2 dL_post_8 (fun σ6 => ?_)
    refine xr_goto (pc := 9) X 15 (by decide) dL_post_9 ?_
    refine xr_iconst (pc := 15) X dL_post_15 (v := 0) (by decide) ?_
    exact xr_iret (pc := 16) X (Nat.le_of_ble_eq_true rfl) (Nat.le_of_ble_eq_true rfl) dL_post_16
  refine xKX_if (fun hee7 => ?_) (fun hee7 => ?_)
  · subst hee7
    refine xKX_hat (hp := 12) (x_hat (E := "java/lang/IllegalArgumentException") (name := "java/lang/IllegalArgumentException") X hXT [] ⟨0, 9, 12, 13⟩ [] rfl (fun z hz => absurd hz List.not_mem_nil) (by decide) (by decide) wm_6_16 30 rfl rfl) ?_
    refine x_sub [] rfl ?_
    refine xr_astore_n (pc := 12) X (hf := rfl) (i := 3) [0] (Nat.le_of_ble_eq_true rfl) hnL rfl dL_post_12 ?_
    refine xr_iconst (pc := 13) X dL_post_13 (v := 1) (by decide) ?_
    exact xr_iret (pc := 14) X (Nat.le_of_ble_eq_true rfl) (Nat.le_of_ble_eq_true rfl) dL_post_14
  exact xKX_none
def F_L_write (oo1 : Nat) (pp2 : Int32) (pp3 : Int32) (aa4 : Nat) (σ : xS) : Option (Int32 × xS) :=
  xbH (F_X5_write oo1 pp2 pp3 σ) (fun (zz2 : Int32) (σ1 : xS) => if xin (0 : Int32) 1 = true then (xlet (xu σ1 aa4 (0 : Int32).toNatClampNeg zz2) (fun (σ6 : xS) => some ((0 : Int32), σ6))) else none)
 (fun (ee5 : Nat) (σ3 : xS) => (if ee5 = 1 then (some ((1 : Int32), σ3)) else (if ee5 = 2 then (some ((2 : Int32), σ3)) else (if ee5 = 3 then (some ((3 : Int32), σ3)) else none))))
abbrev rm_L_write : Room := { frames := 9, cells := 1, slots := 6, locals := 171 }
set_option maxHeartbeats 4000000 in
set_option maxRecDepth 100000 in
theorem c_L_write (l : Launch) {D : va_G} {ad : Nat → Nat} {N : Nat} {Sh : xSh} (hI : ∀ i j, i < N → j < N → ad i = ad j → i = j) (hst : l.stackTraces = false) (oo1 : Nat) (hh1 : xIs5 D ad N Sh oo1) (pp2 : Int32) (pp3 : Int32) (aa4 : Nat) (hh4 : xHas N Sh aa4 (shJ D 1)) (σ : xS) : xKI l yL_write (Cond.codeWith yL_write cL_write 5 (some .int) [(0, 10, 13, 28), (0, 10, 17, 13), (0, 10, 21, 15)] :: wG) rm_L_write 1 6 D ad N Sh [.ref (ad oo1), .int pp2, .int pp3, .ref (ad aa4)] σ (F_L_write oo1 pp2 pp3 aa4 σ) := by
  refine x_startH (own := RL) (maxL := 5) (by decide) rfl rfl rfl (Nat.le_of_ble_eq_true rfl) rfl hI (fun Γ hl hnL hXT X => ?_)
  subst hl
  unfold F_L_write
  refine xr_aload_n (pc := 0) X (i := 3) 3 rfl rfl dL_write_0 ?_
  refine xr_iconst (pc := 1) X dL_write_1 (v := 0) (by decide) ?_
  refine xr_aload_n (pc := 2) X (i := 0) 0 rfl rfl dL_write_2 ?_
  refine xr_iload_n (pc := 3) X (i := 1) 1 rfl rfl dL_write_3 ?_
  refine xr_iload_n (pc := 4) X (i := 2) 2 rfl rfl dL_write_4 ?_
  refine xr_callHVI (na := 2) (pc := 5) X (oo1) [.int pp2, .int pp3] _ (c_X5_write Γ.2.1 hI hst oo1 hh1 pp2 pp3 σ) (wG_V wm_24_8 wm_24_5 wm_24_6 wm_24_7 wm_1_2) rfl rfl rfl (by decide +kernel) ⟨Nat.le_of_ble_eq_true rfl, Nat.le_of_ble_eq_true rfl⟩ hh1.1.1 hh1.1.2 rfl (T := TX5) (C := RX5) rfl rfl rfl (Nat.le_of_ble_eq_true rfl) ⟨Nat.le_of_ble_eq_true rfl, Nat.le_of_ble_eq_true rfl⟩ dL_write_5 (fun zz2 σ1 => ?_) (fun ee5 σ3 qq4 => ?_)
  · refine xr_i2l (pc := 8) X dL_write_8 ?_
    refine xr_last (pc := 9) X (aa4) 1 hh4.1 hh4.2 dL_write_9 (fun σ6 => ?_)
    refine xr_goto (pc := 10) X 25 (by decide) dL_write_10 ?_
    refine xr_iconst (pc := 25) X dL_write_25 (v := 0) (by decide) ?_
    exact xr_iret (pc := 26) X (Nat.le_of_ble_eq_true rfl) (Nat.le_of_ble_eq_true rfl) dL_write_26
  refine xKX_if (fun hee7 => ?_) (fun hee7 => ?_)
  · subst hee7
    refine xKX_hat (hp := 13) (x_hat (E := "java/lang/IndexOutOfBoundsException") (name := "java/lang/IndexOutOfBoundsException") X hXT [] ⟨0, 10, 13, 28⟩ [⟨0, 10, 17, 13⟩, ⟨0, 10, 21, 15⟩] rfl (fun z hz => absurd hz List.not_mem_nil) (by decide) (by decide) wm_19_17 29 rfl rfl) ?_
    refine x_sub [] rfl ?_
    refine xr_astore (pc := 13) X (i := 4) [0] (Nat.le_of_ble_eq_true rfl) hnL rfl dL_write_13 ?_
    refine xr_iconst (pc := 15) X dL_write_15 (v := 1) (by decide) ?_
    exact xr_iret (pc := 16) X (Nat.le_of_ble_eq_true rfl) (Nat.le_of_ble_eq_true rfl) dL_write_16
  refine xKX_if (fun hee8 => ?_) (fun hee8 => ?_)
  · subst hee8
    refine xKX_hat (hp := 17) (x_hat (E := "java/lang/IllegalArgumentException") (name := "java/lang/IllegalArgumentException") X hXT [⟨0, 10, 13, 28⟩] ⟨0, 10, 17, 13⟩ [⟨0, 10, 21, 15⟩] rfl (fun z hz => by rw [List.mem_singleton.mp hz]; exact ⟨by decide, _, wm_19_17, (xNC_of X).2.2.1⟩) (by decide) (by decide) wm_6_16 30 rfl rfl) ?_
    refine x_sub [] rfl ?_
    refine xr_astore (pc := 17) X (i := 4) [0] (Nat.le_of_ble_eq_true rfl) hnL rfl dL_write_17 ?_
    refine xr_iconst (pc := 19) X dL_write_19 (v := 2) (by decide) ?_
    exact xr_iret (pc := 20) X (Nat.le_of_ble_eq_true rfl) (Nat.le_of_ble_eq_true rfl) dL_write_20
  refine xKX_if (fun hee9 => ?_) (fun hee9 => ?_)
  · subst hee9
    refine xKX_hat (hp := 21) (x_hat (E := "java/lang/IllegalStateException") (name := "java/lang/IllegalStateException") X hXT [⟨0, 10, 13, 28⟩, ⟨0, 10, 17, 13⟩] ⟨0, 10, 21, 15⟩ [] rfl (fun z hz => (List.mem_cons.mp hz).elim (fun h => by rw [h]; exact ⟨by decide, _, wm_19_17, (xNC_of X).2.2.2.2.1⟩) (fun h => by rw [List.mem_singleton.mp h]; exact ⟨by decide, _, wm_6_16, (xNC_of X).2.2.2.2.2⟩)) (by decide) (by decide) wm_6_17 31 rfl rfl) ?_
    refine x_sub [] rfl ?_
    refine xr_astore (pc := 21) X (i := 4) [0] (Nat.le_of_ble_eq_true rfl) hnL rfl dL_write_21 ?_
    refine xr_iconst (pc := 23) X dL_write_23 (v := 3) (by decide) ?_
    exact xr_iret (pc := 24) X (Nat.le_of_ble_eq_true rfl) (Nat.le_of_ble_eq_true rfl) dL_write_24
  exact xKX_none
def F_L_plan (oo1 : Nat) (pp2 : Int32) (pp3 : Int32) (pp4 : Int32) (aa5 : Nat) (σ : xS) : Option (Int32 × xS) :=
  xbH (F_X5_plan oo1 pp2 pp3 pp4 σ) (fun (zz2 : Int32) (σ1 : xS) => if xin (0 : Int32) 1 = true then (xlet (xu σ1 aa5 (0 : Int32).toNatClampNeg zz2) (fun (σ6 : xS) => some ((0 : Int32), σ6))) else none)
 (fun (ee5 : Nat) (σ3 : xS) => (if ee5 = 1 then (some ((1 : Int32), σ3)) else (if ee5 = 2 then (some ((2 : Int32), σ3)) else (if ee5 = 3 then (some ((3 : Int32), σ3)) else none))))
abbrev rm_L_plan : Room := { frames := 9, cells := 1, slots := 6, locals := 172 }
set_option maxHeartbeats 4000000 in
set_option maxRecDepth 100000 in
theorem c_L_plan (l : Launch) {D : va_G} {ad : Nat → Nat} {N : Nat} {Sh : xSh} (hI : ∀ i j, i < N → j < N → ad i = ad j → i = j) (hst : l.stackTraces = false) (oo1 : Nat) (hh1 : xIs5 D ad N Sh oo1) (pp2 : Int32) (pp3 : Int32) (pp4 : Int32) (aa5 : Nat) (hh5 : xHas N Sh aa5 (shJ D 1)) (σ : xS) : xKI l yL_plan (Cond.codeWith yL_plan cL_plan 6 (some .int) [(0, 12, 15, 28), (0, 12, 19, 13), (0, 12, 23, 15)] :: wG) rm_L_plan 1 6 D ad N Sh [.ref (ad oo1), .int pp2, .int pp3, .int pp4, .ref (ad aa5)] σ (F_L_plan oo1 pp2 pp3 pp4 aa5 σ) := by
  refine x_startH (own := RL) (maxL := 6) (by decide) rfl rfl rfl (Nat.le_of_ble_eq_true rfl) rfl hI (fun Γ hl hnL hXT X => ?_)
  subst hl
  unfold F_L_plan
  refine xr_aload (pc := 0) X (i := 4) 4 rfl dL_plan_0 ?_
  refine xr_iconst (pc := 2) X dL_plan_2 (v := 0) (by decide) ?_
  refine xr_aload_n (pc := 3) X (i := 0) 0 rfl rfl dL_plan_3 ?_
  refine xr_iload_n (pc := 4) X (i := 1) 1 rfl rfl dL_plan_4 ?_
  refine xr_iload_n (pc := 5) X (i := 2) 2 rfl rfl dL_plan_5 ?_
  refine xr_iload_n (pc := 6) X (i := 3) 3 rfl rfl dL_plan_6 ?_
  refine xr_callHVI (na := 3) (pc := 7) X (oo1) [.int pp2, .int pp3, .int pp4] _ (c_X5_plan Γ.2.1 hI hst oo1 hh1 pp2 pp3 pp4 σ) (wG_V wm_24_23 wm_24_20 wm_24_21 wm_24_22 wm_1_2) rfl rfl rfl (by decide +kernel) ⟨Nat.le_of_ble_eq_true rfl, Nat.le_of_ble_eq_true rfl⟩ hh1.1.1 hh1.1.2 rfl (T := TX5) (C := RX5) rfl rfl rfl (Nat.le_of_ble_eq_true rfl) ⟨Nat.le_of_ble_eq_true rfl, Nat.le_of_ble_eq_true rfl⟩ dL_plan_7 (fun zz2 σ1 => ?_) (fun ee5 σ3 qq4 => ?_)
  · refine xr_i2l (pc := 10) X dL_plan_10 ?_
    refine xr_last (pc := 11) X (aa5) 1 hh5.1 hh5.2 dL_plan_11 (fun σ6 => ?_)
    refine xr_goto (pc := 12) X 27 (by decide) dL_plan_12 ?_
    refine xr_iconst (pc := 27) X dL_plan_27 (v := 0) (by decide) ?_
    exact xr_iret (pc := 28) X (Nat.le_of_ble_eq_true rfl) (Nat.le_of_ble_eq_true rfl) dL_plan_28
  refine xKX_if (fun hee7 => ?_) (fun hee7 => ?_)
  · subst hee7
    refine xKX_hat (hp := 15) (x_hat (E := "java/lang/IndexOutOfBoundsException") (name := "java/lang/IndexOutOfBoundsException") X hXT [] ⟨0, 12, 15, 28⟩ [⟨0, 12, 19, 13⟩, ⟨0, 12, 23, 15⟩] rfl (fun z hz => absurd hz List.not_mem_nil) (by decide) (by decide) wm_19_17 29 rfl rfl) ?_
    refine x_sub [] rfl ?_
    refine xr_astore (pc := 15) X (i := 5) [0] (Nat.le_of_ble_eq_true rfl) hnL rfl dL_plan_15 ?_
    refine xr_iconst (pc := 17) X dL_plan_17 (v := 1) (by decide) ?_
    exact xr_iret (pc := 18) X (Nat.le_of_ble_eq_true rfl) (Nat.le_of_ble_eq_true rfl) dL_plan_18
  refine xKX_if (fun hee8 => ?_) (fun hee8 => ?_)
  · subst hee8
    refine xKX_hat (hp := 19) (x_hat (E := "java/lang/IllegalArgumentException") (name := "java/lang/IllegalArgumentException") X hXT [⟨0, 12, 15, 28⟩] ⟨0, 12, 19, 13⟩ [⟨0, 12, 23, 15⟩] rfl (fun z hz => by rw [List.mem_singleton.mp hz]; exact ⟨by decide, _, wm_19_17, (xNC_of X).2.2.1⟩) (by decide) (by decide) wm_6_16 30 rfl rfl) ?_
    refine x_sub [] rfl ?_
    refine xr_astore (pc := 19) X (i := 5) [0] (Nat.le_of_ble_eq_true rfl) hnL rfl dL_plan_19 ?_
    refine xr_iconst (pc := 21) X dL_plan_21 (v := 2) (by decide) ?_
    exact xr_iret (pc := 22) X (Nat.le_of_ble_eq_true rfl) (Nat.le_of_ble_eq_true rfl) dL_plan_22
  refine xKX_if (fun hee9 => ?_) (fun hee9 => ?_)
  · subst hee9
    refine xKX_hat (hp := 23) (x_hat (E := "java/lang/IllegalStateException") (name := "java/lang/IllegalStateException") X hXT [⟨0, 12, 15, 28⟩, ⟨0, 12, 19, 13⟩] ⟨0, 12, 23, 15⟩ [] rfl (fun z hz => (List.mem_cons.mp hz).elim (fun h => by rw [h]; exact ⟨by decide, _, wm_19_17, (xNC_of X).2.2.2.2.1⟩) (fun h => by rw [List.mem_singleton.mp h]; exact ⟨by decide, _, wm_6_16, (xNC_of X).2.2.2.2.2⟩)) (by decide) (by decide) wm_6_17 31 rfl rfl) ?_
    refine x_sub [] rfl ?_
    refine xr_astore (pc := 23) X (i := 5) [0] (Nat.le_of_ble_eq_true rfl) hnL rfl dL_plan_23 ?_
    refine xr_iconst (pc := 25) X dL_plan_25 (v := 3) (by decide) ?_
    exact xr_iret (pc := 26) X (Nat.le_of_ble_eq_true rfl) (Nat.le_of_ble_eq_true rfl) dL_plan_26
  exact xKX_none
def F_L_hold (oo1 : Nat) (pp2 : Int32) (pp3 : Int32) (aa4 : Nat) (σ : xS) : Option (Int32 × xS) :=
  xbH (F_X5_hold oo1 pp2 pp3 σ) (fun (zz2 : Int32) (σ1 : xS) => if xin (0 : Int32) 1 = true then (xlet (xu σ1 aa4 (0 : Int32).toNatClampNeg zz2) (fun (σ6 : xS) => some ((0 : Int32), σ6))) else none)
 (fun (ee5 : Nat) (σ3 : xS) => (if ee5 = 1 then (some ((1 : Int32), σ3)) else none))
abbrev rm_L_hold : Room := { frames := 9, cells := 1, slots := 6, locals := 171 }
set_option maxHeartbeats 4000000 in
set_option maxRecDepth 100000 in
theorem c_L_hold (l : Launch) {D : va_G} {ad : Nat → Nat} {N : Nat} {Sh : xSh} (hI : ∀ i j, i < N → j < N → ad i = ad j → i = j) (hst : l.stackTraces = false) (oo1 : Nat) (hh1 : xIs5 D ad N Sh oo1) (pp2 : Int32) (pp3 : Int32) (aa4 : Nat) (hh4 : xHas N Sh aa4 (shJ D 1)) (σ : xS) : xKI l yL_hold (Cond.codeWith yL_hold cL_hold 5 (some .int) [(0, 10, 13, 28)] :: wG) rm_L_hold 1 6 D ad N Sh [.ref (ad oo1), .int pp2, .int pp3, .ref (ad aa4)] σ (F_L_hold oo1 pp2 pp3 aa4 σ) := by
  refine x_startH (own := RL) (maxL := 5) (by decide) rfl rfl rfl (Nat.le_of_ble_eq_true rfl) rfl hI (fun Γ hl hnL hXT X => ?_)
  subst hl
  unfold F_L_hold
  refine xr_aload_n (pc := 0) X (i := 3) 3 rfl rfl dL_hold_0 ?_
  refine xr_iconst (pc := 1) X dL_hold_1 (v := 0) (by decide) ?_
  refine xr_aload_n (pc := 2) X (i := 0) 0 rfl rfl dL_hold_2 ?_
  refine xr_iload_n (pc := 3) X (i := 1) 1 rfl rfl dL_hold_3 ?_
  refine xr_iload_n (pc := 4) X (i := 2) 2 rfl rfl dL_hold_4 ?_
  refine xr_callHVI (na := 2) (pc := 5) X (oo1) [.int pp2, .int pp3] _ (c_X5_hold Γ.2.1 hI hst oo1 hh1 pp2 pp3 σ) (wG_V wm_25_11 wm_25_8 wm_25_9 wm_25_10 wm_1_2) rfl rfl rfl (by decide +kernel) ⟨Nat.le_of_ble_eq_true rfl, Nat.le_of_ble_eq_true rfl⟩ hh1.1.1 hh1.1.2 rfl (T := TX5) (C := RX5) rfl rfl rfl (Nat.le_of_ble_eq_true rfl) ⟨Nat.le_of_ble_eq_true rfl, Nat.le_of_ble_eq_true rfl⟩ dL_hold_5 (fun zz2 σ1 => ?_) (fun ee5 σ3 qq4 => ?_)
  · refine xr_i2l (pc := 8) X dL_hold_8 ?_
    refine xr_last (pc := 9) X (aa4) 1 hh4.1 hh4.2 dL_hold_9 (fun σ6 => ?_)
    refine xr_goto (pc := 10) X 17 (by decide) dL_hold_10 ?_
    refine xr_iconst (pc := 17) X dL_hold_17 (v := 0) (by decide) ?_
    exact xr_iret (pc := 18) X (Nat.le_of_ble_eq_true rfl) (Nat.le_of_ble_eq_true rfl) dL_hold_18
  refine xKX_if (fun hee7 => ?_) (fun hee7 => ?_)
  · subst hee7
    refine xKX_hat (hp := 13) (x_hat (E := "java/lang/IndexOutOfBoundsException") (name := "java/lang/IndexOutOfBoundsException") X hXT [] ⟨0, 10, 13, 28⟩ [] rfl (fun z hz => absurd hz List.not_mem_nil) (by decide) (by decide) wm_19_17 29 rfl rfl) ?_
    refine x_sub [] rfl ?_
    refine xr_astore (pc := 13) X (i := 4) [0] (Nat.le_of_ble_eq_true rfl) hnL rfl dL_hold_13 ?_
    refine xr_iconst (pc := 15) X dL_hold_15 (v := 1) (by decide) ?_
    exact xr_iret (pc := 16) X (Nat.le_of_ble_eq_true rfl) (Nat.le_of_ble_eq_true rfl) dL_hold_16
  exact xKX_none
def F_L_flush (oo1 : Nat) (pp2 : Int32) (aa3 : Nat) (σ : xS) : Option (Int32 × xS) :=
  xbH (F_X5_flush oo1 pp2 σ) (fun (zz2 : Int32) (σ1 : xS) => if xin (0 : Int32) 1 = true then (xlet (xu σ1 aa3 (0 : Int32).toNatClampNeg zz2) (fun (σ6 : xS) => some ((0 : Int32), σ6))) else none)
 (fun (ee5 : Nat) (σ3 : xS) => (if ee5 = 1 then (some ((1 : Int32), σ3)) else none))
abbrev rm_L_flush : Room := { frames := 9, cells := 1, slots := 6, locals := 170 }
set_option maxHeartbeats 4000000 in
set_option maxRecDepth 100000 in
theorem c_L_flush (l : Launch) {D : va_G} {ad : Nat → Nat} {N : Nat} {Sh : xSh} (hI : ∀ i j, i < N → j < N → ad i = ad j → i = j) (hst : l.stackTraces = false) (oo1 : Nat) (hh1 : xIs5 D ad N Sh oo1) (pp2 : Int32) (aa3 : Nat) (hh3 : xHas N Sh aa3 (shJ D 1)) (σ : xS) : xKI l yL_flush (Cond.codeWith yL_flush cL_flush 4 (some .int) [(0, 9, 12, 28)] :: wG) rm_L_flush 1 6 D ad N Sh [.ref (ad oo1), .int pp2, .ref (ad aa3)] σ (F_L_flush oo1 pp2 aa3 σ) := by
  refine x_startH (own := RL) (maxL := 4) (by decide) rfl rfl rfl (Nat.le_of_ble_eq_true rfl) rfl hI (fun Γ hl hnL hXT X => ?_)
  subst hl
  unfold F_L_flush
  refine xr_aload_n (pc := 0) X (i := 2) 2 rfl rfl dL_flush_0 ?_
  refine xr_iconst (pc := 1) X dL_flush_1 (v := 0) (by decide) ?_
  refine xr_aload_n (pc := 2) X (i := 0) 0 rfl rfl dL_flush_2 ?_
  refine xr_iload_n (pc := 3) X (i := 1) 1 rfl rfl dL_flush_3 ?_
  refine xr_callHVI (na := 1) (pc := 4) X (oo1) [.int pp2] _ (c_X5_flush Γ.2.1 hI hst oo1 hh1 pp2 σ) (wG_V wm_25_22 wm_25_19 wm_25_20 wm_25_21 wm_1_2) rfl rfl rfl (by decide +kernel) ⟨Nat.le_of_ble_eq_true rfl, Nat.le_of_ble_eq_true rfl⟩ hh1.1.1 hh1.1.2 rfl (T := TX5) (C := RX5) rfl rfl rfl (Nat.le_of_ble_eq_true rfl) ⟨Nat.le_of_ble_eq_true rfl, Nat.le_of_ble_eq_true rfl⟩ dL_flush_4 (fun zz2 σ1 => ?_) (fun ee5 σ3 qq4 => ?_)
  · refine xr_i2l (pc := 7) X dL_flush_7 ?_
    refine xr_last (pc := 8) X (aa3) 1 hh3.1 hh3.2 dL_flush_8 (fun σ6 => ?_)
    refine xr_goto (pc := 9) X 15 (by decide) dL_flush_9 ?_
    refine xr_iconst (pc := 15) X dL_flush_15 (v := 0) (by decide) ?_
    exact xr_iret (pc := 16) X (Nat.le_of_ble_eq_true rfl) (Nat.le_of_ble_eq_true rfl) dL_flush_16
  refine xKX_if (fun hee7 => ?_) (fun hee7 => ?_)
  · subst hee7
    refine xKX_hat (hp := 12) (x_hat (E := "java/lang/IndexOutOfBoundsException") (name := "java/lang/IndexOutOfBoundsException") X hXT [] ⟨0, 9, 12, 28⟩ [] rfl (fun z hz => absurd hz List.not_mem_nil) (by decide) (by decide) wm_19_17 29 rfl rfl) ?_
    refine x_sub [] rfl ?_
    refine xr_astore_n (pc := 12) X (hf := rfl) (i := 3) [0] (Nat.le_of_ble_eq_true rfl) hnL rfl dL_flush_12 ?_
    refine xr_iconst (pc := 13) X dL_flush_13 (v := 1) (by decide) ?_
    exact xr_iret (pc := 14) X (Nat.le_of_ble_eq_true rfl) (Nat.le_of_ble_eq_true rfl) dL_flush_14
  exact xKX_none
def F_L_ticks (oo1 : Nat) (pp2 : Int32) (aa3 : Nat) (σ : xS) : Option (Int32 × xS) :=
  xbH (F_X5_ticks oo1 pp2 σ) (fun (zz2 : Int32) (σ1 : xS) => if xin (0 : Int32) 1 = true then (xlet (xu σ1 aa3 (0 : Int32).toNatClampNeg zz2) (fun (σ6 : xS) => some ((0 : Int32), σ6))) else none)
 (fun (ee5 : Nat) (σ3 : xS) => (if ee5 = 2 then (some ((1 : Int32), σ3)) else (if ee5 = 3 then (some ((2 : Int32), σ3)) else none)))
abbrev rm_L_ticks : Room := { frames := 9, cells := 3, slots := 18, locals := 170 }
set_option maxHeartbeats 4000000 in
set_option maxRecDepth 100000 in
theorem c_L_ticks (l : Launch) {D : va_G} {ad : Nat → Nat} {N : Nat} {Sh : xSh} (hI : ∀ i j, i < N → j < N → ad i = ad j → i = j) (hst : l.stackTraces = false) (oo1 : Nat) (hh1 : xIs5 D ad N Sh oo1) (pp2 : Int32) (aa3 : Nat) (hh3 : xHas N Sh aa3 (shJ D 1)) (σ : xS) : xKI l yL_ticks (Cond.codeWith yL_ticks cL_ticks 4 (some .int) [(0, 9, 12, 13), (0, 9, 15, 15)] :: wG) rm_L_ticks 3 18 D ad N Sh [.ref (ad oo1), .int pp2, .ref (ad aa3)] σ (F_L_ticks oo1 pp2 aa3 σ) := by
  refine x_startH (own := RL) (maxL := 4) (by decide) rfl rfl rfl (Nat.le_of_ble_eq_true rfl) rfl hI (fun Γ hl hnL hXT X => ?_)
  subst hl
  unfold F_L_ticks
  refine xr_aload_n (pc := 0) X (i := 2) 2 rfl rfl dL_ticks_0 ?_
  refine xr_iconst (pc := 1) X dL_ticks_1 (v := 0) (by decide) ?_
  refine xr_aload_n (pc := 2) X (i := 0) 0 rfl rfl dL_ticks_2 ?_
  refine xr_iload_n (pc := 3) X (i := 1) 1 rfl rfl dL_ticks_3 ?_
  refine xr_callHVI (na := 1) (pc := 4) X (oo1) [.int pp2] _ (c_X5_ticks Γ.2.1 hI hst oo1 hh1 pp2 σ) (wG_V wm_26_9 wm_26_6 wm_26_7 wm_26_8 wm_1_2) rfl rfl rfl (by decide +kernel) ⟨Nat.le_of_ble_eq_true rfl, Nat.le_of_ble_eq_true rfl⟩ hh1.1.1 hh1.1.2 rfl (T := TX5) (C := RX5) rfl rfl rfl (Nat.le_of_ble_eq_true rfl) ⟨Nat.le_of_ble_eq_true rfl, Nat.le_of_ble_eq_true rfl⟩ dL_ticks_4 (fun zz2 σ1 => ?_) (fun ee5 σ3 qq4 => ?_)
  · refine xr_i2l (pc := 7) X dL_ticks_7 ?_
    refine xr_last (pc := 8) X (aa3) 1 hh3.1 hh3.2 dL_ticks_8 (fun σ6 => ?_)
    refine xr_goto (pc := 9) X 18 (by decide) dL_ticks_9 ?_
    refine xr_iconst (pc := 18) X dL_ticks_18 (v := 0) (by decide) ?_
    exact xr_iret (pc := 19) X (Nat.le_of_ble_eq_true rfl) (Nat.le_of_ble_eq_true rfl) dL_ticks_19
  refine xKX_if (fun hee7 => ?_) (fun hee7 => ?_)
  · subst hee7
    refine xKX_hat (hp := 12) (x_hat (E := "java/lang/IllegalArgumentException") (name := "java/lang/IllegalArgumentException") X hXT [] ⟨0, 9, 12, 13⟩ [⟨0, 9, 15, 15⟩] rfl (fun z hz => absurd hz List.not_mem_nil) (by decide) (by decide) wm_6_16 30 rfl rfl) ?_
    refine x_sub [] rfl ?_
    refine xr_astore_n (pc := 12) X (hf := rfl) (i := 3) [0] (Nat.le_of_ble_eq_true rfl) hnL rfl dL_ticks_12 ?_
    refine xr_iconst (pc := 13) X dL_ticks_13 (v := 1) (by decide) ?_
    exact xr_iret (pc := 14) X (Nat.le_of_ble_eq_true rfl) (Nat.le_of_ble_eq_true rfl) dL_ticks_14
  refine xKX_if (fun hee8 => ?_) (fun hee8 => ?_)
  · subst hee8
    refine xKX_hat (hp := 15) (x_hat (E := "java/lang/IllegalStateException") (name := "java/lang/IllegalStateException") X hXT [⟨0, 9, 12, 13⟩] ⟨0, 9, 15, 15⟩ [] rfl (fun z hz => by rw [List.mem_singleton.mp hz]; exact ⟨by decide, _, wm_6_16, (xNC_of X).2.2.2.2.2⟩) (by decide) (by decide) wm_6_17 31 rfl rfl) ?_
    refine x_sub [] rfl ?_
    refine xr_astore_n (pc := 15) X (hf := rfl) (i := 3) [0] (Nat.le_of_ble_eq_true rfl) hnL rfl dL_ticks_15 ?_
    refine xr_iconst (pc := 16) X dL_ticks_16 (v := 2) (by decide) ?_
    exact xr_iret (pc := 17) X (Nat.le_of_ble_eq_true rfl) (Nat.le_of_ble_eq_true rfl) dL_ticks_17
  exact xKX_none
def F_L_set (oo1 : Nat) (pp2 : Int32) (pp3 : Int32) (aa4 : Nat) (σ : xS) : Option (Int32 × xS) :=
  xbH (F_X5_set oo1 pp2 pp3 σ) (fun (zz2 : Int32) (σ1 : xS) => if xin (0 : Int32) 1 = true then (xlet (xu σ1 aa4 (0 : Int32).toNatClampNeg zz2) (fun (σ6 : xS) => some ((0 : Int32), σ6))) else none)
 (fun (ee5 : Nat) (σ3 : xS) => (if ee5 = 2 then (some ((1 : Int32), σ3)) else none))
abbrev rm_L_set : Room := { frames := 9, cells := 1, slots := 6, locals := 171 }
set_option maxHeartbeats 4000000 in
set_option maxRecDepth 100000 in
theorem c_L_set (l : Launch) {D : va_G} {ad : Nat → Nat} {N : Nat} {Sh : xSh} (hI : ∀ i j, i < N → j < N → ad i = ad j → i = j) (hst : l.stackTraces = false) (oo1 : Nat) (hh1 : xIs5 D ad N Sh oo1) (pp2 : Int32) (pp3 : Int32) (aa4 : Nat) (hh4 : xHas N Sh aa4 (shJ D 1)) (σ : xS) : xKI l yL_set (Cond.codeWith yL_set cL_set 5 (some .int) [(0, 10, 13, 13)] :: wG) rm_L_set 1 6 D ad N Sh [.ref (ad oo1), .int pp2, .int pp3, .ref (ad aa4)] σ (F_L_set oo1 pp2 pp3 aa4 σ) := by
  refine x_startH (own := RL) (maxL := 5) (by decide) rfl rfl rfl (Nat.le_of_ble_eq_true rfl) rfl hI (fun Γ hl hnL hXT X => ?_)
  subst hl
  unfold F_L_set
  refine xr_aload_n (pc := 0) X (i := 3) 3 rfl rfl dL_set_0 ?_
  refine xr_iconst (pc := 1) X dL_set_1 (v := 0) (by decide) ?_
  refine xr_aload_n (pc := 2) X (i := 0) 0 rfl rfl dL_set_2 ?_
  refine xr_iload_n (pc := 3) X (i := 1) 1 rfl rfl dL_set_3 ?_
  refine xr_iload_n (pc := 4) X (i := 2) 2 rfl rfl dL_set_4 ?_
  refine xr_callHVI (na := 2) (pc := 5) X (oo1) [.int pp2, .int pp3] _ (c_X5_set Γ.2.1 hI hst oo1 hh1 pp2 pp3 σ) (wG_V wm_26_22 wm_26_19 wm_26_20 wm_26_21 wm_1_2) rfl rfl rfl (by decide +kernel) ⟨Nat.le_of_ble_eq_true rfl, Nat.le_of_ble_eq_true rfl⟩ hh1.1.1 hh1.1.2 rfl (T := TX5) (C := RX5) rfl rfl rfl (Nat.le_of_ble_eq_true rfl) ⟨Nat.le_of_ble_eq_true rfl, Nat.le_of_ble_eq_true rfl⟩ dL_set_5 (fun zz2 σ1 => ?_) (fun ee5 σ3 qq4 => ?_)
  · refine xr_i2l (pc := 8) X dL_set_8 ?_
    refine xr_last (pc := 9) X (aa4) 1 hh4.1 hh4.2 dL_set_9 (fun σ6 => ?_)
    refine xr_goto (pc := 10) X 17 (by decide) dL_set_10 ?_
    refine xr_iconst (pc := 17) X dL_set_17 (v := 0) (by decide) ?_
    exact xr_iret (pc := 18) X (Nat.le_of_ble_eq_true rfl) (Nat.le_of_ble_eq_true rfl) dL_set_18
  refine xKX_if (fun hee7 => ?_) (fun hee7 => ?_)
  · subst hee7
    refine xKX_hat (hp := 13) (x_hat (E := "java/lang/IllegalArgumentException") (name := "java/lang/IllegalArgumentException") X hXT [] ⟨0, 10, 13, 13⟩ [] rfl (fun z hz => absurd hz List.not_mem_nil) (by decide) (by decide) wm_6_16 30 rfl rfl) ?_
    refine x_sub [] rfl ?_
    refine xr_astore (pc := 13) X (i := 4) [0] (Nat.le_of_ble_eq_true rfl) hnL rfl dL_set_13 ?_
    refine xr_iconst (pc := 15) X dL_set_15 (v := 1) (by decide) ?_
    exact xr_iret (pc := 16) X (Nat.le_of_ble_eq_true rfl) (Nat.le_of_ble_eq_true rfl) dL_set_16
  exact xKX_none
def F_L_undo (oo1 : Nat) (aa2 : Nat) (σ : xS) : Option (Int32 × xS) :=
  xbH (F_X5_undo oo1 σ) (fun (zz2 : Int32) (σ1 : xS) => if xin (0 : Int32) 1 = true then (xlet (xu σ1 aa2 (0 : Int32).toNatClampNeg zz2) (fun (σ6 : xS) => some ((0 : Int32), σ6))) else none)
 (fun (ee5 : Nat) (σ3 : xS) => (if ee5 = 3 then (some ((1 : Int32), σ3)) else none))
abbrev rm_L_undo : Room := { frames := 9, cells := 1, slots := 6, locals := 142 }
set_option maxHeartbeats 4000000 in
set_option maxRecDepth 100000 in
theorem c_L_undo (l : Launch) {D : va_G} {ad : Nat → Nat} {N : Nat} {Sh : xSh} (hI : ∀ i j, i < N → j < N → ad i = ad j → i = j) (hst : l.stackTraces = false) (oo1 : Nat) (hh1 : xIs5 D ad N Sh oo1) (aa2 : Nat) (hh2 : xHas N Sh aa2 (shJ D 1)) (σ : xS) : xKI l yL_undo (Cond.codeWith yL_undo cL_undo 3 (some .int) [(0, 8, 11, 15)] :: wG) rm_L_undo 1 6 D ad N Sh [.ref (ad oo1), .ref (ad aa2)] σ (F_L_undo oo1 aa2 σ) := by
  refine x_startH (own := RL) (maxL := 3) (by decide) rfl rfl rfl (Nat.le_of_ble_eq_true rfl) rfl hI (fun Γ hl hnL hXT X => ?_)
  subst hl
  unfold F_L_undo
  refine xr_aload_n (pc := 0) X (i := 1) 1 rfl rfl dL_undo_0 ?_
  refine xr_iconst (pc := 1) X dL_undo_1 (v := 0) (by decide) ?_
  refine xr_aload_n (pc := 2) X (i := 0) 0 rfl rfl dL_undo_2 ?_
  refine xr_callHVI (na := 0) (pc := 3) X (oo1) [] _ (c_X5_undo Γ.2.1 hI hst oo1 hh1 σ) (wG_V wm_27_13 wm_27_10 wm_27_11 wm_27_12 wm_1_2) rfl rfl rfl (by decide +kernel) ⟨Nat.le_of_ble_eq_true rfl, Nat.le_of_ble_eq_true rfl⟩ hh1.1.1 hh1.1.2 rfl (T := TX5) (C := RX5) rfl rfl rfl (Nat.le_of_ble_eq_true rfl) ⟨Nat.le_of_ble_eq_true rfl, Nat.le_of_ble_eq_true rfl⟩ dL_undo_3 (fun zz2 σ1 => ?_) (fun ee5 σ3 qq4 => ?_)
  · refine xr_i2l (pc := 6) X dL_undo_6 ?_
    refine xr_last (pc := 7) X (aa2) 1 hh2.1 hh2.2 dL_undo_7 (fun σ6 => ?_)
    refine xr_goto (pc := 8) X 14 (by decide) dL_undo_8 ?_
    refine xr_iconst (pc := 14) X dL_undo_14 (v := 0) (by decide) ?_
    exact xr_iret (pc := 15) X (Nat.le_of_ble_eq_true rfl) (Nat.le_of_ble_eq_true rfl) dL_undo_15
  refine xKX_if (fun hee7 => ?_) (fun hee7 => ?_)
  · subst hee7
    refine xKX_hat (hp := 11) (x_hat (E := "java/lang/IllegalStateException") (name := "java/lang/IllegalStateException") X hXT [] ⟨0, 8, 11, 15⟩ [] rfl (fun z hz => absurd hz List.not_mem_nil) (by decide) (by decide) wm_6_17 31 rfl rfl) ?_
    refine x_sub [] rfl ?_
    refine xr_astore_n (pc := 11) X (hf := rfl) (i := 2) [0] (Nat.le_of_ble_eq_true rfl) hnL rfl dL_undo_11 ?_
    refine xr_iconst (pc := 12) X dL_undo_12 (v := 1) (by decide) ?_
    exact xr_iret (pc := 13) X (Nat.le_of_ble_eq_true rfl) (Nat.le_of_ble_eq_true rfl) dL_undo_13
  exact xKX_none
def F_L_doneIn (oo1 : Nat) (pp2 : Int32) (aa3 : Nat) (σ : xS) : Option (Int32 × xS) :=
  xbH (F_X5_doneIn oo1 pp2 σ) (fun (zz2 : Int32) (σ1 : xS) => if xin (0 : Int32) 1 = true then (xlet (xu σ1 aa3 (0 : Int32).toNatClampNeg zz2) (fun (σ6 : xS) => some ((0 : Int32), σ6))) else none)
 (fun (ee5 : Nat) (σ3 : xS) => (if ee5 = 1 then (some ((1 : Int32), σ3)) else none))
abbrev rm_L_doneIn : Room := { frames := 8, cells := 1, slots := 6, locals := 145 }
set_option maxHeartbeats 4000000 in
set_option maxRecDepth 100000 in
theorem c_L_doneIn (l : Launch) {D : va_G} {ad : Nat → Nat} {N : Nat} {Sh : xSh} (hI : ∀ i j, i < N → j < N → ad i = ad j → i = j) (hst : l.stackTraces = false) (oo1 : Nat) (hh1 : xIs5 D ad N Sh oo1) (pp2 : Int32) (aa3 : Nat) (hh3 : xHas N Sh aa3 (shJ D 1)) (σ : xS) : xKI l yL_doneIn (Cond.codeWith yL_doneIn cL_doneIn 4 (some .int) [(0, 9, 12, 28)] :: wG) rm_L_doneIn 1 6 D ad N Sh [.ref (ad oo1), .int pp2, .ref (ad aa3)] σ (F_L_doneIn oo1 pp2 aa3 σ) := by
  refine x_startH (own := RL) (maxL := 4) (by decide) rfl rfl rfl (Nat.le_of_ble_eq_true rfl) rfl hI (fun Γ hl hnL hXT X => ?_)
  subst hl
  unfold F_L_doneIn
  refine xr_aload_n (pc := 0) X (i := 2) 2 rfl rfl dL_doneIn_0 ?_
  refine xr_iconst (pc := 1) X dL_doneIn_1 (v := 0) (by decide) ?_
  refine xr_aload_n (pc := 2) X (i := 0) 0 rfl rfl dL_doneIn_2 ?_
  refine xr_iload_n (pc := 3) X (i := 1) 1 rfl rfl dL_doneIn_3 ?_
  refine xr_callHVI (na := 1) (pc := 4) X (oo1) [.int pp2] _ (c_X5_doneIn Γ.2.1 hI hst oo1 hh1 pp2 σ) (wG_V wm_28_4 wm_28_1 wm_28_2 wm_28_3 wm_1_2) rfl rfl rfl (by decide +kernel) ⟨Nat.le_of_ble_eq_true rfl, Nat.le_of_ble_eq_true rfl⟩ hh1.1.1 hh1.1.2 rfl (T := TX5) (C := RX5) rfl rfl rfl (Nat.le_of_ble_eq_true rfl) ⟨Nat.le_of_ble_eq_true rfl, Nat.le_of_ble_eq_true rfl⟩ dL_doneIn_4 (fun zz2 σ1 => ?_) (fun ee5 σ3 qq4 => ?_)
  · refine xr_i2l (pc := 7) X dL_doneIn_7 ?_
    refine xr_last (pc := 8) X (aa3) 1 hh3.1 hh3.2 dL_doneIn_8 (fun σ6 => ?_)
    refine xr_goto (pc := 9) X 15 (by decide) dL_doneIn_9 ?_
    refine xr_iconst (pc := 15) X dL_doneIn_15 (v := 0) (by decide) ?_
    exact xr_iret (pc := 16) X (Nat.le_of_ble_eq_true rfl) (Nat.le_of_ble_eq_true rfl) dL_doneIn_16
  refine xKX_if (fun hee7 => ?_) (fun hee7 => ?_)
  · subst hee7
    refine xKX_hat (hp := 12) (x_hat (E := "java/lang/IndexOutOfBoundsException") (name := "java/lang/IndexOutOfBoundsException") X hXT [] ⟨0, 9, 12, 28⟩ [] rfl (fun z hz => absurd hz List.not_mem_nil) (by decide) (by decide) wm_19_17 29 rfl rfl) ?_
    refine x_sub [] rfl ?_
    refine xr_astore_n (pc := 12) X (hf := rfl) (i := 3) [0] (Nat.le_of_ble_eq_true rfl) hnL rfl dL_doneIn_12 ?_
    refine xr_iconst (pc := 13) X dL_doneIn_13 (v := 1) (by decide) ?_
    exact xr_iret (pc := 14) X (Nat.le_of_ble_eq_true rfl) (Nat.le_of_ble_eq_true rfl) dL_doneIn_14
  exact xKX_none
def F_L_thereIn (oo1 : Nat) (pp2 : Int32) (pp3 : Int32) (aa4 : Nat) (σ : xS) : Option (Int32 × xS) :=
  xbH (F_X5_thereIn oo1 pp2 pp3 σ) (fun (zz2 : Int32) (σ1 : xS) => if xin (0 : Int32) 1 = true then (xlet (xu σ1 aa4 (0 : Int32).toNatClampNeg zz2) (fun (σ6 : xS) => some ((0 : Int32), σ6))) else none)
 (fun (ee5 : Nat) (σ3 : xS) => (if ee5 = 1 then (some ((1 : Int32), σ3)) else (if ee5 = 2 then (some ((2 : Int32), σ3)) else none)))
abbrev rm_L_thereIn : Room := { frames := 8, cells := 1, slots := 6, locals := 148 }
set_option maxHeartbeats 4000000 in
set_option maxRecDepth 100000 in
theorem c_L_thereIn (l : Launch) {D : va_G} {ad : Nat → Nat} {N : Nat} {Sh : xSh} (hI : ∀ i j, i < N → j < N → ad i = ad j → i = j) (hst : l.stackTraces = false) (oo1 : Nat) (hh1 : xIs5 D ad N Sh oo1) (pp2 : Int32) (pp3 : Int32) (aa4 : Nat) (hh4 : xHas N Sh aa4 (shJ D 1)) (σ : xS) : xKI l yL_thereIn (Cond.codeWith yL_thereIn cL_thereIn 5 (some .int) [(0, 10, 13, 28), (0, 10, 17, 13)] :: wG) rm_L_thereIn 1 6 D ad N Sh [.ref (ad oo1), .int pp2, .int pp3, .ref (ad aa4)] σ (F_L_thereIn oo1 pp2 pp3 aa4 σ) := by
  refine x_startH (own := RL) (maxL := 5) (by decide) rfl rfl rfl (Nat.le_of_ble_eq_true rfl) rfl hI (fun Γ hl hnL hXT X => ?_)
  subst hl
  unfold F_L_thereIn
  refine xr_aload_n (pc := 0) X (i := 3) 3 rfl rfl dL_thereIn_0 ?_
  refine xr_iconst (pc := 1) X dL_thereIn_1 (v := 0) (by decide) ?_
  refine xr_aload_n (pc := 2) X (i := 0) 0 rfl rfl dL_thereIn_2 ?_
  refine xr_iload_n (pc := 3) X (i := 1) 1 rfl rfl dL_thereIn_3 ?_
  refine xr_iload_n (pc := 4) X (i := 2) 2 rfl rfl dL_thereIn_4 ?_
  refine xr_callHVI (na := 2) (pc := 5) X (oo1) [.int pp2, .int pp3] _ (c_X5_thereIn Γ.2.1 hI hst oo1 hh1 pp2 pp3 σ) (wG_V wm_29_10 wm_29_7 wm_29_8 wm_29_9 wm_1_2) rfl rfl rfl (by decide +kernel) ⟨Nat.le_of_ble_eq_true rfl, Nat.le_of_ble_eq_true rfl⟩ hh1.1.1 hh1.1.2 rfl (T := TX5) (C := RX5) rfl rfl rfl (Nat.le_of_ble_eq_true rfl) ⟨Nat.le_of_ble_eq_true rfl, Nat.le_of_ble_eq_true rfl⟩ dL_thereIn_5 (fun zz2 σ1 => ?_) (fun ee5 σ3 qq4 => ?_)
  · refine xr_i2l (pc := 8) X dL_thereIn_8 ?_
    refine xr_last (pc := 9) X (aa4) 1 hh4.1 hh4.2 dL_thereIn_9 (fun σ6 => ?_)
    refine xr_goto (pc := 10) X 21 (by decide) dL_thereIn_10 ?_
    refine xr_iconst (pc := 21) X dL_thereIn_21 (v := 0) (by decide) ?_
    exact xr_iret (pc := 22) X (Nat.le_of_ble_eq_true rfl) (Nat.le_of_ble_eq_true rfl) dL_thereIn_22
  refine xKX_if (fun hee7 => ?_) (fun hee7 => ?_)
  · subst hee7
    refine xKX_hat (hp := 13) (x_hat (E := "java/lang/IndexOutOfBoundsException") (name := "java/lang/IndexOutOfBoundsException") X hXT [] ⟨0, 10, 13, 28⟩ [⟨0, 10, 17, 13⟩] rfl (fun z hz => absurd hz List.not_mem_nil) (by decide) (by decide) wm_19_17 29 rfl rfl) ?_
    refine x_sub [] rfl ?_
    refine xr_astore (pc := 13) X (i := 4) [0] (Nat.le_of_ble_eq_true rfl) hnL rfl dL_thereIn_13 ?_
    refine xr_iconst (pc := 15) X dL_thereIn_15 (v := 1) (by decide) ?_
    exact xr_iret (pc := 16) X (Nat.le_of_ble_eq_true rfl) (Nat.le_of_ble_eq_true rfl) dL_thereIn_16
  refine xKX_if (fun hee8 => ?_) (fun hee8 => ?_)
  · subst hee8
    refine xKX_hat (hp := 17) (x_hat (E := "java/lang/IllegalArgumentException") (name := "java/lang/IllegalArgumentException") X hXT [⟨0, 10, 13, 28⟩] ⟨0, 10, 17, 13⟩ [] rfl (fun z hz => by rw [List.mem_singleton.mp hz]; exact ⟨by decide, _, wm_19_17, (xNC_of X).2.2.1⟩) (by decide) (by decide) wm_6_16 30 rfl rfl) ?_
    refine x_sub [] rfl ?_
    refine xr_astore (pc := 17) X (i := 4) [0] (Nat.le_of_ble_eq_true rfl) hnL rfl dL_thereIn_17 ?_
    refine xr_iconst (pc := 19) X dL_thereIn_19 (v := 2) (by decide) ?_
    exact xr_iret (pc := 20) X (Nat.le_of_ble_eq_true rfl) (Nat.le_of_ble_eq_true rfl) dL_thereIn_20
  exact xKX_none
def F_L_ifHeld (oo1 : Nat) (pp2 : Int32) (pp3 : Int32) (aa4 : Nat) (σ : xS) : Option (Int32 × xS) :=
  xbH (F_X5_ifHeld oo1 pp2 pp3 σ) (fun (zz2 : Int32) (σ1 : xS) => if xin (0 : Int32) 1 = true then (xlet (xu σ1 aa4 (0 : Int32).toNatClampNeg zz2) (fun (σ6 : xS) => some ((0 : Int32), σ6))) else none)
 (fun (ee5 : Nat) (σ3 : xS) => (if ee5 = 1 then (some ((1 : Int32), σ3)) else (if ee5 = 2 then (some ((2 : Int32), σ3)) else none)))
abbrev rm_L_ifHeld : Room := { frames := 9, cells := 2, slots := 12, locals := 148 }
set_option maxHeartbeats 4000000 in
set_option maxRecDepth 100000 in
theorem c_L_ifHeld (l : Launch) {D : va_G} {ad : Nat → Nat} {N : Nat} {Sh : xSh} (hI : ∀ i j, i < N → j < N → ad i = ad j → i = j) (hst : l.stackTraces = false) (oo1 : Nat) (hh1 : xIs5 D ad N Sh oo1) (pp2 : Int32) (pp3 : Int32) (aa4 : Nat) (hh4 : xHas N Sh aa4 (shJ D 1)) (σ : xS) : xKI l yL_ifHeld (Cond.codeWith yL_ifHeld cL_ifHeld 5 (some .int) [(0, 10, 13, 28), (0, 10, 17, 13)] :: wG) rm_L_ifHeld 2 12 D ad N Sh [.ref (ad oo1), .int pp2, .int pp3, .ref (ad aa4)] σ (F_L_ifHeld oo1 pp2 pp3 aa4 σ) := by
  refine x_startH (own := RL) (maxL := 5) (by decide) rfl rfl rfl (Nat.le_of_ble_eq_true rfl) rfl hI (fun Γ hl hnL hXT X => ?_)
  subst hl
  unfold F_L_ifHeld
  refine xr_aload_n (pc := 0) X (i := 3) 3 rfl rfl dL_ifHeld_0 ?_
  refine xr_iconst (pc := 1) X dL_ifHeld_1 (v := 0) (by decide) ?_
  refine xr_aload_n (pc := 2) X (i := 0) 0 rfl rfl dL_ifHeld_2 ?_
  refine xr_iload_n (pc := 3) X (i := 1) 1 rfl rfl dL_ifHeld_3 ?_
  refine xr_iload_n (pc := 4) X (i := 2) 2 rfl rfl dL_ifHeld_4 ?_
  refine xr_callHVI (na := 2) (pc := 5) X (oo1) [.int pp2, .int pp3] _ (c_X5_ifHeld Γ.2.1 hI hst oo1 hh1 pp2 pp3 σ) (wG_V wm_30_1 wm_29_22 wm_29_23 wm_30_0 wm_1_2) rfl rfl rfl (by decide +kernel) ⟨Nat.le_of_ble_eq_true rfl, Nat.le_of_ble_eq_true rfl⟩ hh1.1.1 hh1.1.2 rfl (T := TX5) (C := RX5) rfl rfl rfl (Nat.le_of_ble_eq_true rfl) ⟨Nat.le_of_ble_eq_true rfl, Nat.le_of_ble_eq_true rfl⟩ dL_ifHeld_5 (fun zz2 σ1 => ?_) (fun ee5 σ3 qq4 => ?_)
  · refine xr_i2l (pc := 8) X dL_ifHeld_8 ?_
    refine xr_last (pc := 9) X (aa4) 1 hh4.1 hh4.2 dL_ifHeld_9 (fun σ6 => ?_)
    refine xr_goto (pc := 10) X 21 (by decide) dL_ifHeld_10 ?_
    refine xr_iconst (pc := 21) X dL_ifHeld_21 (v := 0) (by decide) ?_
    exact xr_iret (pc := 22) X (Nat.le_of_ble_eq_true rfl) (Nat.le_of_ble_eq_true rfl) dL_ifHeld_22
  refine xKX_if (fun hee7 => ?_) (fun hee7 => ?_)
  · subst hee7
    refine xKX_hat (hp := 13) (x_hat (E := "java/lang/IndexOutOfBoundsException") (name := "java/lang/IndexOutOfBoundsException") X hXT [] ⟨0, 10, 13, 28⟩ [⟨0, 10, 17, 13⟩] rfl (fun z hz => absurd hz List.not_mem_nil) (by decide) (by decide) wm_19_17 29 rfl rfl) ?_
    refine x_sub [] rfl ?_
    refine xr_astore (pc := 13) X (i := 4) [0] (Nat.le_of_ble_eq_true rfl) hnL rfl dL_ifHeld_13 ?_
    refine xr_iconst (pc := 15) X dL_ifHeld_15 (v := 1) (by decide) ?_
    exact xr_iret (pc := 16) X (Nat.le_of_ble_eq_true rfl) (Nat.le_of_ble_eq_true rfl) dL_ifHeld_16
  refine xKX_if (fun hee8 => ?_) (fun hee8 => ?_)
  · subst hee8
    refine xKX_hat (hp := 17) (x_hat (E := "java/lang/IllegalArgumentException") (name := "java/lang/IllegalArgumentException") X hXT [⟨0, 10, 13, 28⟩] ⟨0, 10, 17, 13⟩ [] rfl (fun z hz => by rw [List.mem_singleton.mp hz]; exact ⟨by decide, _, wm_19_17, (xNC_of X).2.2.1⟩) (by decide) (by decide) wm_6_16 30 rfl rfl) ?_
    refine x_sub [] rfl ?_
    refine xr_astore (pc := 17) X (i := 4) [0] (Nat.le_of_ble_eq_true rfl) hnL rfl dL_ifHeld_17 ?_
    refine xr_iconst (pc := 19) X dL_ifHeld_19 (v := 2) (by decide) ?_
    exact xr_iret (pc := 20) X (Nat.le_of_ble_eq_true rfl) (Nat.le_of_ble_eq_true rfl) dL_ifHeld_20
  exact xKX_none
def F_L_best (oo1 : Nat) (pp2 : Int32) (pp3 : Int32) (aa4 : Nat) (σ : xS) : Option (Int32 × xS) :=
  xbH (F_X5_best oo1 pp2 pp3 σ) (fun (zz2 : Int32) (σ1 : xS) => if xin (0 : Int32) 1 = true then (xlet (xu σ1 aa4 (0 : Int32).toNatClampNeg zz2) (fun (σ6 : xS) => some ((0 : Int32), σ6))) else none)
 (fun (ee5 : Nat) (σ3 : xS) => (if ee5 = 1 then (some ((1 : Int32), σ3)) else (if ee5 = 2 then (some ((2 : Int32), σ3)) else none)))
abbrev rm_L_best : Room := { frames := 9, cells := 2, slots := 12, locals := 150 }
set_option maxHeartbeats 4000000 in
set_option maxRecDepth 100000 in
theorem c_L_best (l : Launch) {D : va_G} {ad : Nat → Nat} {N : Nat} {Sh : xSh} (hI : ∀ i j, i < N → j < N → ad i = ad j → i = j) (hst : l.stackTraces = false) (oo1 : Nat) (hh1 : xIs5 D ad N Sh oo1) (pp2 : Int32) (pp3 : Int32) (aa4 : Nat) (hh4 : xHas N Sh aa4 (shJ D 1)) (σ : xS) : xKI l yL_best (Cond.codeWith yL_best cL_best 5 (some .int) [(0, 10, 13, 28), (0, 10, 17, 13)] :: wG) rm_L_best 2 12 D ad N Sh [.ref (ad oo1), .int pp2, .int pp3, .ref (ad aa4)] σ (F_L_best oo1 pp2 pp3 aa4 σ) := by
  refine x_startH (own := RL) (maxL := 5) (by decide) rfl rfl rfl (Nat.le_of_ble_eq_true rfl) rfl hI (fun Γ hl hnL hXT X => ?_)
  subst hl
  unfold F_L_best
  refine xr_aload_n (pc := 0) X (i := 3) 3 rfl rfl dL_best_0 ?_
  refine xr_iconst (pc := 1) X dL_best_1 (v := 0) (by decide) ?_
  refine xr_aload_n (pc := 2) X (i := 0) 0 rfl rfl dL_best_2 ?_
  refine xr_iload_n (pc := 3) X (i := 1) 1 rfl rfl dL_best_3 ?_
  refine xr_iload_n (pc := 4) X (i := 2) 2 rfl rfl dL_best_4 ?_
  refine xr_callHVI (na := 2) (pc := 5) X (oo1) [.int pp2, .int pp3] _ (c_X5_best Γ.2.1 hI hst oo1 hh1 pp2 pp3 σ) (wG_V wm_30_13 wm_30_10 wm_30_11 wm_30_12 wm_1_2) rfl rfl rfl (by decide +kernel) ⟨Nat.le_of_ble_eq_true rfl, Nat.le_of_ble_eq_true rfl⟩ hh1.1.1 hh1.1.2 rfl (T := TX5) (C := RX5) rfl rfl rfl (Nat.le_of_ble_eq_true rfl) ⟨Nat.le_of_ble_eq_true rfl, Nat.le_of_ble_eq_true rfl⟩ dL_best_5 (fun zz2 σ1 => ?_) (fun ee5 σ3 qq4 => ?_)
  · refine xr_i2l (pc := 8) X dL_best_8 ?_
    refine xr_last (pc := 9) X (aa4) 1 hh4.1 hh4.2 dL_best_9 (fun σ6 => ?_)
    refine xr_goto (pc := 10) X 21 (by decide) dL_best_10 ?_
    refine xr_iconst (pc := 21) X dL_best_21 (v := 0) (by decide) ?_
    exact xr_iret (pc := 22) X (Nat.le_of_ble_eq_true rfl) (Nat.le_of_ble_eq_true rfl) dL_best_22
  refine xKX_if (fun hee7 => ?_) (fun hee7 => ?_)
  · subst hee7
    refine xKX_hat (hp := 13) (x_hat (E := "java/lang/IndexOutOfBoundsException") (name := "java/lang/IndexOutOfBoundsException") X hXT [] ⟨0, 10, 13, 28⟩ [⟨0, 10, 17, 13⟩] rfl (fun z hz => absurd hz List.not_mem_nil) (by decide) (by decide) wm_19_17 29 rfl rfl) ?_
    refine x_sub [] rfl ?_
    refine xr_astore (pc := 13) X (i := 4) [0] (Nat.le_of_ble_eq_true rfl) hnL rfl dL_best_13 ?_
    refine xr_iconst (pc := 15) X dL_best_15 (v := 1) (by decide) ?_
    exact xr_iret (pc := 16) X (Nat.le_of_ble_eq_true rfl) (Nat.le_of_ble_eq_true rfl) dL_best_16
  refine xKX_if (fun hee8 => ?_) (fun hee8 => ?_)
  · subst hee8
    refine xKX_hat (hp := 17) (x_hat (E := "java/lang/IllegalArgumentException") (name := "java/lang/IllegalArgumentException") X hXT [⟨0, 10, 13, 28⟩] ⟨0, 10, 17, 13⟩ [] rfl (fun z hz => by rw [List.mem_singleton.mp hz]; exact ⟨by decide, _, wm_19_17, (xNC_of X).2.2.1⟩) (by decide) (by decide) wm_6_16 30 rfl rfl) ?_
    refine x_sub [] rfl ?_
    refine xr_astore (pc := 17) X (i := 4) [0] (Nat.le_of_ble_eq_true rfl) hnL rfl dL_best_17 ?_
    refine xr_iconst (pc := 19) X dL_best_19 (v := 2) (by decide) ?_
    exact xr_iret (pc := 20) X (Nat.le_of_ble_eq_true rfl) (Nat.le_of_ble_eq_true rfl) dL_best_20
  exact xKX_none
def F_L_runScript (oo1 : Nat) (pp2 : Int32) (pp3 : Int64) (aa4 : Nat) (σ : xS) : Option (Int32 × xS) :=
  xbH (F_X5_runScript oo1 pp2 pp3 σ) (fun (zz2 : Int32) (σ1 : xS) => if xin (0 : Int32) 1 = true then (xlet (xu σ1 aa4 (0 : Int32).toNatClampNeg zz2) (fun (σ6 : xS) => some ((0 : Int32), σ6))) else none)
 (fun (ee5 : Nat) (σ3 : xS) => (if ee5 = 2 then (some ((1 : Int32), σ3)) else none))
abbrev rm_L_runScript : Room := { frames := 9, cells := 2, slots := 12, locals := 178 }
set_option maxHeartbeats 4000000 in
set_option maxRecDepth 100000 in
theorem c_L_runScript (l : Launch) {D : va_G} {ad : Nat → Nat} {N : Nat} {Sh : xSh} (hI : ∀ i j, i < N → j < N → ad i = ad j → i = j) (hst : l.stackTraces = false) (oo1 : Nat) (hh1 : xIs5 D ad N Sh oo1) (pp2 : Int32) (pp3 : Int64) (aa4 : Nat) (hh4 : xHas N Sh aa4 (shJ D 1)) (σ : xS) : xKI l yL_runScript (Cond.codeWith yL_runScript cL_runScript 6 (some .int) [(0, 11, 14, 13)] :: wG) rm_L_runScript 2 12 D ad N Sh [.ref (ad oo1), .int pp2, .long pp3, .ref (ad aa4)] σ (F_L_runScript oo1 pp2 pp3 aa4 σ) := by
  refine x_startH (own := RL) (maxL := 6) (by decide) rfl rfl rfl (Nat.le_of_ble_eq_true rfl) rfl hI (fun Γ hl hnL hXT X => ?_)
  subst hl
  unfold F_L_runScript
  refine xr_aload (pc := 0) X (i := 4) 3 rfl dL_runScript_0 ?_
  refine xr_iconst (pc := 2) X dL_runScript_2 (v := 0) (by decide) ?_
  refine xr_aload_n (pc := 3) X (i := 0) 0 rfl rfl dL_runScript_3 ?_
  refine xr_iload_n (pc := 4) X (i := 1) 1 rfl rfl dL_runScript_4 ?_
  refine xr_lload_n (pc := 5) X (i := 2) 2 rfl rfl dL_runScript_5 ?_
  refine xr_callHVI (na := 2) (pc := 6) X (oo1) [.int pp2, .long pp3] _ (c_X5_runScript Γ.2.1 hI hst oo1 hh1 pp2 pp3 σ) (wG_V wm_31_2 wm_30_23 wm_31_0 wm_31_1 wm_1_2) rfl rfl rfl (by decide +kernel) ⟨Nat.le_of_ble_eq_true rfl, Nat.le_of_ble_eq_true rfl⟩ hh1.1.1 hh1.1.2 rfl (T := TX5) (C := RX5) rfl rfl rfl (Nat.le_of_ble_eq_true rfl) ⟨Nat.le_of_ble_eq_true rfl, Nat.le_of_ble_eq_true rfl⟩ dL_runScript_6 (fun zz2 σ1 => ?_) (fun ee5 σ3 qq4 => ?_)
  · refine xr_i2l (pc := 9) X dL_runScript_9 ?_
    refine xr_last (pc := 10) X (aa4) 1 hh4.1 hh4.2 dL_runScript_10 (fun σ6 => ?_)
    refine xr_goto (pc := 11) X 18 (by decide) dL_runScript_11 ?_
    refine xr_iconst (pc := 18) X dL_runScript_18 (v := 0) (by decide) ?_
    exact xr_iret (pc := 19) X (Nat.le_of_ble_eq_true rfl) (Nat.le_of_ble_eq_true rfl) dL_runScript_19
  refine xKX_if (fun hee7 => ?_) (fun hee7 => ?_)
  · subst hee7
    refine xKX_hat (hp := 14) (x_hat (E := "java/lang/IllegalArgumentException") (name := "java/lang/IllegalArgumentException") X hXT [] ⟨0, 11, 14, 13⟩ [] rfl (fun z hz => absurd hz List.not_mem_nil) (by decide) (by decide) wm_6_16 30 rfl rfl) ?_
    refine x_sub [] rfl ?_
    refine xr_astore (pc := 14) X (i := 5) [0] (Nat.le_of_ble_eq_true rfl) hnL rfl dL_runScript_14 ?_
    refine xr_iconst (pc := 16) X dL_runScript_16 (v := 1) (by decide) ?_
    exact xr_iret (pc := 17) X (Nat.le_of_ble_eq_true rfl) (Nat.le_of_ble_eq_true rfl) dL_runScript_17
  exact xKX_none
def F_L_simulate (oo1 : Nat) (pp2 : Int64) (pp3 : Int32) (aa4 : Nat) (σ : xS) : Option (Int32 × xS) :=
  xbH (F_X5_simulate oo1 pp2 pp3 σ) (fun (zz2 : Int32) (σ1 : xS) => if xin (0 : Int32) 1 = true then (xlet (xu σ1 aa4 (0 : Int32).toNatClampNeg zz2) (fun (σ6 : xS) => some ((0 : Int32), σ6))) else none)
 (fun (ee5 : Nat) (σ3 : xS) => (if ee5 = 2 then (some ((1 : Int32), σ3)) else none))
abbrev rm_L_simulate : Room := { frames := 9, cells := 1, slots := 6, locals := 175 }
set_option maxHeartbeats 4000000 in
set_option maxRecDepth 100000 in
theorem c_L_simulate (l : Launch) {D : va_G} {ad : Nat → Nat} {N : Nat} {Sh : xSh} (hI : ∀ i j, i < N → j < N → ad i = ad j → i = j) (hst : l.stackTraces = false) (oo1 : Nat) (hh1 : xIs5 D ad N Sh oo1) (pp2 : Int64) (pp3 : Int32) (aa4 : Nat) (hh4 : xHas N Sh aa4 (shJ D 1)) (σ : xS) : xKI l yL_simulate (Cond.codeWith yL_simulate cL_simulate 6 (some .int) [(0, 11, 14, 13)] :: wG) rm_L_simulate 1 6 D ad N Sh [.ref (ad oo1), .long pp2, .int pp3, .ref (ad aa4)] σ (F_L_simulate oo1 pp2 pp3 aa4 σ) := by
  refine x_startH (own := RL) (maxL := 6) (by decide) rfl rfl rfl (Nat.le_of_ble_eq_true rfl) rfl hI (fun Γ hl hnL hXT X => ?_)
  subst hl
  unfold F_L_simulate
  refine xr_aload (pc := 0) X (i := 4) 3 rfl dL_simulate_0 ?_
  refine xr_iconst (pc := 2) X dL_simulate_2 (v := 0) (by decide) ?_
  refine xr_aload_n (pc := 3) X (i := 0) 0 rfl rfl dL_simulate_3 ?_
  refine xr_lload_n (pc := 4) X (i := 1) 1 rfl rfl dL_simulate_4 ?_
  refine xr_iload_n (pc := 5) X (i := 3) 2 rfl rfl dL_simulate_5 ?_
  refine xr_callHVI (na := 2) (pc := 6) X (oo1) [.long pp2, .int pp3] _ (c_X5_simulate Γ.2.1 hI hst oo1 hh1 pp2 pp3 σ) (wG_V wm_32_8 wm_32_5 wm_32_6 wm_32_7 wm_1_2) rfl rfl rfl (by decide +kernel) ⟨Nat.le_of_ble_eq_true rfl, Nat.le_of_ble_eq_true rfl⟩ hh1.1.1 hh1.1.2 rfl (T := TX5) (C := RX5) rfl rfl rfl (Nat.le_of_ble_eq_true rfl) ⟨Nat.le_of_ble_eq_true rfl, Nat.le_of_ble_eq_true rfl⟩ dL_simulate_6 (fun zz2 σ1 => ?_) (fun ee5 σ3 qq4 => ?_)
  · refine xr_i2l (pc := 9) X dL_simulate_9 ?_
    refine xr_last (pc := 10) X (aa4) 1 hh4.1 hh4.2 dL_simulate_10 (fun σ6 => ?_)
    refine xr_goto (pc := 11) X 18 (by decide) dL_simulate_11 ?_
    refine xr_iconst (pc := 18) X dL_simulate_18 (v := 0) (by decide) ?_
    exact xr_iret (pc := 19) X (Nat.le_of_ble_eq_true rfl) (Nat.le_of_ble_eq_true rfl) dL_simulate_19
  refine xKX_if (fun hee7 => ?_) (fun hee7 => ?_)
  · subst hee7
    refine xKX_hat (hp := 14) (x_hat (E := "java/lang/IllegalArgumentException") (name := "java/lang/IllegalArgumentException") X hXT [] ⟨0, 11, 14, 13⟩ [] rfl (fun z hz => absurd hz List.not_mem_nil) (by decide) (by decide) wm_6_16 30 rfl rfl) ?_
    refine x_sub [] rfl ?_
    refine xr_astore (pc := 14) X (i := 5) [0] (Nat.le_of_ble_eq_true rfl) hnL rfl dL_simulate_14 ?_
    refine xr_iconst (pc := 16) X dL_simulate_16 (v := 1) (by decide) ?_
    exact xr_iret (pc := 17) X (Nat.le_of_ble_eq_true rfl) (Nat.le_of_ble_eq_true rfl) dL_simulate_17
  exact xKX_none
def F_L_save (oo1 : Nat) (pp2 : Int32) (aa3 : Nat) (σ : xS) : Option (Int32 × xS) :=
  xbH (F_X5_save oo1 pp2 σ) (fun (zz2 : Int32) (σ1 : xS) => if xin (0 : Int32) 1 = true then (xlet (xu σ1 aa3 (0 : Int32).toNatClampNeg zz2) (fun (σ6 : xS) => some ((0 : Int32), σ6))) else none)
 (fun (ee5 : Nat) (σ3 : xS) => (if ee5 = 1 then (some ((1 : Int32), σ3)) else none))
abbrev rm_L_save : Room := { frames := 9, cells := 1, slots := 6, locals := 143 }
set_option maxHeartbeats 4000000 in
set_option maxRecDepth 100000 in
theorem c_L_save (l : Launch) {D : va_G} {ad : Nat → Nat} {N : Nat} {Sh : xSh} (hI : ∀ i j, i < N → j < N → ad i = ad j → i = j) (hst : l.stackTraces = false) (oo1 : Nat) (hh1 : xIs5 D ad N Sh oo1) (pp2 : Int32) (aa3 : Nat) (hh3 : xHas N Sh aa3 (shJ D 1)) (σ : xS) : xKI l yL_save (Cond.codeWith yL_save cL_save 4 (some .int) [(0, 9, 12, 28)] :: wG) rm_L_save 1 6 D ad N Sh [.ref (ad oo1), .int pp2, .ref (ad aa3)] σ (F_L_save oo1 pp2 aa3 σ) := by
  refine x_startH (own := RL) (maxL := 4) (by decide) rfl rfl rfl (Nat.le_of_ble_eq_true rfl) rfl hI (fun Γ hl hnL hXT X => ?_)
  subst hl
  unfold F_L_save
  refine xr_aload_n (pc := 0) X (i := 2) 2 rfl rfl dL_save_0 ?_
  refine xr_iconst (pc := 1) X dL_save_1 (v := 0) (by decide) ?_
  refine xr_aload_n (pc := 2) X (i := 0) 0 rfl rfl dL_save_2 ?_
  refine xr_iload_n (pc := 3) X (i := 1) 1 rfl rfl dL_save_3 ?_
  refine xr_callHVI (na := 1) (pc := 4) X (oo1) [.int pp2] _ (c_X5_save Γ.2.1 hI hst oo1 hh1 pp2 σ) (wG_V wm_33_8 wm_33_5 wm_33_6 wm_33_7 wm_1_2) rfl rfl rfl (by decide +kernel) ⟨Nat.le_of_ble_eq_true rfl, Nat.le_of_ble_eq_true rfl⟩ hh1.1.1 hh1.1.2 rfl (T := TX5) (C := RX5) rfl rfl rfl (Nat.le_of_ble_eq_true rfl) ⟨Nat.le_of_ble_eq_true rfl, Nat.le_of_ble_eq_true rfl⟩ dL_save_4 (fun zz2 σ1 => ?_) (fun ee5 σ3 qq4 => ?_)
  · refine xr_i2l (pc := 7) X dL_save_7 ?_
    refine xr_last (pc := 8) X (aa3) 1 hh3.1 hh3.2 dL_save_8 (fun σ6 => ?_)
    refine xr_goto (pc := 9) X 15 (by decide) dL_save_9 ?_
    refine xr_iconst (pc := 15) X dL_save_15 (v := 0) (by decide) ?_
    exact xr_iret (pc := 16) X (Nat.le_of_ble_eq_true rfl) (Nat.le_of_ble_eq_true rfl) dL_save_16
  refine xKX_if (fun hee7 => ?_) (fun hee7 => ?_)
  · subst hee7
    refine xKX_hat (hp := 12) (x_hat (E := "java/lang/IndexOutOfBoundsException") (name := "java/lang/IndexOutOfBoundsException") X hXT [] ⟨0, 9, 12, 28⟩ [] rfl (fun z hz => absurd hz List.not_mem_nil) (by decide) (by decide) wm_19_17 29 rfl rfl) ?_
    refine x_sub [] rfl ?_
    refine xr_astore_n (pc := 12) X (hf := rfl) (i := 3) [0] (Nat.le_of_ble_eq_true rfl) hnL rfl dL_save_12 ?_
    refine xr_iconst (pc := 13) X dL_save_13 (v := 1) (by decide) ?_
    exact xr_iret (pc := 14) X (Nat.le_of_ble_eq_true rfl) (Nat.le_of_ble_eq_true rfl) dL_save_14
  exact xKX_none
def F_L_restore (oo1 : Nat) (pp2 : Int32) (aa3 : Nat) (σ : xS) : Option (Int32 × xS) :=
  xbH (F_X5_restore oo1 pp2 σ) (fun (zz2 : Int32) (σ1 : xS) => if xin (0 : Int32) 1 = true then (xlet (xu σ1 aa3 (0 : Int32).toNatClampNeg zz2) (fun (σ6 : xS) => some ((0 : Int32), σ6))) else none)
 (fun (ee5 : Nat) (σ3 : xS) => (if ee5 = 1 then (some ((1 : Int32), σ3)) else (if ee5 = 3 then (some ((2 : Int32), σ3)) else none)))
abbrev rm_L_restore : Room := { frames := 9, cells := 2, slots := 12, locals := 143 }
set_option maxHeartbeats 4000000 in
set_option maxRecDepth 100000 in
theorem c_L_restore (l : Launch) {D : va_G} {ad : Nat → Nat} {N : Nat} {Sh : xSh} (hI : ∀ i j, i < N → j < N → ad i = ad j → i = j) (hst : l.stackTraces = false) (oo1 : Nat) (hh1 : xIs5 D ad N Sh oo1) (pp2 : Int32) (aa3 : Nat) (hh3 : xHas N Sh aa3 (shJ D 1)) (σ : xS) : xKI l yL_restore (Cond.codeWith yL_restore cL_restore 4 (some .int) [(0, 9, 12, 28), (0, 9, 15, 15)] :: wG) rm_L_restore 2 12 D ad N Sh [.ref (ad oo1), .int pp2, .ref (ad aa3)] σ (F_L_restore oo1 pp2 aa3 σ) := by
  refine x_startH (own := RL) (maxL := 4) (by decide) rfl rfl rfl (Nat.le_of_ble_eq_true rfl) rfl hI (fun Γ hl hnL hXT X => ?_)
  subst hl
  unfold F_L_restore
  refine xr_aload_n (pc := 0) X (i := 2) 2 rfl rfl dL_restore_0 ?_
  refine xr_iconst (pc := 1) X dL_restore_1 (v := 0) (by decide) ?_
  refine xr_aload_n (pc := 2) X (i := 0) 0 rfl rfl dL_restore_2 ?_
  refine xr_iload_n (pc := 3) X (i := 1) 1 rfl rfl dL_restore_3 ?_
  refine xr_callHVI (na := 1) (pc := 4) X (oo1) [.int pp2] _ (c_X5_restore Γ.2.1 hI hst oo1 hh1 pp2 σ) (wG_V wm_33_19 wm_33_16 wm_33_17 wm_33_18 wm_1_2) rfl rfl rfl (by decide +kernel) ⟨Nat.le_of_ble_eq_true rfl, Nat.le_of_ble_eq_true rfl⟩ hh1.1.1 hh1.1.2 rfl (T := TX5) (C := RX5) rfl rfl rfl (Nat.le_of_ble_eq_true rfl) ⟨Nat.le_of_ble_eq_true rfl, Nat.le_of_ble_eq_true rfl⟩ dL_restore_4 (fun zz2 σ1 => ?_) (fun ee5 σ3 qq4 => ?_)
  · refine xr_i2l (pc := 7) X dL_restore_7 ?_
    refine xr_last (pc := 8) X (aa3) 1 hh3.1 hh3.2 dL_restore_8 (fun σ6 => ?_)
    refine xr_goto (pc := 9) X 18 (by decide) dL_restore_9 ?_
    refine xr_iconst (pc := 18) X dL_restore_18 (v := 0) (by decide) ?_
    exact xr_iret (pc := 19) X (Nat.le_of_ble_eq_true rfl) (Nat.le_of_ble_eq_true rfl) dL_restore_19
  refine xKX_if (fun hee7 => ?_) (fun hee7 => ?_)
  · subst hee7
    refine xKX_hat (hp := 12) (x_hat (E := "java/lang/IndexOutOfBoundsException") (name := "java/lang/IndexOutOfBoundsException") X hXT [] ⟨0, 9, 12, 28⟩ [⟨0, 9, 15, 15⟩] rfl (fun z hz => absurd hz List.not_mem_nil) (by decide) (by decide) wm_19_17 29 rfl rfl) ?_
    refine x_sub [] rfl ?_
    refine xr_astore_n (pc := 12) X (hf := rfl) (i := 3) [0] (Nat.le_of_ble_eq_true rfl) hnL rfl dL_restore_12 ?_
    refine xr_iconst (pc := 13) X dL_restore_13 (v := 1) (by decide) ?_
    exact xr_iret (pc := 14) X (Nat.le_of_ble_eq_true rfl) (Nat.le_of_ble_eq_true rfl) dL_restore_14
  refine xKX_if (fun hee8 => ?_) (fun hee8 => ?_)
  · subst hee8
    refine xKX_hat (hp := 15) (x_hat (E := "java/lang/IllegalStateException") (name := "java/lang/IllegalStateException") X hXT [⟨0, 9, 12, 28⟩] ⟨0, 9, 15, 15⟩ [] rfl (fun z hz => by rw [List.mem_singleton.mp hz]; exact ⟨by decide, _, wm_19_17, (xNC_of X).2.2.2.2.1⟩) (by decide) (by decide) wm_6_17 31 rfl rfl) ?_
    refine x_sub [] rfl ?_
    refine xr_astore_n (pc := 15) X (hf := rfl) (i := 3) [0] (Nat.le_of_ble_eq_true rfl) hnL rfl dL_restore_15 ?_
    refine xr_iconst (pc := 16) X dL_restore_16 (v := 2) (by decide) ?_
    exact xr_iret (pc := 17) X (Nat.le_of_ble_eq_true rfl) (Nat.le_of_ble_eq_true rfl) dL_restore_17
  exact xKX_none
