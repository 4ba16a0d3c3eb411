def F_L_holds (oo1 : Nat) (pp2 : Int32) (pp3 : Int32) (σ : xS) : Option (Int32 × xS) :=
  xbH (F_X5_hold oo1 pp2 pp3 σ) (fun (zz2 : Int32) (σ1 : xS) => some (zz2, σ1))
 (fun (ee5 : Nat) (σ3 : xS) => (if ee5 = 1 then (some ((-9999001 : Int32), σ3)) else none))
abbrev rm_L_holds : Room := { frames := 9, cells := 1, slots := 6, locals := 171 }
set_option maxHeartbeats 4000000 in
set_option maxRecDepth 100000 in
theorem c_L_holds (l : Launch) {D : va_G} {ad : Nat → Nat} {N : Nat} {Sh : xSh} (hI : ∀ i j, i < N → j < N → ad i = ad j → i = j) (hst : l.stackTraces = false) (oo1 : Nat) (hh1 : xIs5 D ad N Sh oo1) (pp2 : Int32) (pp3 : Int32) (σ : xS) : xKI l yL_holds (Cond.codeWith yL_holds cL_holds 4 (some .int) [(0, 6, 7, 13)] :: wG) rm_L_holds 1 6 D ad N Sh [.ref (ad oo1), .int pp2, .int pp3] σ (F_L_holds oo1 pp2 pp3 σ) := by
  refine x_startH (own := RL) (maxL := 4) (by decide) rfl rfl rfl (Nat.le_of_ble_eq_true rfl) rfl hI (fun Γ hl hnL hXT X => ?_)
  subst hl
  unfold F_L_holds
  refine xr_aload_n (pc := 0) X (i := 0) 0 rfl rfl dL_holds_0 ?_
  refine xr_iload_n (pc := 1) X (i := 1) 1 rfl rfl dL_holds_1 ?_
  refine xr_iload_n (pc := 2) X (i := 2) 2 rfl rfl dL_holds_2 ?_
  refine xr_callHVI (na := 2) (pc := 3) X (oo1) [.int pp2, .int pp3] _ (c_X5_hold Γ.2.1 hI hst oo1 hh1 pp2 pp3 σ) (wG_V wm_22_2 wm_21_23 wm_22_0 wm_22_1 wm_1_2) rfl rfl rfl (by decide +kernel) ⟨Nat.le_of_ble_eq_true rfl, Nat.le_of_ble_eq_true rfl⟩ hh1.1.1 hh1.1.2 rfl (T := TX5) (C := RX5) rfl rfl rfl (Nat.le_of_ble_eq_true rfl) ⟨Nat.le_of_ble_eq_true rfl, Nat.le_of_ble_eq_true rfl⟩ dL_holds_3 (fun zz2 σ1 => ?_) (fun ee5 σ3 qq4 => ?_)
  · exact xr_iret (pc := 6) X (Nat.le_of_ble_eq_true rfl) (Nat.le_of_ble_eq_true rfl) dL_holds_6
  refine xKX_if (fun hee6 => ?_) (fun hee6 => ?_)
  · subst hee6
    refine xKX_hat (hp := 7) (x_hat (E := "java/lang/IndexOutOfBoundsException") (name := "java/lang/IndexOutOfBoundsException") X hXT [] ⟨0, 6, 7, 13⟩ [] rfl (fun z hz => absurd hz List.not_mem_nil) (by decide) (by decide) wm_14_6 29 rfl rfl) ?_
    refine x_sub [] rfl ?_
    refine xr_astore_n (pc := 7) X (hf := rfl) (i := 3) [0] (Nat.le_of_ble_eq_true rfl) hnL rfl dL_holds_7 ?_
    refine xr_ldc (pc := 8) X dL_holds_8 (List.mem_cons_of_mem _ wm_14_7) ?_
    exact xr_iret (pc := 10) X (Nat.le_of_ble_eq_true rfl) (Nat.le_of_ble_eq_true rfl) dL_holds_10
  exact xKX_none
def F_L_doScript (oo1 : Nat) (pp2 : Int32) (pp3 : Int64) (σ : xS) : Option (Int32 × xS) :=
  xbH (F_X5_runScript oo1 pp2 pp3 σ) (fun (zz2 : Int32) (σ1 : xS) => some (zz2, σ1))
 (fun (ee5 : Nat) (σ3 : xS) => (if ee5 = 2 then (some ((-9999002 : Int32), σ3)) else none))
abbrev rm_L_doScript : Room := { frames := 9, cells := 2, slots := 12, locals := 178 }
set_option maxHeartbeats 4000000 in
set_option maxRecDepth 100000 in
theorem c_L_doScript (l : Launch) {D : va_G} {ad : Nat → Nat} {N : Nat} {Sh : xSh} (hI : ∀ i j, i < N → j < N → ad i = ad j → i = j) (hst : l.stackTraces = false) (oo1 : Nat) (hh1 : xIs5 D ad N Sh oo1) (pp2 : Int32) (pp3 : Int64) (σ : xS) : xKI l yL_doScript (Cond.codeWith yL_doScript cL_doScript 5 (some .int) [(0, 6, 7, 20)] :: wG) rm_L_doScript 2 12 D ad N Sh [.ref (ad oo1), .int pp2, .long pp3] σ (F_L_doScript oo1 pp2 pp3 σ) := by
  refine x_startH (own := RL) (maxL := 5) (by decide) rfl rfl rfl (Nat.le_of_ble_eq_true rfl) rfl hI (fun Γ hl hnL hXT X => ?_)
  subst hl
  unfold F_L_doScript
  refine xr_aload_n (pc := 0) X (i := 0) 0 rfl rfl dL_doScript_0 ?_
  refine xr_iload_n (pc := 1) X (i := 1) 1 rfl rfl dL_doScript_1 ?_
  refine xr_lload_n (pc := 2) X (i := 2) 2 rfl rfl dL_doScript_2 ?_
  refine xr_callHVI (na := 2) (pc := 3) X (oo1) [.int pp2, .long pp3] _ (c_X5_runScript Γ.2.1 hI hst oo1 hh1 pp2 pp3 σ) (wG_V wm_22_13 wm_22_10 wm_22_11 wm_22_12 wm_1_2) rfl rfl rfl (by decide +kernel) ⟨Nat.le_of_ble_eq_true rfl, Nat.le_of_ble_eq_true rfl⟩ hh1.1.1 hh1.1.2 rfl (T := TX5) (C := RX5) rfl rfl rfl (Nat.le_of_ble_eq_true rfl) ⟨Nat.le_of_ble_eq_true rfl, Nat.le_of_ble_eq_true rfl⟩ dL_doScript_3 (fun zz2 σ1 => ?_) (fun ee5 σ3 qq4 => ?_)
  · exact xr_iret (pc := 6) X (Nat.le_of_ble_eq_true rfl) (Nat.le_of_ble_eq_true rfl) dL_doScript_6
  refine xKX_if (fun hee6 => ?_) (fun hee6 => ?_)
  · subst hee6
    refine xKX_hat (hp := 7) (x_hat (E := "java/lang/IllegalArgumentException") (name := "java/lang/IllegalArgumentException") X hXT [] ⟨0, 6, 7, 20⟩ [] rfl (fun z hz => absurd hz List.not_mem_nil) (by decide) (by decide) wm_6_3 30 rfl rfl) ?_
    refine x_sub [] rfl ?_
    refine xr_astore (pc := 7) X (i := 4) [0] (Nat.le_of_ble_eq_true rfl) hnL rfl dL_doScript_7 ?_
    refine xr_ldc (pc := 9) X dL_doScript_9 (List.mem_cons_of_mem _ wm_6_5) ?_
    exact xr_iret (pc := 11) X (Nat.le_of_ble_eq_true rfl) (Nat.le_of_ble_eq_true rfl) dL_doScript_11
  exact xKX_none
def F_L_doSimulate (oo1 : Nat) (pp2 : Int64) (pp3 : Int32) (σ : xS) : Option (Int32 × xS) :=
  xbH (F_X5_simulate oo1 pp2 pp3 σ) (fun (zz2 : Int32) (σ1 : xS) => some (zz2, σ1))
 (fun (ee5 : Nat) (σ3 : xS) => (if ee5 = 2 then (some ((-9999002 : Int32), σ3)) else none))
abbrev rm_L_doSimulate : Room := { frames := 9, cells := 1, slots := 6, locals := 175 }
set_option maxHeartbeats 4000000 in
set_option maxRecDepth 100000 in
theorem c_L_doSimulate (l : Launch) {D : va_G} {ad : Nat → Nat} {N : Nat} {Sh : xSh} (hI : ∀ i j, i < N → j < N → ad i = ad j → i = j) (hst : l.stackTraces = false) (oo1 : Nat) (hh1 : xIs5 D ad N Sh oo1) (pp2 : Int64) (pp3 : Int32) (σ : xS) : xKI l yL_doSimulate (Cond.codeWith yL_doSimulate cL_doSimulate 5 (some .int) [(0, 6, 7, 20)] :: wG) rm_L_doSimulate 1 6 D ad N Sh [.ref (ad oo1), .long pp2, .int pp3] σ (F_L_doSimulate oo1 pp2 pp3 σ) := by
  refine x_startH (own := RL) (maxL := 5) (by decide) rfl rfl rfl (Nat.le_of_ble_eq_true rfl) rfl hI (fun Γ hl hnL hXT X => ?_)
  subst hl
  unfold F_L_doSimulate
  refine xr_aload_n (pc := 0) X (i := 0) 0 rfl rfl dL_doSimulate_0 ?_
  refine xr_lload_n (pc := 1) X (i := 1) 1 rfl rfl dL_doSimulate_1 ?_
  refine xr_iload_n (pc := 2) X (i := 3) 2 rfl rfl dL_doSimulate_2 ?_
  refine xr_callHVI (na := 2) (pc := 3) X (oo1) [.long pp2, .int pp3] _ (c_X5_simulate Γ.2.1 hI hst oo1 hh1 pp2 pp3 σ) (wG_V wm_23_2 wm_22_23 wm_23_0 wm_23_1 wm_1_2) rfl rfl rfl (by decide +kernel) ⟨Nat.le_of_ble_eq_true rfl, Nat.le_of_ble_eq_true rfl⟩ hh1.1.1 hh1.1.2 rfl (T := TX5) (C := RX5) rfl rfl rfl (Nat.le_of_ble_eq_true rfl) ⟨Nat.le_of_ble_eq_true rfl, Nat.le_of_ble_eq_true rfl⟩ dL_doSimulate_3 (fun zz2 σ1 => ?_) (fun ee5 σ3 qq4 => ?_)
  · exact xr_iret (pc := 6) X (Nat.le_of_ble_eq_true rfl) (Nat.le_of_ble_eq_true rfl) dL_doSimulate_6
  refine xKX_if (fun hee6 => ?_) (fun hee6 => ?_)
  · subst hee6
    refine xKX_hat (hp := 7) (x_hat (E := "java/lang/IllegalArgumentException") (name := "java/lang/IllegalArgumentException") X hXT [] ⟨0, 6, 7, 20⟩ [] rfl (fun z hz => absurd hz List.not_mem_nil) (by decide) (by decide) wm_6_3 30 rfl rfl) ?_
    refine x_sub [] rfl ?_
    refine xr_astore (pc := 7) X (i := 4) [0] (Nat.le_of_ble_eq_true rfl) hnL rfl dL_doSimulate_7 ?_
    refine xr_ldc (pc := 9) X dL_doSimulate_9 (List.mem_cons_of_mem _ wm_6_5) ?_
    exact xr_iret (pc := 11) X (Nat.le_of_ble_eq_true rfl) (Nat.le_of_ble_eq_true rfl) dL_doSimulate_11
  exact xKX_none
def F_L_tryAppend (oo1 : Nat) (pp2 : Int32) (σ : xS) : Option (Int32 × xS) :=
  xbH (F_X5_append oo1 pp2 σ) (fun (zz2 : Int32) (σ1 : xS) => some (zz2, σ1))
 (fun (ee5 : Nat) (σ3 : xS) => (if ee5 = 2 then (some ((-9999002 : Int32), σ3)) else (if ee5 = 3 then (some ((-9999003 : Int32), σ3)) else none)))
abbrev rm_L_tryAppend : Room := { frames := 9, cells := 2, slots := 12, locals := 143 }
set_option maxHeartbeats 4000000 in
set_option maxRecDepth 100000 in
theorem c_L_tryAppend (l : Launch) {D : va_G} {ad : Nat → Nat} {N : Nat} {Sh : xSh} (hI : ∀ i j, i < N → j < N → ad i = ad j → i = j) (hst : l.stackTraces = false) (oo1 : Nat) (hh1 : xIs5 D ad N Sh oo1) (pp2 : Int32) (σ : xS) : xKI l yL_tryAppend (Cond.codeWith yL_tryAppend cL_tryAppend 3 (some .int) [(0, 5, 6, 20), (0, 5, 10, 31)] :: wG) rm_L_tryAppend 2 12 D ad N Sh [.ref (ad oo1), .int pp2] σ (F_L_tryAppend oo1 pp2 σ) := by
  refine x_startH (own := RL) (maxL := 3) (by decide) rfl rfl rfl (Nat.le_of_ble_eq_true rfl) rfl hI (fun Γ hl hnL hXT X => ?_)
  subst hl
  unfold F_L_tryAppend
  refine xr_aload_n (pc := 0) X (i := 0) 0 rfl rfl dL_tryAppend_0 ?_
  refine xr_iload_n (pc := 1) X (i := 1) 1 rfl rfl dL_tryAppend_1 ?_
  refine xr_callHVI (na := 1) (pc := 2) X (oo1) [.int pp2] _ (c_X5_append Γ.2.1 hI hst oo1 hh1 pp2 σ) (wG_V wm_6_10 wm_6_7 wm_6_8 wm_6_9 wm_1_2) rfl rfl rfl (by decide +kernel) ⟨Nat.le_of_ble_eq_true rfl, Nat.le_of_ble_eq_true rfl⟩ hh1.1.1 hh1.1.2 rfl (T := TX5) (C := RX5) rfl rfl rfl (Nat.le_of_ble_eq_true rfl) ⟨Nat.le_of_ble_eq_true rfl, Nat.le_of_ble_eq_true rfl⟩ dL_tryAppend_2 (fun zz2 σ1 => ?_) (fun ee5 σ3 qq4 => ?_)
  · exact xr_iret (pc := 5) X (Nat.le_of_ble_eq_true rfl) (Nat.le_of_ble_eq_true rfl) dL_tryAppend_5
  refine xKX_if (fun hee6 => ?_) (fun hee6 => ?_)
  · subst hee6
    refine xKX_hat (hp := 6) (x_hat (E := "java/lang/IllegalArgumentException") (name := "java/lang/IllegalArgumentException") X hXT [] ⟨0, 5, 6, 20⟩ [⟨0, 5, 10, 31⟩] rfl (fun z hz => absurd hz List.not_mem_nil) (by decide) (by decide) wm_6_3 30 rfl rfl) ?_
    refine x_sub [] rfl ?_
    refine xr_astore_n (pc := 6) X (hf := rfl) (i := 2) [0] (Nat.le_of_ble_eq_true rfl) hnL rfl dL_tryAppend_6 ?_
    refine xr_ldc (pc := 7) X dL_tryAppend_7 (List.mem_cons_of_mem _ wm_6_5) ?_
    exact xr_iret (pc := 9) X (Nat.le_of_ble_eq_true rfl) (Nat.le_of_ble_eq_true rfl) dL_tryAppend_9
  refine xKX_if (fun hee7 => ?_) (fun hee7 => ?_)
  · subst hee7
    refine xKX_hat (hp := 10) (x_hat (E := "java/lang/IllegalStateException") (name := "java/lang/IllegalStateException") X hXT [⟨0, 5, 6, 20⟩] ⟨0, 5, 10, 31⟩ [] rfl (fun z hz => by rw [List.mem_singleton.mp hz]; exact ⟨by decide, _, wm_6_3, (xNC_of X).2.2.2.2.2⟩) (by decide) (by decide) wm_6_4 31 rfl rfl) ?_
    refine x_sub [] rfl ?_
    refine xr_astore_n (pc := 10) X (hf := rfl) (i := 2) [0] (Nat.le_of_ble_eq_true rfl) hnL rfl dL_tryAppend_10 ?_
    refine xr_ldc (pc := 11) X dL_tryAppend_11 (List.mem_cons_of_mem _ wm_6_6) ?_
    exact xr_iret (pc := 13) X (Nat.le_of_ble_eq_true rfl) (Nat.le_of_ble_eq_true rfl) dL_tryAppend_13
  exact xKX_none
def F_L_tryLoad (oo1 : Nat) (σ : xS) : Option (Int32 × xS) :=
  xbH (F_X5_load oo1 σ) (fun (zz2 : Int32) (σ1 : xS) => some (zz2, σ1))
 (fun (ee5 : Nat) (σ3 : xS) => (if ee5 = 3 then (some ((-9999003 : Int32), σ3)) else none))
abbrev rm_L_tryLoad : Room := { frames := 9, cells := 1, slots := 6, locals := 147 }
set_option maxHeartbeats 4000000 in
set_option maxRecDepth 100000 in
theorem c_L_tryLoad (l : Launch) {D : va_G} {ad : Nat → Nat} {N : Nat} {Sh : xSh} (hI : ∀ i j, i < N → j < N → ad i = ad j → i = j) (hst : l.stackTraces = false) (oo1 : Nat) (hh1 : xIs5 D ad N Sh oo1) (σ : xS) : xKI l yL_tryLoad (Cond.codeWith yL_tryLoad cL_tryLoad 2 (some .int) [(0, 4, 5, 31)] :: wG) rm_L_tryLoad 1 6 D ad N Sh [.ref (ad oo1)] σ (F_L_tryLoad oo1 σ) := by
  refine x_startH (own := RL) (maxL := 2) (by decide) rfl rfl rfl (Nat.le_of_ble_eq_true rfl) rfl hI (fun Γ hl hnL hXT X => ?_)
  subst hl
  unfold F_L_tryLoad
  refine xr_aload_n (pc := 0) X (i := 0) 0 rfl rfl dL_tryLoad_0 ?_
  refine xr_callHVI (na := 0) (pc := 1) X (oo1) [] _ (c_X5_load Γ.2.1 hI hst oo1 hh1 σ) (wG_V wm_7_12 wm_7_9 wm_7_10 wm_7_11 wm_1_2) rfl rfl rfl (by decide +kernel) ⟨Nat.le_of_ble_eq_true rfl, Nat.le_of_ble_eq_true rfl⟩ hh1.1.1 hh1.1.2 rfl (T := TX5) (C := RX5) rfl rfl rfl (Nat.le_of_ble_eq_true rfl) ⟨Nat.le_of_ble_eq_true rfl, Nat.le_of_ble_eq_true rfl⟩ dL_tryLoad_1 (fun zz2 σ1 => ?_) (fun ee5 σ3 qq4 => ?_)
  · exact xr_iret (pc := 4) X (Nat.le_of_ble_eq_true rfl) (Nat.le_of_ble_eq_true rfl) dL_tryLoad_4
  refine xKX_if (fun hee6 => ?_) (fun hee6 => ?_)
  · subst hee6
    refine xKX_hat (hp := 5) (x_hat (E := "java/lang/IllegalStateException") (name := "java/lang/IllegalStateException") X hXT [] ⟨0, 4, 5, 31⟩ [] rfl (fun z hz => absurd hz List.not_mem_nil) (by decide) (by decide) wm_6_4 31 rfl rfl) ?_
    refine x_sub [] rfl ?_
    refine xr_astore_n (pc := 5) X (hf := rfl) (i := 1) [0] (Nat.le_of_ble_eq_true rfl) hnL rfl dL_tryLoad_5 ?_
    refine xr_ldc (pc := 6) X dL_tryLoad_6 (List.mem_cons_of_mem _ wm_6_6) ?_
    exact xr_iret (pc := 8) X (Nat.le_of_ble_eq_true rfl) (Nat.le_of_ble_eq_true rfl) dL_tryLoad_8
  exact xKX_none
def F_L_tryAbout (oo1 : Nat) (pp2 : Int32) (σ : xS) : Option (Int32 × xS) :=
  xbH (F_X5_about oo1 pp2 σ) (fun (zz2 : Int32) (σ1 : xS) => some (zz2, σ1))
 (fun (ee5 : Nat) (σ3 : xS) => (if ee5 = 2 then (some ((-9999002 : Int32), σ3)) else none))
abbrev rm_L_tryAbout : Room := { frames := 9, cells := 1, slots := 6, locals := 143 }
set_option maxHeartbeats 4000000 in
set_option maxRecDepth 100000 in
theorem c_L_tryAbout (l : Launch) {D : va_G} {ad : Nat → Nat} {N : Nat} {Sh : xSh} (hI : ∀ i j, i < N → j < N → ad i = ad j → i = j) (hst : l.stackTraces = false) (oo1 : Nat) (hh1 : xIs5 D ad N Sh oo1) (pp2 : Int32) (σ : xS) : xKI l yL_tryAbout (Cond.codeWith yL_tryAbout cL_tryAbout 3 (some .int) [(0, 5, 6, 20)] :: wG) rm_L_tryAbout 1 6 D ad N Sh [.ref (ad oo1), .int pp2] σ (F_L_tryAbout oo1 pp2 σ) := by
  refine x_startH (own := RL) (maxL := 3) (by decide) rfl rfl rfl (Nat.le_of_ble_eq_true rfl) rfl hI (fun Γ hl hnL hXT X => ?_)
  subst hl
  unfold F_L_tryAbout
  refine xr_aload_n (pc := 0) X (i := 0) 0 rfl rfl dL_tryAbout_0 ?_
  refine xr_iload_n (pc := 1) X (i := 1) 1 rfl rfl dL_tryAbout_1 ?_
  refine xr_callHVI (na := 1) (pc := 2) X (oo1) [.int pp2] _ (c_X5_about Γ.2.1 hI hst oo1 hh1 pp2 σ) (wG_V wm_13_10 wm_13_7 wm_13_8 wm_13_9 wm_1_2) rfl rfl rfl (by decide +kernel) ⟨Nat.le_of_ble_eq_true rfl, Nat.le_of_ble_eq_true rfl⟩ hh1.1.1 hh1.1.2 rfl (T := TX5) (C := RX5) rfl rfl rfl (Nat.le_of_ble_eq_true rfl) ⟨Nat.le_of_ble_eq_true rfl, Nat.le_of_ble_eq_true rfl⟩ dL_tryAbout_2 (fun zz2 σ1 => ?_) (fun ee5 σ3 qq4 => ?_)
  · exact xr_iret (pc := 5) X (Nat.le_of_ble_eq_true rfl) (Nat.le_of_ble_eq_true rfl) dL_tryAbout_5
  refine xKX_if (fun hee6 => ?_) (fun hee6 => ?_)
  · subst hee6
    refine xKX_hat (hp := 6) (x_hat (E := "java/lang/IllegalArgumentException") (name := "java/lang/IllegalArgumentException") X hXT [] ⟨0, 5, 6, 20⟩ [] rfl (fun z hz => absurd hz List.not_mem_nil) (by decide) (by decide) wm_6_3 30 rfl rfl) ?_
    refine x_sub [] rfl ?_
    refine xr_astore_n (pc := 6) X (hf := rfl) (i := 2) [0] (Nat.le_of_ble_eq_true rfl) hnL rfl dL_tryAbout_6 ?_
    refine xr_ldc (pc := 7) X dL_tryAbout_7 (List.mem_cons_of_mem _ wm_6_5) ?_
    exact xr_iret (pc := 9) X (Nat.le_of_ble_eq_true rfl) (Nat.le_of_ble_eq_true rfl) dL_tryAbout_9
  exact xKX_none
def F_L_tryWriter (oo1 : Nat) (pp2 : Int32) (pp3 : Int32) (σ : xS) : Option (Int32 × xS) :=
  xbH (F_X5_writer oo1 pp2 pp3 σ) (fun (zz2 : Int32) (σ1 : xS) => some (zz2, σ1))
 (fun (ee5 : Nat) (σ3 : xS) => (if ee5 = 1 then (some ((-9999001 : Int32), σ3)) else (if ee5 = 2 then (some ((-9999002 : Int32), σ3)) else none)))
abbrev rm_L_tryWriter : Room := { frames := 9, cells := 2, slots := 12, locals := 144 }
set_option maxHeartbeats 4000000 in
set_option maxRecDepth 100000 in
theorem c_L_tryWriter (l : Launch) {D : va_G} {ad : Nat → Nat} {N : Nat} {Sh : xSh} (hI : ∀ i j, i < N → j < N → ad i = ad j → i = j) (hst : l.stackTraces = false) (oo1 : Nat) (hh1 : xIs5 D ad N Sh oo1) (pp2 : Int32) (pp3 : Int32) (σ : xS) : xKI l yL_tryWriter (Cond.codeWith yL_tryWriter cL_tryWriter 4 (some .int) [(0, 6, 7, 13), (0, 6, 11, 20)] :: wG) rm_L_tryWriter 2 12 D ad N Sh [.ref (ad oo1), .int pp2, .int pp3] σ (F_L_tryWriter oo1 pp2 pp3 σ) := by
  refine x_startH (own := RL) (maxL := 4) (by decide) rfl rfl rfl (Nat.le_of_ble_eq_true rfl) rfl hI (fun Γ hl hnL hXT X => ?_)
  subst hl
  unfold F_L_tryWriter
  refine xr_aload_n (pc := 0) X (i := 0) 0 rfl rfl dL_tryWriter_0 ?_
  refine xr_iload_n (pc := 1) X (i := 1) 1 rfl rfl dL_tryWriter_1 ?_
  refine xr_iload_n (pc := 2) X (i := 2) 2 rfl rfl dL_tryWriter_2 ?_
  refine xr_callHVI (na := 2) (pc := 3) X (oo1) [.int pp2, .int pp3] _ (c_X5_writer Γ.2.1 hI hst oo1 hh1 pp2 pp3 σ) (wG_V wm_14_11 wm_14_8 wm_14_9 wm_14_10 wm_1_2) rfl rfl rfl (by decide +kernel) ⟨Nat.le_of_ble_eq_true rfl, Nat.le_of_ble_eq_true rfl⟩ hh1.1.1 hh1.1.2 rfl (T := TX5) (C := RX5) rfl rfl rfl (Nat.le_of_ble_eq_true rfl) ⟨Nat.le_of_ble_eq_true rfl, Nat.le_of_ble_eq_true rfl⟩ dL_tryWriter_3 (fun zz2 σ1 => ?_) (fun ee5 σ3 qq4 => ?_)
  · exact xr_iret (pc := 6) X (Nat.le_of_ble_eq_true rfl) (Nat.le_of_ble_eq_true rfl) dL_tryWriter_6
  refine xKX_if (fun hee6 => ?_) (fun hee6 => ?_)
  · subst hee6
    refine xKX_hat (hp := 7) (x_hat (E := "java/lang/IndexOutOfBoundsException") (name := "java/lang/IndexOutOfBoundsException") X hXT [] ⟨0, 6, 7, 13⟩ [⟨0, 6, 11, 20⟩] rfl (fun z hz => absurd hz List.not_mem_nil) (by decide) (by decide) wm_14_6 29 rfl rfl) ?_
    refine x_sub [] rfl ?_
    refine xr_astore_n (pc := 7) X (hf := rfl) (i := 3) [0] (Nat.le_of_ble_eq_true rfl) hnL rfl dL_tryWriter_7 ?_
    refine xr_ldc (pc := 8) X dL_tryWriter_8 (List.mem_cons_of_mem _ wm_14_7) ?_
    exact xr_iret (pc := 10) X (Nat.le_of_ble_eq_true rfl) (Nat.le_of_ble_eq_true rfl) dL_tryWriter_10
  refine xKX_if (fun hee7 => ?_) (fun hee7 => ?_)
  · subst hee7
    refine xKX_hat (hp := 11) (x_hat (E := "java/lang/IllegalArgumentException") (name := "java/lang/IllegalArgumentException") X hXT [⟨0, 6, 7, 13⟩] ⟨0, 6, 11, 20⟩ [] rfl (fun z hz => by rw [List.mem_singleton.mp hz]; exact ⟨by decide, _, wm_14_6, (xNC_of X).2.2.1⟩) (by decide) (by decide) wm_6_3 30 rfl rfl) ?_
    refine x_sub [] rfl ?_
    refine xr_astore_n (pc := 11) X (hf := rfl) (i := 3) [0] (Nat.le_of_ble_eq_true rfl) hnL rfl dL_tryWriter_11 ?_
    refine xr_ldc (pc := 12) X dL_tryWriter_12 (List.mem_cons_of_mem _ wm_6_5) ?_
    exact xr_iret (pc := 14) X (Nat.le_of_ble_eq_true rfl) (Nat.le_of_ble_eq_true rfl) dL_tryWriter_14
  exact xKX_none
def F_L_tryDesk (oo1 : Nat) (pp2 : Int32) (pp3 : Int32) (σ : xS) : Option (Int32 × xS) :=
  xbH (F_X5_desk oo1 pp2 pp3 σ) (fun (zz2 : Int32) (σ1 : xS) => some (zz2, σ1))
 (fun (ee5 : Nat) (σ3 : xS) => (if ee5 = 1 then (some ((-9999001 : Int32), σ3)) else (if ee5 = 2 then (some ((-9999002 : Int32), σ3)) else none)))
abbrev rm_L_tryDesk : Room := { frames := 9, cells := 2, slots := 12, locals := 144 }
set_option maxHeartbeats 4000000 in
set_option maxRecDepth 100000 in
theorem c_L_tryDesk (l : Launch) {D : va_G} {ad : Nat → Nat} {N : Nat} {Sh : xSh} (hI : ∀ i j, i < N → j < N → ad i = ad j → i = j) (hst : l.stackTraces = false) (oo1 : Nat) (hh1 : xIs5 D ad N Sh oo1) (pp2 : Int32) (pp3 : Int32) (σ : xS) : xKI l yL_tryDesk (Cond.codeWith yL_tryDesk cL_tryDesk 4 (some .int) [(0, 6, 7, 13), (0, 6, 11, 20)] :: wG) rm_L_tryDesk 2 12 D ad N Sh [.ref (ad oo1), .int pp2, .int pp3] σ (F_L_tryDesk oo1 pp2 pp3 σ) := by
  refine x_startH (own := RL) (maxL := 4) (by decide) rfl rfl rfl (Nat.le_of_ble_eq_true rfl) rfl hI (fun Γ hl hnL hXT X => ?_)
  subst hl
  unfold F_L_tryDesk
  refine xr_aload_n (pc := 0) X (i := 0) 0 rfl rfl dL_tryDesk_0 ?_
  refine xr_iload_n (pc := 1) X (i := 1) 1 rfl rfl dL_tryDesk_1 ?_
  refine xr_iload_n (pc := 2) X (i := 2) 2 rfl rfl dL_tryDesk_2 ?_
  refine xr_callHVI (na := 2) (pc := 3) X (oo1) [.int pp2, .int pp3] _ (c_X5_desk Γ.2.1 hI hst oo1 hh1 pp2 pp3 σ) (wG_V wm_14_20 wm_14_17 wm_14_18 wm_14_19 wm_1_2) rfl rfl rfl (by decide +kernel) ⟨Nat.le_of_ble_eq_true rfl, Nat.le_of_ble_eq_true rfl⟩ hh1.1.1 hh1.1.2 rfl (T := TX5) (C := RX5) rfl rfl rfl (Nat.le_of_ble_eq_true rfl) ⟨Nat.le_of_ble_eq_true rfl, Nat.le_of_ble_eq_true rfl⟩ dL_tryDesk_3 (fun zz2 σ1 => ?_) (fun ee5 σ3 qq4 => ?_)
  · exact xr_iret (pc := 6) X (Nat.le_of_ble_eq_true rfl) (Nat.le_of_ble_eq_true rfl) dL_tryDesk_6
  refine xKX_if (fun hee6 => ?_) (fun hee6 => ?_)
  · subst hee6
    refine xKX_hat (hp := 7) (x_hat (E := "java/lang/IndexOutOfBoundsException") (name := "java/lang/IndexOutOfBoundsException") X hXT [] ⟨0, 6, 7, 13⟩ [⟨0, 6, 11, 20⟩] rfl (fun z hz => absurd hz List.not_mem_nil) (by decide) (by decide) wm_14_6 29 rfl rfl) ?_
    refine x_sub [] rfl ?_
    refine xr_astore_n (pc := 7) X (hf := rfl) (i := 3) [0] (Nat.le_of_ble_eq_true rfl) hnL rfl dL_tryDesk_7 ?_
    refine xr_ldc (pc := 8) X dL_tryDesk_8 (List.mem_cons_of_mem _ wm_14_7) ?_
    exact xr_iret (pc := 10) X (Nat.le_of_ble_eq_true rfl) (Nat.le_of_ble_eq_true rfl) dL_tryDesk_10
  refine xKX_if (fun hee7 => ?_) (fun hee7 => ?_)
  · subst hee7
    refine xKX_hat (hp := 11) (x_hat (E := "java/lang/IllegalArgumentException") (name := "java/lang/IllegalArgumentException") X hXT [⟨0, 6, 7, 13⟩] ⟨0, 6, 11, 20⟩ [] rfl (fun z hz => by rw [List.mem_singleton.mp hz]; exact ⟨by decide, _, wm_14_6, (xNC_of X).2.2.1⟩) (by decide) (by decide) wm_6_3 30 rfl rfl) ?_
    refine x_sub [] rfl ?_
    refine xr_astore_n (pc := 11) X (hf := rfl) (i := 3) [0] (Nat.le_of_ble_eq_true rfl) hnL rfl dL_tryDesk_11 ?_
    refine xr_ldc (pc := 12) X dL_tryDesk_12 (List.mem_cons_of_mem _ wm_6_5) ?_
    exact xr_iret (pc := 14) X (Nat.le_of_ble_eq_true rfl) (Nat.le_of_ble_eq_true rfl) dL_tryDesk_14
  exact xKX_none
def F_L_tryLetter (oo1 : Nat) (pp2 : Int32) (pp3 : Int32) (pp4 : Int32) (σ : xS) : Option (Int32 × xS) :=
  xbH (F_X5_letter oo1 pp2 pp3 pp4 σ) (fun (zz2 : Int32) (σ1 : xS) => some (zz2, σ1))
 (fun (ee5 : Nat) (σ3 : xS) => (if ee5 = 1 then (some ((-9999001 : Int32), σ3)) else (if ee5 = 2 then (some ((-9999002 : Int32), σ3)) else none)))
abbrev rm_L_tryLetter : Room := { frames := 9, cells := 3, slots := 18, locals := 146 }
set_option maxHeartbeats 4000000 in
set_option maxRecDepth 100000 in
theorem c_L_tryLetter (l : Launch) {D : va_G} {ad : Nat → Nat} {N : Nat} {Sh : xSh} (hI : ∀ i j, i < N → j < N → ad i = ad j → i = j) (hst : l.stackTraces = false) (oo1 : Nat) (hh1 : xIs5 D ad N Sh oo1) (pp2 : Int32) (pp3 : Int32) (pp4 : Int32) (σ : xS) : xKI l yL_tryLetter (Cond.codeWith yL_tryLetter cL_tryLetter 5 (some .int) [(0, 7, 8, 13), (0, 7, 13, 20)] :: wG) rm_L_tryLetter 3 18 D ad N Sh [.ref (ad oo1), .int pp2, .int pp3, .int pp4] σ (F_L_tryLetter oo1 pp2 pp3 pp4 σ) := by
  refine x_startH (own := RL) (maxL := 5) (by decide) rfl rfl rfl (Nat.le_of_ble_eq_true rfl) rfl hI (fun Γ hl hnL hXT X => ?_)
  subst hl
  unfold F_L_tryLetter
  refine xr_aload_n (pc := 0) X (i := 0) 0 rfl rfl dL_tryLetter_0 ?_
  refine xr_iload_n (pc := 1) X (i := 1) 1 rfl rfl dL_tryLetter_1 ?_
  refine xr_iload_n (pc := 2) X (i := 2) 2 rfl rfl dL_tryLetter_2 ?_
  refine xr_iload_n (pc := 3) X (i := 3) 3 rfl rfl dL_tryLetter_3 ?_
  refine xr_callHVI (na := 3) (pc := 4) X (oo1) [.int pp2, .int pp3, .int pp4] _ (c_X5_letter Γ.2.1 hI hst oo1 hh1 pp2 pp3 pp4 σ) (wG_V wm_15_4 wm_15_1 wm_15_2 wm_15_3 wm_1_2) rfl rfl rfl (by decide +kernel) ⟨Nat.le_of_ble_eq_true rfl, Nat.le_of_ble_eq_true rfl⟩ hh1.1.1 hh1.1.2 rfl (T := TX5) (C := RX5) rfl rfl rfl (Nat.le_of_ble_eq_true rfl) ⟨Nat.le_of_ble_eq_true rfl, Nat.le_of_ble_eq_true rfl⟩ dL_tryLetter_4 (fun zz2 σ1 => ?_) (fun ee5 σ3 qq4 => ?_)
  · exact xr_iret (pc := 7) X (Nat.le_of_ble_eq_true rfl) (Nat.le_of_ble_eq_true rfl) dL_tryLetter_7
  refine xKX_if (fun hee6 => ?_) (fun hee6 => ?_)
  · subst hee6
    refine xKX_hat (hp := 8) (x_hat (E := "java/lang/IndexOutOfBoundsException") (name := "java/lang/IndexOutOfBoundsException") X hXT [] ⟨0, 7, 8, 13⟩ [⟨0, 7, 13, 20⟩] rfl (fun z hz => absurd hz List.not_mem_nil) (by decide) (by decide) wm_14_6 29 rfl rfl) ?_
    refine x_sub [] rfl ?_
    refine xr_astore (pc := 8) X (i := 4) [0] (Nat.le_of_ble_eq_true rfl) hnL rfl dL_tryLetter_8 ?_
    refine xr_ldc (pc := 10) X dL_tryLetter_10 (List.mem_cons_of_mem _ wm_14_7) ?_
    exact xr_iret (pc := 12) X (Nat.le_of_ble_eq_true rfl) (Nat.le_of_ble_eq_true rfl) dL_tryLetter_12
  refine xKX_if (fun hee7 => ?_) (fun hee7 => ?_)
  · subst hee7
    refine xKX_hat (hp := 13) (x_hat (E := "java/lang/IllegalArgumentException") (name := "java/lang/IllegalArgumentException") X hXT [⟨0, 7, 8, 13⟩] ⟨0, 7, 13, 20⟩ [] rfl (fun z hz => by rw [List.mem_singleton.mp hz]; exact ⟨by decide, _, wm_14_6, (xNC_of X).2.2.1⟩) (by decide) (by decide) wm_6_3 30 rfl rfl) ?_
    refine x_sub [] rfl ?_
    refine xr_astore (pc := 13) X (i := 4) [0] (Nat.le_of_ble_eq_true rfl) hnL rfl dL_tryLetter_13 ?_
    refine xr_ldc (pc := 15) X dL_tryLetter_15 (List.mem_cons_of_mem _ wm_6_5) ?_
    exact xr_iret (pc := 17) X (Nat.le_of_ble_eq_true rfl) (Nat.le_of_ble_eq_true rfl) dL_tryLetter_17
  exact xKX_none
def F_L_tryPlanned (oo1 : Nat) (pp2 : Int32) (pp3 : Int32) (σ : xS) : Option (Int32 × xS) :=
  xbH (F_X5_planned oo1 pp2 pp3 σ) (fun (zz2 : Int32) (σ1 : xS) => some (zz2, σ1))
 (fun (ee5 : Nat) (σ3 : xS) => (if ee5 = 1 then (some ((-9999001 : Int32), σ3)) else (if ee5 = 2 then (some ((-9999002 : Int32), σ3)) else none)))
abbrev rm_L_tryPlanned : Room := { frames := 9, cells := 2, slots := 12, locals := 145 }
set_option maxHeartbeats 4000000 in
set_option maxRecDepth 100000 in
theorem c_L_tryPlanned (l : Launch) {D : va_G} {ad : Nat → Nat} {N : Nat} {Sh : xSh} (hI : ∀ i j, i < N → j < N → ad i = ad j → i = j) (hst : l.stackTraces = false) (oo1 : Nat) (hh1 : xIs5 D ad N Sh oo1) (pp2 : Int32) (pp3 : Int32) (σ : xS) : xKI l yL_tryPlanned (Cond.codeWith yL_tryPlanned cL_tryPlanned 4 (some .int) [(0, 6, 7, 13), (0, 6, 11, 20)] :: wG) rm_L_tryPlanned 2 12 D ad N Sh [.ref (ad oo1), .int pp2, .int pp3] σ (F_L_tryPlanned oo1 pp2 pp3 σ) := by
  refine x_startH (own := RL) (maxL := 4) (by decide) rfl rfl rfl (Nat.le_of_ble_eq_true rfl) rfl hI (fun Γ hl hnL hXT X => ?_)
  subst hl
  unfold F_L_tryPlanned
  refine xr_aload_n (pc := 0) X (i := 0) 0 rfl rfl dL_tryPlanned_0 ?_
  refine xr_iload_n (pc := 1) X (i := 1) 1 rfl rfl dL_tryPlanned_1 ?_
  refine xr_iload_n (pc := 2) X (i := 2) 2 rfl rfl dL_tryPlanned_2 ?_
  refine xr_callHVI (na := 2) (pc := 3) X (oo1) [.int pp2, .int pp3] _ (c_X5_planned Γ.2.1 hI hst oo1 hh1 pp2 pp3 σ) (wG_V wm_15_13 wm_15_10 wm_15_11 wm_15_12 wm_1_2) rfl rfl rfl (by decide +kernel) ⟨Nat.le_of_ble_eq_true rfl, Nat.le_of_ble_eq_true rfl⟩ hh1.1.1 hh1.1.2 rfl (T := TX5) (C := RX5) rfl rfl rfl (Nat.le_of_ble_eq_true rfl) ⟨Nat.le_of_ble_eq_true rfl, Nat.le_of_ble_eq_true rfl⟩ dL_tryPlanned_3 (fun zz2 σ1 => ?_) (fun ee5 σ3 qq4 => ?_)
  · exact xr_iret (pc := 6) X (Nat.le_of_ble_eq_true rfl) (Nat.le_of_ble_eq_true rfl) dL_tryPlanned_6
  refine xKX_if (fun hee6 => ?_) (fun hee6 => ?_)
  · subst hee6
    refine xKX_hat (hp := 7) (x_hat (E := "java/lang/IndexOutOfBoundsException") (name := "java/lang/IndexOutOfBoundsException") X hXT [] ⟨0, 6, 7, 13⟩ [⟨0, 6, 11, 20⟩] rfl (fun z hz => absurd hz List.not_mem_nil) (by decide) (by decide) wm_14_6 29 rfl rfl) ?_
    refine x_sub [] rfl ?_
    refine xr_astore_n (pc := 7) X (hf := rfl) (i := 3) [0] (Nat.le_of_ble_eq_true rfl) hnL rfl dL_tryPlanned_7 ?_
    refine xr_ldc (pc := 8) X dL_tryPlanned_8 (List.mem_cons_of_mem _ wm_14_7) ?_
    exact xr_iret (pc := 10) X (Nat.le_of_ble_eq_true rfl) (Nat.le_of_ble_eq_true rfl) dL_tryPlanned_10
  refine xKX_if (fun hee7 => ?_) (fun hee7 => ?_)
  · subst hee7
    refine xKX_hat (hp := 11) (x_hat (E := "java/lang/IllegalArgumentException") (name := "java/lang/IllegalArgumentException") X hXT [⟨0, 6, 7, 13⟩] ⟨0, 6, 11, 20⟩ [] rfl (fun z hz => by rw [List.mem_singleton.mp hz]; exact ⟨by decide, _, wm_14_6, (xNC_of X).2.2.1⟩) (by decide) (by decide) wm_6_3 30 rfl rfl) ?_
    refine x_sub [] rfl ?_
    refine xr_astore_n (pc := 11) X (hf := rfl) (i := 3) [0] (Nat.le_of_ble_eq_true rfl) hnL rfl dL_tryPlanned_11 ?_
    refine xr_ldc (pc := 12) X dL_tryPlanned_12 (List.mem_cons_of_mem _ wm_6_5) ?_
    exact xr_iret (pc := 14) X (Nat.le_of_ble_eq_true rfl) (Nat.le_of_ble_eq_true rfl) dL_tryPlanned_14
  exact xKX_none
def F_L_trySetting (oo1 : Nat) (pp2 : Int32) (σ : xS) : Option (Int32 × xS) :=
  xbH (F_X5_setting oo1 pp2 σ) (fun (zz2 : Int32) (σ1 : xS) => some (zz2, σ1))
 (fun (ee5 : Nat) (σ3 : xS) => (if ee5 = 2 then (some ((-9999002 : Int32), σ3)) else none))
abbrev rm_L_trySetting : Room := { frames := 9, cells := 1, slots := 6, locals := 143 }
set_option maxHeartbeats 4000000 in
set_option maxRecDepth 100000 in
theorem c_L_trySetting (l : Launch) {D : va_G} {ad : Nat → Nat} {N : Nat} {Sh : xSh} (hI : ∀ i j, i < N → j < N → ad i = ad j → i = j) (hst : l.stackTraces = false) (oo1 : Nat) (hh1 : xIs5 D ad N Sh oo1) (pp2 : Int32) (σ : xS) : xKI l yL_trySetting (Cond.codeWith yL_trySetting cL_trySetting 3 (some .int) [(0, 5, 6, 20)] :: wG) rm_L_trySetting 1 6 D ad N Sh [.ref (ad oo1), .int pp2] σ (F_L_trySetting oo1 pp2 σ) := by
  refine x_startH (own := RL) (maxL := 3) (by decide) rfl rfl rfl (Nat.le_of_ble_eq_true rfl) rfl hI (fun Γ hl hnL hXT X => ?_)
  subst hl
  unfold F_L_trySetting
  refine xr_aload_n (pc := 0) X (i := 0) 0 rfl rfl dL_trySetting_0 ?_
  refine xr_iload_n (pc := 1) X (i := 1) 1 rfl rfl dL_trySetting_1 ?_
  refine xr_callHVI (na := 1) (pc := 2) X (oo1) [.int pp2] _ (c_X5_setting Γ.2.1 hI hst oo1 hh1 pp2 σ) (wG_V wm_15_21 wm_15_18 wm_15_19 wm_15_20 wm_1_2) rfl rfl rfl (by decide +kernel) ⟨Nat.le_of_ble_eq_true rfl, Nat.le_of_ble_eq_true rfl⟩ hh1.1.1 hh1.1.2 rfl (T := TX5) (C := RX5) rfl rfl rfl (Nat.le_of_ble_eq_true rfl) ⟨Nat.le_of_ble_eq_true rfl, Nat.le_of_ble_eq_true rfl⟩ dL_trySetting_2 (fun zz2 σ1 => ?_) (fun ee5 σ3 qq4 => ?_)
  · exact xr_iret (pc := 5) X (Nat.le_of_ble_eq_true rfl) (Nat.le_of_ble_eq_true rfl) dL_trySetting_5
  refine xKX_if (fun hee6 => ?_) (fun hee6 => ?_)
  · subst hee6
    refine xKX_hat (hp := 6) (x_hat (E := "java/lang/IllegalArgumentException") (name := "java/lang/IllegalArgumentException") X hXT [] ⟨0, 5, 6, 20⟩ [] rfl (fun z hz => absurd hz List.not_mem_nil) (by decide) (by decide) wm_6_3 30 rfl rfl) ?_
    refine x_sub [] rfl ?_
    refine xr_astore_n (pc := 6) X (hf := rfl) (i := 2) [0] (Nat.le_of_ble_eq_true rfl) hnL rfl dL_trySetting_6 ?_
    refine xr_ldc (pc := 7) X dL_trySetting_7 (List.mem_cons_of_mem _ wm_6_5) ?_
    exact xr_iret (pc := 9) X (Nat.le_of_ble_eq_true rfl) (Nat.le_of_ble_eq_true rfl) dL_trySetting_9
  exact xKX_none
def F_L_tryPost (oo1 : Nat) (pp2 : Int32) (σ : xS) : Option (Int32 × xS) :=
  xbH (F_X5_post oo1 pp2 σ) (fun (zz2 : Int32) (σ1 : xS) => some (zz2, σ1))
 (fun (ee5 : Nat) (σ3 : xS) => (if ee5 = 2 then (some ((-9999002 : Int32), σ3)) else none))
abbrev rm_L_tryPost : Room := { frames := 9, cells := 1, slots := 6, locals := 170 }
set_option maxHeartbeats 4000000 in
set_option maxRecDepth 100000 in
theorem c_L_tryPost (l : Launch) {D : va_G} {ad : Nat → Nat} {N : Nat} {Sh : xSh} (hI : ∀ i j, i < N → j < N → ad i = ad j → i = j) (hst : l.stackTraces = false) (oo1 : Nat) (hh1 : xIs5 D ad N Sh oo1) (pp2 : Int32) (σ : xS) : xKI l yL_tryPost (Cond.codeWith yL_tryPost cL_tryPost 3 (some .int) [(0, 5, 6, 20)] :: wG) rm_L_tryPost 1 6 D ad N Sh [.ref (ad oo1), .int pp2] σ (F_L_tryPost oo1 pp2 σ) := by
  refine x_startH (own := RL) (maxL := 3) (by decide) rfl rfl rfl (Nat.le_of_ble_eq_true rfl) rfl hI (fun Γ hl hnL hXT X => ?_)
  subst hl
  unfold F_L_tryPost
  refine xr_aload_n (pc := 0) X (i := 0) 0 rfl rfl dL_tryPost_0 ?_
  refine xr_iload_n (pc := 1) X (i := 1) 1 rfl rfl dL_tryPost_1 ?_
  refine xr_callHVI (na := 1) (pc := 2) X (oo1) [.int pp2] _ (c_X5_post Γ.2.1 hI hst oo1 hh1 pp2 σ) (wG_V wm_16_4 wm_16_1 wm_16_2 wm_16_3 wm_1_2) rfl rfl rfl (by decide +kernel) ⟨Nat.le_of_ble_eq_true rfl, Nat.le_of_ble_eq_true rfl⟩ hh1.1.1 hh1.1.2 rfl (T := TX5) (C := RX5) rfl rfl rfl (Nat.le_of_ble_eq_true rfl) ⟨Nat.le_of_ble_eq_true rfl, Nat.le_of_ble_eq_true rfl⟩ dL_tryPost_2 (fun zz2 σ1 => ?_) (fun ee5 σ3 qq4 => ?_)
  · exact xr_iret (pc := 5) X (Nat.le_of_ble_eq_true rfl) (Nat.le_of_ble_eq_true rfl) dL_tryPost_5
  refine xKX_if (fun hee6 => ?_) (fun hee6 => ?_)
  · subst hee6
    refine xKX_hat (hp := 6) (x_hat (E := "java/lang/IllegalArgumentException") (name := "java/lang/IllegalArgumentException") X hXT [] ⟨0, 5, 6, 20⟩ [] rfl (fun z hz => absurd hz List.not_mem_nil) (by decide) (by decide) wm_6_3 30 rfl rfl) ?_
    refine x_sub [] rfl ?_
    refine xr_astore_n (pc := 6) X (hf := rfl) (i := 2) [0] (Nat.le_of_ble_eq_true rfl) hnL rfl dL_tryPost_6 ?_
    refine xr_ldc (pc := 7) X dL_tryPost_7 (List.mem_cons_of_mem _ wm_6_5) ?_
    exact xr_iret (pc := 9) X (Nat.le_of_ble_eq_true rfl) (Nat.le_of_ble_eq_true rfl) dL_tryPost_9
  exact xKX_none
def F_L_tryWrite (oo1 : Nat) (pp2 : Int32) (pp3 : Int32) (σ : xS) : Option (Int32 × xS) :=
  xbH (F_X5_write oo1 pp2 pp3 σ) (fun (zz2 : Int32) (σ1 : xS) => some (zz2, σ1))
 (fun (ee5 : Nat) (σ3 : xS) => (if ee5 = 1 then (some ((-9999001 : Int32), σ3)) else (if ee5 = 2 then (some ((-9999002 : Int32), σ3)) else (if ee5 = 3 then (some ((-9999003 : Int32), σ3)) else none))))
abbrev rm_L_tryWrite : Room := { frames := 9, cells := 1, slots := 6, locals := 171 }
set_option maxHeartbeats 4000000 in
set_option maxRecDepth 100000 in
theorem c_L_tryWrite (l : Launch) {D : va_G} {ad : Nat → Nat} {N : Nat} {Sh : xSh} (hI : ∀ i j, i < N → j < N → ad i = ad j → i = j) (hst : l.stackTraces = false) (oo1 : Nat) (hh1 : xIs5 D ad N Sh oo1) (pp2 : Int32) (pp3 : Int32) (σ : xS) : xKI l yL_tryWrite (Cond.codeWith yL_tryWrite cL_tryWrite 4 (some .int) [(0, 6, 7, 13), (0, 6, 11, 20), (0, 6, 15, 31)] :: wG) rm_L_tryWrite 1 6 D ad N Sh [.ref (ad oo1), .int pp2, .int pp3] σ (F_L_tryWrite oo1 pp2 pp3 σ) := by
  refine x_startH (own := RL) (maxL := 4) (by decide) rfl rfl rfl (Nat.le_of_ble_eq_true rfl) rfl hI (fun Γ hl hnL hXT X => ?_)
  subst hl
  unfold F_L_tryWrite
  refine xr_aload_n (pc := 0) X (i := 0) 0 rfl rfl dL_tryWrite_0 ?_
  refine xr_iload_n (pc := 1) X (i := 1) 1 rfl rfl dL_tryWrite_1 ?_
  refine xr_iload_n (pc := 2) X (i := 2) 2 rfl rfl dL_tryWrite_2 ?_
  refine xr_callHVI (na := 2) (pc := 3) X (oo1) [.int pp2, .int pp3] _ (c_X5_write Γ.2.1 hI hst oo1 hh1 pp2 pp3 σ) (wG_V wm_17_13 wm_17_10 wm_17_11 wm_17_12 wm_1_2) rfl rfl rfl (by decide +kernel) ⟨Nat.le_of_ble_eq_true rfl, Nat.le_of_ble_eq_true rfl⟩ hh1.1.1 hh1.1.2 rfl (T := TX5) (C := RX5) rfl rfl rfl (Nat.le_of_ble_eq_true rfl) ⟨Nat.le_of_ble_eq_true rfl, Nat.le_of_ble_eq_true rfl⟩ dL_tryWrite_3 (fun zz2 σ1 => ?_) (fun ee5 σ3 qq4 => ?_)
  · exact xr_iret (pc := 6) X (Nat.le_of_ble_eq_true rfl) (Nat.le_of_ble_eq_true rfl) dL_tryWrite_6
  refine xKX_if (fun hee6 => ?_) (fun hee6 => ?_)
  · subst hee6
    refine xKX_hat (hp := 7) (x_hat (E := "java/lang/IndexOutOfBoundsException") (name := "java/lang/IndexOutOfBoundsException") X hXT [] ⟨0, 6, 7, 13⟩ [⟨0, 6, 11, 20⟩, ⟨0, 6, 15, 31⟩] rfl (fun z hz => absurd hz List.not_mem_nil) (by decide) (by decide) wm_14_6 29 rfl rfl) ?_
    refine x_sub [] rfl ?_
    refine xr_astore_n (pc := 7) X (hf := rfl) (i := 3) [0] (Nat.le_of_ble_eq_true rfl) hnL rfl dL_tryWrite_7 ?_
    refine xr_ldc (pc := 8) X dL_tryWrite_8 (List.mem_cons_of_mem _ wm_14_7) ?_
    exact xr_iret (pc := 10) X (Nat.le_of_ble_eq_true rfl) (Nat.le_of_ble_eq_true rfl) dL_tryWrite_10
  refine xKX_if (fun hee7 => ?_) (fun hee7 => ?_)
  · subst hee7
    refine xKX_hat (hp := 11) (x_hat (E := "java/lang/IllegalArgumentException") (name := "java/lang/IllegalArgumentException") X hXT [⟨0, 6, 7, 13⟩] ⟨0, 6, 11, 20⟩ [⟨0, 6, 15, 31⟩] rfl (fun z hz => by rw [List.mem_singleton.mp hz]; exact ⟨by decide, _, wm_14_6, (xNC_of X).2.2.1⟩) (by decide) (by decide) wm_6_3 30 rfl rfl) ?_
    refine x_sub [] rfl ?_
    refine xr_astore_n (pc := 11) X (hf := rfl) (i := 3) [0] (Nat.le_of_ble_eq_true rfl) hnL rfl dL_tryWrite_11 ?_
    refine xr_ldc (pc := 12) X dL_tryWrite_12 (List.mem_cons_of_mem _ wm_6_5) ?_
    exact xr_iret (pc := 14) X (Nat.le_of_ble_eq_true rfl) (Nat.le_of_ble_eq_true rfl) dL_tryWrite_14
  refine xKX_if (fun hee8 => ?_) (fun hee8 => ?_)
  · subst hee8
    refine xKX_hat (hp := 15) (x_hat (E := "java/lang/IllegalStateException") (name := "java/lang/IllegalStateException") X hXT [⟨0, 6, 7, 13⟩, ⟨0, 6, 11, 20⟩] ⟨0, 6, 15, 31⟩ [] rfl (fun z hz => (List.mem_cons.mp hz).elim (fun h => by rw [h]; exact ⟨by decide, _, wm_14_6, (xNC_of X).2.2.2.2.1⟩) (fun h => by rw [List.mem_singleton.mp h]; exact ⟨by decide, _, wm_6_3, (xNC_of X).2.2.2.2.2⟩)) (by decide) (by decide) wm_6_4 31 rfl rfl) ?_
    refine x_sub [] rfl ?_
    refine xr_astore_n (pc := 15) X (hf := rfl) (i := 3) [0] (Nat.le_of_ble_eq_true rfl) hnL rfl dL_tryWrite_15 ?_
    refine xr_ldc (pc := 16) X dL_tryWrite_16 (List.mem_cons_of_mem _ wm_6_6) ?_
    exact xr_iret (pc := 18) X (Nat.le_of_ble_eq_true rfl) (Nat.le_of_ble_eq_true rfl) dL_tryWrite_18
  exact xKX_none
def F_L_tryPlan (oo1 : Nat) (pp2 : Int32) (pp3 : Int32) (pp4 : Int32) (σ : xS) : Option (Int32 × xS) :=
  xbH (F_X5_plan oo1 pp2 pp3 pp4 σ) (fun (zz2 : Int32) (σ1 : xS) => some (zz2, σ1))
 (fun (ee5 : Nat) (σ3 : xS) => (if ee5 = 1 then (some ((-9999001 : Int32), σ3)) else (if ee5 = 2 then (some ((-9999002 : Int32), σ3)) else (if ee5 = 3 then (some ((-9999003 : Int32), σ3)) else none))))
abbrev rm_L_tryPlan : Room := { frames := 9, cells := 1, slots := 6, locals := 172 }
set_option maxHeartbeats 4000000 in
set_option maxRecDepth 100000 in
theorem c_L_tryPlan (l : Launch) {D : va_G} {ad : Nat → Nat} {N : Nat} {Sh : xSh} (hI : ∀ i j, i < N → j < N → ad i = ad j → i = j) (hst : l.stackTraces = false) (oo1 : Nat) (hh1 : xIs5 D ad N Sh oo1) (pp2 : Int32) (pp3 : Int32) (pp4 : Int32) (σ : xS) : xKI l yL_tryPlan (Cond.codeWith yL_tryPlan cL_tryPlan 5 (some .int) [(0, 7, 8, 13), (0, 7, 13, 20), (0, 7, 18, 31)] :: wG) rm_L_tryPlan 1 6 D ad N Sh [.ref (ad oo1), .int pp2, .int pp3, .int pp4] σ (F_L_tryPlan oo1 pp2 pp3 pp4 σ) := by
  refine x_startH (own := RL) (maxL := 5) (by decide) rfl rfl rfl (Nat.le_of_ble_eq_true rfl) rfl hI (fun Γ hl hnL hXT X => ?_)
  subst hl
  unfold F_L_tryPlan
  refine xr_aload_n (pc := 0) X (i := 0) 0 rfl rfl dL_tryPlan_0 ?_
  refine xr_iload_n (pc := 1) X (i := 1) 1 rfl rfl dL_tryPlan_1 ?_
  refine xr_iload_n (pc := 2) X (i := 2) 2 rfl rfl dL_tryPlan_2 ?_
  refine xr_iload_n (pc := 3) X (i := 3) 3 rfl rfl dL_tryPlan_3 ?_
  refine xr_callHVI (na := 3) (pc := 4) X (oo1) [.int pp2, .int pp3, .int pp4] _ (c_X5_plan Γ.2.1 hI hst oo1 hh1 pp2 pp3 pp4 σ) (wG_V wm_17_20 wm_17_17 wm_17_18 wm_17_19 wm_1_2) rfl rfl rfl (by decide +kernel) ⟨Nat.le_of_ble_eq_true rfl, Nat.le_of_ble_eq_true rfl⟩ hh1.1.1 hh1.1.2 rfl (T := TX5) (C := RX5) rfl rfl rfl (Nat.le_of_ble_eq_true rfl) ⟨Nat.le_of_ble_eq_true rfl, Nat.le_of_ble_eq_true rfl⟩ dL_tryPlan_4 (fun zz2 σ1 => ?_) (fun ee5 σ3 qq4 => ?_)
  · exact xr_iret (pc := 7) X (Nat.le_of_ble_eq_true rfl) (Nat.le_of_ble_eq_true rfl) dL_tryPlan_7
  refine xKX_if (fun hee6 => ?_) (fun hee6 => ?_)
  · subst hee6
    refine xKX_hat (hp := 8) (x_hat (E := "java/lang/IndexOutOfBoundsException") (name := "java/lang/IndexOutOfBoundsException") X hXT [] ⟨0, 7, 8, 13⟩ [⟨0, 7, 13, 20⟩, ⟨0, 7, 18, 31⟩] rfl (fun z hz => absurd hz List.not_mem_nil) (by decide) (by decide) wm_14_6 29 rfl rfl) ?_
    refine x_sub [] rfl ?_
    refine xr_astore (pc := 8) X (i := 4) [0] (Nat.le_of_ble_eq_true rfl) hnL rfl dL_tryPlan_8 ?_
    refine xr_ldc (pc := 10) X dL_tryPlan_10 (List.mem_cons_of_mem _ wm_14_7) ?_
    exact xr_iret (pc := 12) X (Nat.le_of_ble_eq_true rfl) (Nat.le_of_ble_eq_true rfl) dL_tryPlan_12
  refine xKX_if (fun hee7 => ?_) (fun hee7 => ?_)
  · subst hee7
    refine xKX_hat (hp := 13) (x_hat (E := "java/lang/IllegalArgumentException") (name := "java/lang/IllegalArgumentException") X hXT [⟨0, 7, 8, 13⟩] ⟨0, 7, 13, 20⟩ [⟨0, 7, 18, 31⟩] rfl (fun z hz => by rw [List.mem_singleton.mp hz]; exact ⟨by decide, _, wm_14_6, (xNC_of X).2.2.1⟩) (by decide) (by decide) wm_6_3 30 rfl rfl) ?_
    refine x_sub [] rfl ?_
    refine xr_astore (pc := 13) X (i := 4) [0] (Nat.le_of_ble_eq_true rfl) hnL rfl dL_tryPlan_13 ?_
    refine xr_ldc (pc := 15) X dL_tryPlan_15 (List.mem_cons_of_mem _ wm_6_5) ?_
    exact xr_iret (pc := 17) X (Nat.le_of_ble_eq_true rfl) (Nat.le_of_ble_eq_true rfl) dL_tryPlan_17
  refine xKX_if (fun hee8 => ?_) (fun hee8 => ?_)
  · subst hee8
    refine xKX_hat (hp := 18) (x_hat (E := "java/lang/IllegalStateException") (name := "java/lang/IllegalStateException") X hXT [⟨0, 7, 8, 13⟩, ⟨0, 7, 13, 20⟩] ⟨0, 7, 18, 31⟩ [] rfl (fun z hz => (List.mem_cons.mp hz).elim (fun h => by rw [h]; exact ⟨by decide, _, wm_14_6, (xNC_of X).2.2.2.2.1⟩) (fun h => by rw [List.mem_singleton.mp h]; exact ⟨by decide, _, wm_6_3, (xNC_of X).2.2.2.2.2⟩)) (by decide) (by decide) wm_6_4 31 rfl rfl) ?_
    refine x_sub [] rfl ?_
    refine xr_astore (pc := 18) X (i := 4) [0] (Nat.le_of_ble_eq_true rfl) hnL rfl dL_tryPlan_18 ?_
    refine xr_ldc (pc := 20) X dL_tryPlan_20 (List.mem_cons_of_mem _ wm_6_6) ?_
    exact xr_iret (pc := 22) X (Nat.le_of_ble_eq_true rfl) (Nat.le_of_ble_eq_true rfl) dL_tryPlan_22
  exact xKX_none
def F_L_tryFlush (oo1 : Nat) (pp2 : Int32) (σ : xS) : Option (Int32 × xS) :=
  xbH (F_X5_flush oo1 pp2 σ) (fun (zz2 : Int32) (σ1 : xS) => some (zz2, σ1))
 (fun (ee5 : Nat) (σ3 : xS) => (if ee5 = 1 then (some ((-9999001 : Int32), σ3)) else none))
abbrev rm_L_tryFlush : Room := { frames := 9, cells := 1, slots := 6, locals := 170 }
set_option maxHeartbeats 4000000 in
set_option maxRecDepth 100000 in
theorem c_L_tryFlush (l : Launch) {D : va_G} {ad : Nat → Nat} {N : Nat} {Sh : xSh} (hI : ∀ i j, i < N → j < N → ad i = ad j → i = j) (hst : l.stackTraces = false) (oo1 : Nat) (hh1 : xIs5 D ad N Sh oo1) (pp2 : Int32) (σ : xS) : xKI l yL_tryFlush (Cond.codeWith yL_tryFlush cL_tryFlush 3 (some .int) [(0, 5, 6, 13)] :: wG) rm_L_tryFlush 1 6 D ad N Sh [.ref (ad oo1), .int pp2] σ (F_L_tryFlush oo1 pp2 σ) := by
  refine x_startH (own := RL) (maxL := 3) (by decide) rfl rfl rfl (Nat.le_of_ble_eq_true rfl) rfl hI (fun Γ hl hnL hXT X => ?_)
  subst hl
  unfold F_L_tryFlush
  refine xr_aload_n (pc := 0) X (i := 0) 0 rfl rfl dL_tryFlush_0 ?_
  refine xr_iload_n (pc := 1) X (i := 1) 1 rfl rfl dL_tryFlush_1 ?_
  refine xr_callHVI (na := 1) (pc := 2) X (oo1) [.int pp2] _ (c_X5_flush Γ.2.1 hI hst oo1 hh1 pp2 σ) (wG_V wm_18_3 wm_18_0 wm_18_1 wm_18_2 wm_1_2) rfl rfl rfl (by decide +kernel) ⟨Nat.le_of_ble_eq_true rfl, Nat.le_of_ble_eq_true rfl⟩ hh1.1.1 hh1.1.2 rfl (T := TX5) (C := RX5) rfl rfl rfl (Nat.le_of_ble_eq_true rfl) ⟨Nat.le_of_ble_eq_true rfl, Nat.le_of_ble_eq_true rfl⟩ dL_tryFlush_2 (fun zz2 σ1 => ?_) (fun ee5 σ3 qq4 => ?_)
  · exact xr_iret (pc := 5) X (Nat.le_of_ble_eq_true rfl) (Nat.le_of_ble_eq_true rfl) dL_tryFlush_5
  refine xKX_if (fun hee6 => ?_) (fun hee6 => ?_)
  · subst hee6
    refine xKX_hat (hp := 6) (x_hat (E := "java/lang/IndexOutOfBoundsException") (name := "java/lang/IndexOutOfBoundsException") X hXT [] ⟨0, 5, 6, 13⟩ [] rfl (fun z hz => absurd hz List.not_mem_nil) (by decide) (by decide) wm_14_6 29 rfl rfl) ?_
    refine x_sub [] rfl ?_
    refine xr_astore_n (pc := 6) X (hf := rfl) (i := 2) [0] (Nat.le_of_ble_eq_true rfl) hnL rfl dL_tryFlush_6 ?_
    refine xr_ldc (pc := 7) X dL_tryFlush_7 (List.mem_cons_of_mem _ wm_14_7) ?_
    exact xr_iret (pc := 9) X (Nat.le_of_ble_eq_true rfl) (Nat.le_of_ble_eq_true rfl) dL_tryFlush_9
  exact xKX_none
def F_L_tryTicks (oo1 : Nat) (pp2 : Int32) (σ : xS) : Option (Int32 × xS) :=
  xbH (F_X5_ticks oo1 pp2 σ) (fun (zz2 : Int32) (σ1 : xS) => some (zz2, σ1))
 (fun (ee5 : Nat) (σ3 : xS) => (if ee5 = 2 then (some ((-9999002 : Int32), σ3)) else (if ee5 = 3 then (some ((-9999003 : Int32), σ3)) else none)))
abbrev rm_L_tryTicks : Room := { frames := 9, cells := 3, slots := 18, locals := 170 }
set_option maxHeartbeats 4000000 in
set_option maxRecDepth 100000 in
theorem c_L_tryTicks (l : Launch) {D : va_G} {ad : Nat → Nat} {N : Nat} {Sh : xSh} (hI : ∀ i j, i < N → j < N → ad i = ad j → i = j) (hst : l.stackTraces = false) (oo1 : Nat) (hh1 : xIs5 D ad N Sh oo1) (pp2 : Int32) (σ : xS) : xKI l yL_tryTicks (Cond.codeWith yL_tryTicks cL_tryTicks 3 (some .int) [(0, 5, 6, 20), (0, 5, 10, 31)] :: wG) rm_L_tryTicks 3 18 D ad N Sh [.ref (ad oo1), .int pp2] σ (F_L_tryTicks oo1 pp2 σ) := by
  refine x_startH (own := RL) (maxL := 3) (by decide) rfl rfl rfl (Nat.le_of_ble_eq_true rfl) rfl hI (fun Γ hl hnL hXT X => ?_)
  subst hl
  unfold F_L_tryTicks
  refine xr_aload_n (pc := 0) X (i := 0) 0 rfl rfl dL_tryTicks_0 ?_
  refine xr_iload_n (pc := 1) X (i := 1) 1 rfl rfl dL_tryTicks_1 ?_
  refine xr_callHVI (na := 1) (pc := 2) X (oo1) [.int pp2] _ (c_X5_ticks Γ.2.1 hI hst oo1 hh1 pp2 σ) (wG_V wm_18_10 wm_18_7 wm_18_8 wm_18_9 wm_1_2) rfl rfl rfl (by decide +kernel) ⟨Nat.le_of_ble_eq_true rfl, Nat.le_of_ble_eq_true rfl⟩ hh1.1.1 hh1.1.2 rfl (T := TX5) (C := RX5) rfl rfl rfl (Nat.le_of_ble_eq_true rfl) ⟨Nat.le_of_ble_eq_true rfl, Nat.le_of_ble_eq_true rfl⟩ dL_tryTicks_2 (fun zz2 σ1 => ?_) (fun ee5 σ3 qq4 => ?_)
  · exact xr_iret (pc := 5) X (Nat.le_of_ble_eq_true rfl) (Nat.le_of_ble_eq_true rfl) dL_tryTicks_5
  refine xKX_if (fun hee6 => ?_) (fun hee6 => ?_)
  · subst hee6
    refine xKX_hat (hp := 6) (x_hat (E := "java/lang/IllegalArgumentException") (name := "java/lang/IllegalArgumentException") X hXT [] ⟨0, 5, 6, 20⟩ [⟨0, 5, 10, 31⟩] rfl (fun z hz => absurd hz List.not_mem_nil) (by decide) (by decide) wm_6_3 30 rfl rfl) ?_
    refine x_sub [] rfl ?_
    refine xr_astore_n (pc := 6) X (hf := rfl) (i := 2) [0] (Nat.le_of_ble_eq_true rfl) hnL rfl dL_tryTicks_6 ?_
    refine xr_ldc (pc := 7) X dL_tryTicks_7 (List.mem_cons_of_mem _ wm_6_5) ?_
    exact xr_iret (pc := 9) X (Nat.le_of_ble_eq_true rfl) (Nat.le_of_ble_eq_true rfl) dL_tryTicks_9
  refine xKX_if (fun hee7 => ?_) (fun hee7 => ?_)
  · subst hee7
    refine xKX_hat (hp := 10) (x_hat (E := "java/lang/IllegalStateException") (name := "java/lang/IllegalStateException") X hXT [⟨0, 5, 6, 20⟩] ⟨0, 5, 10, 31⟩ [] rfl (fun z hz => by rw [List.mem_singleton.mp hz]; exact ⟨by decide, _, wm_6_3, (xNC_of X).2.2.2.2.2⟩) (by decide) (by decide) wm_6_4 31 rfl rfl) ?_
    refine x_sub [] rfl ?_
    refine xr_astore_n (pc := 10) X (hf := rfl) (i := 2) [0] (Nat.le_of_ble_eq_true rfl) hnL rfl dL_tryTicks_10 ?_
    refine xr_ldc (pc := 11) X dL_tryTicks_11 (List.mem_cons_of_mem _ wm_6_6) ?_
    exact xr_iret (pc := 13) X (Nat.le_of_ble_eq_true rfl) (Nat.le_of_ble_eq_true rfl) dL_tryTicks_13
  exact xKX_none
def F_L_tryLay (oo1 : Nat) (pp2 : Int32) (pp3 : Int32) (σ : xS) : Option (Int32 × xS) :=
  xbH (F_X5_set oo1 pp2 pp3 σ) (fun (zz2 : Int32) (σ1 : xS) => some (zz2, σ1))
 (fun (ee5 : Nat) (σ3 : xS) => (if ee5 = 2 then (some ((-9999002 : Int32), σ3)) else none))
abbrev rm_L_tryLay : Room := { frames := 9, cells := 1, slots := 6, locals := 171 }
set_option maxHeartbeats 4000000 in
set_option maxRecDepth 100000 in
theorem c_L_tryLay (l : Launch) {D : va_G} {ad : Nat → Nat} {N : Nat} {Sh : xSh} (hI : ∀ i j, i < N → j < N → ad i = ad j → i = j) (hst : l.stackTraces = false) (oo1 : Nat) (hh1 : xIs5 D ad N Sh oo1) (pp2 : Int32) (pp3 : Int32) (σ : xS) : xKI l yL_tryLay (Cond.codeWith yL_tryLay cL_tryLay 4 (some .int) [(0, 6, 7, 20)] :: wG) rm_L_tryLay 1 6 D ad N Sh [.ref (ad oo1), .int pp2, .int pp3] σ (F_L_tryLay oo1 pp2 pp3 σ) := by
  refine x_startH (own := RL) (maxL := 4) (by decide) rfl rfl rfl (Nat.le_of_ble_eq_true rfl) rfl hI (fun Γ hl hnL hXT X => ?_)
  subst hl
  unfold F_L_tryLay
  refine xr_aload_n (pc := 0) X (i := 0) 0 rfl rfl dL_tryLay_0 ?_
  refine xr_iload_n (pc := 1) X (i := 1) 1 rfl rfl dL_tryLay_1 ?_
  refine xr_iload_n (pc := 2) X (i := 2) 2 rfl rfl dL_tryLay_2 ?_
  refine xr_callHVI (na := 2) (pc := 3) X (oo1) [.int pp2, .int pp3] _ (c_X5_set Γ.2.1 hI hst oo1 hh1 pp2 pp3 σ) (wG_V wm_18_18 wm_18_15 wm_18_16 wm_18_17 wm_1_2) rfl rfl rfl (by decide +kernel) ⟨Nat.le_of_ble_eq_true rfl, Nat.le_of_ble_eq_true rfl⟩ hh1.1.1 hh1.1.2 rfl (T := TX5) (C := RX5) rfl rfl rfl (Nat.le_of_ble_eq_true rfl) ⟨Nat.le_of_ble_eq_true rfl, Nat.le_of_ble_eq_true rfl⟩ dL_tryLay_3 (fun zz2 σ1 => ?_) (fun ee5 σ3 qq4 => ?_)
  · exact xr_iret (pc := 6) X (Nat.le_of_ble_eq_true rfl) (Nat.le_of_ble_eq_true rfl) dL_tryLay_6
  refine xKX_if (fun hee6 => ?_) (fun hee6 => ?_)
  · subst hee6
    refine xKX_hat (hp := 7) (x_hat (E := "java/lang/IllegalArgumentException") (name := "java/lang/IllegalArgumentException") X hXT [] ⟨0, 6, 7, 20⟩ [] rfl (fun z hz => absurd hz List.not_mem_nil) (by decide) (by decide) wm_6_3 30 rfl rfl) ?_
    refine x_sub [] rfl ?_
    refine xr_astore_n (pc := 7) X (hf := rfl) (i := 3) [0] (Nat.le_of_ble_eq_true rfl) hnL rfl dL_tryLay_7 ?_
    refine xr_ldc (pc := 8) X dL_tryLay_8 (List.mem_cons_of_mem _ wm_6_5) ?_
    exact xr_iret (pc := 10) X (Nat.le_of_ble_eq_true rfl) (Nat.le_of_ble_eq_true rfl) dL_tryLay_10
  exact xKX_none
def F_L_tryUndo (oo1 : Nat) (σ : xS) : Option (Int32 × xS) :=
  xbH (F_X5_undo oo1 σ) (fun (zz2 : Int32) (σ1 : xS) => some (zz2, σ1))
 (fun (ee5 : Nat) (σ3 : xS) => (if ee5 = 3 then (some ((-9999003 : Int32), σ3)) else none))
abbrev rm_L_tryUndo : Room := { frames := 9, cells := 1, slots := 6, locals := 142 }
set_option maxHeartbeats 4000000 in
set_option maxRecDepth 100000 in
theorem c_L_tryUndo (l : Launch) {D : va_G} {ad : Nat → Nat} {N : Nat} {Sh : xSh} (hI : ∀ i j, i < N → j < N → ad i = ad j → i = j) (hst : l.stackTraces = false) (oo1 : Nat) (hh1 : xIs5 D ad N Sh oo1) (σ : xS) : xKI l yL_tryUndo (Cond.codeWith yL_tryUndo cL_tryUndo 2 (some .int) [(0, 4, 5, 31)] :: wG) rm_L_tryUndo 1 6 D ad N Sh [.ref (ad oo1)] σ (F_L_tryUndo oo1 σ) := by
  refine x_startH (own := RL) (maxL := 2) (by decide) rfl rfl rfl (Nat.le_of_ble_eq_true rfl) rfl hI (fun Γ hl hnL hXT X => ?_)
  subst hl
  unfold F_L_tryUndo
  refine xr_aload_n (pc := 0) X (i := 0) 0 rfl rfl dL_tryUndo_0 ?_
  refine xr_callHVI (na := 0) (pc := 1) X (oo1) [] _ (c_X5_undo Γ.2.1 hI hst oo1 hh1 σ) (wG_V wm_19_1 wm_18_22 wm_18_23 wm_19_0 wm_1_2) rfl rfl rfl (by decide +kernel) ⟨Nat.le_of_ble_eq_true rfl, Nat.le_of_ble_eq_true rfl⟩ hh1.1.1 hh1.1.2 rfl (T := TX5) (C := RX5) rfl rfl rfl (Nat.le_of_ble_eq_true rfl) ⟨Nat.le_of_ble_eq_true rfl, Nat.le_of_ble_eq_true rfl⟩ dL_tryUndo_1 (fun zz2 σ1 => ?_) (fun ee5 σ3 qq4 => ?_)
  · exact xr_iret (pc := 4) X (Nat.le_of_ble_eq_true rfl) (Nat.le_of_ble_eq_true rfl) dL_tryUndo_4
  refine xKX_if (fun hee6 => ?_) (fun hee6 => ?_)
  · subst hee6
    refine xKX_hat (hp := 5) (x_hat (E := "java/lang/IllegalStateException") (name := "java/lang/IllegalStateException") X hXT [] ⟨0, 4, 5, 31⟩ [] rfl (fun z hz => absurd hz List.not_mem_nil) (by decide) (by decide) wm_6_4 31 rfl rfl) ?_
    refine x_sub [] rfl ?_
    refine xr_astore_n (pc := 5) X (hf := rfl) (i := 1) [0] (Nat.le_of_ble_eq_true rfl) hnL rfl dL_tryUndo_5 ?_
    refine xr_ldc (pc := 6) X dL_tryUndo_6 (List.mem_cons_of_mem _ wm_6_6) ?_
    exact xr_iret (pc := 8) X (Nat.le_of_ble_eq_true rfl) (Nat.le_of_ble_eq_true rfl) dL_tryUndo_8
  exact xKX_none
def F_L_tryDone (oo1 : Nat) (pp2 : Int32) (σ : xS) : Option (Int32 × xS) :=
  xbH (F_X5_doneIn oo1 pp2 σ) (fun (zz2 : Int32) (σ1 : xS) => some (zz2, σ1))
 (fun (ee5 : Nat) (σ3 : xS) => (if ee5 = 1 then (some ((-9999001 : Int32), σ3)) else none))
abbrev rm_L_tryDone : Room := { frames := 8, cells := 1, slots := 6, locals := 145 }
set_option maxHeartbeats 4000000 in
set_option maxRecDepth 100000 in
theorem c_L_tryDone (l : Launch) {D : va_G} {ad : Nat → Nat} {N : Nat} {Sh : xSh} (hI : ∀ i j, i < N → j < N → ad i = ad j → i = j) (hst : l.stackTraces = false) (oo1 : Nat) (hh1 : xIs5 D ad N Sh oo1) (pp2 : Int32) (σ : xS) : xKI l yL_tryDone (Cond.codeWith yL_tryDone cL_tryDone 3 (some .int) [(0, 5, 6, 13)] :: wG) rm_L_tryDone 1 6 D ad N Sh [.ref (ad oo1), .int pp2] σ (F_L_tryDone oo1 pp2 σ) := by
  refine x_startH (own := RL) (maxL := 3) (by decide) rfl rfl rfl (Nat.le_of_ble_eq_true rfl) rfl hI (fun Γ hl hnL hXT X => ?_)
  subst hl
  unfold F_L_tryDone
  refine xr_aload_n (pc := 0) X (i := 0) 0 rfl rfl dL_tryDone_0 ?_
  refine xr_iload_n (pc := 1) X (i := 1) 1 rfl rfl dL_tryDone_1 ?_
  refine xr_callHVI (na := 1) (pc := 2) X (oo1) [.int pp2] _ (c_X5_doneIn Γ.2.1 hI hst oo1 hh1 pp2 σ) (wG_V wm_19_12 wm_19_9 wm_19_10 wm_19_11 wm_1_2) rfl rfl rfl (by decide +kernel) ⟨Nat.le_of_ble_eq_true rfl, Nat.le_of_ble_eq_true rfl⟩ hh1.1.1 hh1.1.2 rfl (T := TX5) (C := RX5) rfl rfl rfl (Nat.le_of_ble_eq_true rfl) ⟨Nat.le_of_ble_eq_true rfl, Nat.le_of_ble_eq_true rfl⟩ dL_tryDone_2 (fun zz2 σ1 => ?_) (fun ee5 σ3 qq4 => ?_)
  · exact xr_iret (pc := 5) X (Nat.le_of_ble_eq_true rfl) (Nat.le_of_ble_eq_true rfl) dL_tryDone_5
  refine xKX_if (fun hee6 => ?_) (fun hee6 => ?_)
  · subst hee6
    refine xKX_hat (hp := 6) (x_hat (E := "java/lang/IndexOutOfBoundsException") (name := "java/lang/IndexOutOfBoundsException") X hXT [] ⟨0, 5, 6, 13⟩ [] rfl (fun z hz => absurd hz List.not_mem_nil) (by decide) (by decide) wm_14_6 29 rfl rfl) ?_
    refine x_sub [] rfl ?_
    refine xr_astore_n (pc := 6) X (hf := rfl) (i := 2) [0] (Nat.le_of_ble_eq_true rfl) hnL rfl dL_tryDone_6 ?_
    refine xr_ldc (pc := 7) X dL_tryDone_7 (List.mem_cons_of_mem _ wm_14_7) ?_
    exact xr_iret (pc := 9) X (Nat.le_of_ble_eq_true rfl) (Nat.le_of_ble_eq_true rfl) dL_tryDone_9
  exact xKX_none
def F_L_tryThere (oo1 : Nat) (pp2 : Int32) (pp3 : Int32) (σ : xS) : Option (Int32 × xS) :=
  xbH (F_X5_thereIn oo1 pp2 pp3 σ) (fun (zz2 : Int32) (σ1 : xS) => some (zz2, σ1))
 (fun (ee5 : Nat) (σ3 : xS) => (if ee5 = 1 then (some ((-9999001 : Int32), σ3)) else (if ee5 = 2 then (some ((-9999002 : Int32), σ3)) else none)))
abbrev rm_L_tryThere : Room := { frames := 8, cells := 1, slots := 6, locals := 148 }
set_option maxHeartbeats 4000000 in
set_option maxRecDepth 100000 in
theorem c_L_tryThere (l : Launch) {D : va_G} {ad : Nat → Nat} {N : Nat} {Sh : xSh} (hI : ∀ i j, i < N → j < N → ad i = ad j → i = j) (hst : l.stackTraces = false) (oo1 : Nat) (hh1 : xIs5 D ad N Sh oo1) (pp2 : Int32) (pp3 : Int32) (σ : xS) : xKI l yL_tryThere (Cond.codeWith yL_tryThere cL_tryThere 4 (some .int) [(0, 6, 7, 13), (0, 6, 11, 20)] :: wG) rm_L_tryThere 1 6 D ad N Sh [.ref (ad oo1), .int pp2, .int pp3] σ (F_L_tryThere oo1 pp2 pp3 σ) := by
  refine x_startH (own := RL) (maxL := 4) (by decide) rfl rfl rfl (Nat.le_of_ble_eq_true rfl) rfl hI (fun Γ hl hnL hXT X => ?_)
  subst hl
  unfold F_L_tryThere
  refine xr_aload_n (pc := 0) X (i := 0) 0 rfl rfl dL_tryThere_0 ?_
  refine xr_iload_n (pc := 1) X (i := 1) 1 rfl rfl dL_tryThere_1 ?_
  refine xr_iload_n (pc := 2) X (i := 2) 2 rfl rfl dL_tryThere_2 ?_
  refine xr_callHVI (na := 2) (pc := 3) X (oo1) [.int pp2, .int pp3] _ (c_X5_thereIn Γ.2.1 hI hst oo1 hh1 pp2 pp3 σ) (wG_V wm_20_8 wm_20_5 wm_20_6 wm_20_7 wm_1_2) rfl rfl rfl (by decide +kernel) ⟨Nat.le_of_ble_eq_true rfl, Nat.le_of_ble_eq_true rfl⟩ hh1.1.1 hh1.1.2 rfl (T := TX5) (C := RX5) rfl rfl rfl (Nat.le_of_ble_eq_true rfl) ⟨Nat.le_of_ble_eq_true rfl, Nat.le_of_ble_eq_true rfl⟩ dL_tryThere_3 (fun zz2 σ1 => ?_) (fun ee5 σ3 qq4 => ?_)
  · exact xr_iret (pc := 6) X (Nat.le_of_ble_eq_true rfl) (Nat.le_of_ble_eq_true rfl) dL_tryThere_6
  refine xKX_if (fun hee6 => ?_) (fun hee6 => ?_)
  · subst hee6
    refine xKX_hat (hp := 7) (x_hat (E := "java/lang/IndexOutOfBoundsException") (name := "java/lang/IndexOutOfBoundsException") X hXT [] ⟨0, 6, 7, 13⟩ [⟨0, 6, 11, 20⟩] rfl (fun z hz => absurd hz List.not_mem_nil) (by decide) (by decide) wm_14_6 29 rfl rfl) ?_
    refine x_sub [] rfl ?_
    refine xr_astore_n (pc := 7) X (hf := rfl) (i := 3) [0] (Nat.le_of_ble_eq_true rfl) hnL rfl dL_tryThere_7 ?_
    refine xr_ldc (pc := 8) X dL_tryThere_8 (List.mem_cons_of_mem _ wm_14_7) ?_
    exact xr_iret (pc := 10) X (Nat.le_of_ble_eq_true rfl) (Nat.le_of_ble_eq_true rfl) dL_tryThere_10
  refine xKX_if (fun hee7 => ?_) (fun hee7 => ?_)
  · subst hee7
    refine xKX_hat (hp := 11) (x_hat (E := "java/lang/IllegalArgumentException") (name := "java/lang/IllegalArgumentException") X hXT [⟨0, 6, 7, 13⟩] ⟨0, 6, 11, 20⟩ [] rfl (fun z hz => by rw [List.mem_singleton.mp hz]; exact ⟨by decide, _, wm_14_6, (xNC_of X).2.2.1⟩) (by decide) (by decide) wm_6_3 30 rfl rfl) ?_
    refine x_sub [] rfl ?_
    refine xr_astore_n (pc := 11) X (hf := rfl) (i := 3) [0] (Nat.le_of_ble_eq_true rfl) hnL rfl dL_tryThere_11 ?_
    refine xr_ldc (pc := 12) X dL_tryThere_12 (List.mem_cons_of_mem _ wm_6_5) ?_
    exact xr_iret (pc := 14) X (Nat.le_of_ble_eq_true rfl) (Nat.le_of_ble_eq_true rfl) dL_tryThere_14
  exact xKX_none
def F_L_tryIf (oo1 : Nat) (pp2 : Int32) (pp3 : Int32) (σ : xS) : Option (Int32 × xS) :=
  xbH (F_X5_ifHeld oo1 pp2 pp3 σ) (fun (zz2 : Int32) (σ1 : xS) => some (zz2, σ1))
 (fun (ee5 : Nat) (σ3 : xS) => (if ee5 = 1 then (some ((-9999001 : Int32), σ3)) else (if ee5 = 2 then (some ((-9999002 : Int32), σ3)) else none)))
abbrev rm_L_tryIf : Room := { frames := 9, cells := 2, slots := 12, locals := 148 }
set_option maxHeartbeats 4000000 in
set_option maxRecDepth 100000 in
theorem c_L_tryIf (l : Launch) {D : va_G} {ad : Nat → Nat} {N : Nat} {Sh : xSh} (hI : ∀ i j, i < N → j < N → ad i = ad j → i = j) (hst : l.stackTraces = false) (oo1 : Nat) (hh1 : xIs5 D ad N Sh oo1) (pp2 : Int32) (pp3 : Int32) (σ : xS) : xKI l yL_tryIf (Cond.codeWith yL_tryIf cL_tryIf 4 (some .int) [(0, 6, 7, 13), (0, 6, 11, 20)] :: wG) rm_L_tryIf 2 12 D ad N Sh [.ref (ad oo1), .int pp2, .int pp3] σ (F_L_tryIf oo1 pp2 pp3 σ) := by
  refine x_startH (own := RL) (maxL := 4) (by decide) rfl rfl rfl (Nat.le_of_ble_eq_true rfl) rfl hI (fun Γ hl hnL hXT X => ?_)
  subst hl
  unfold F_L_tryIf
  refine xr_aload_n (pc := 0) X (i := 0) 0 rfl rfl dL_tryIf_0 ?_
  refine xr_iload_n (pc := 1) X (i := 1) 1 rfl rfl dL_tryIf_1 ?_
  refine xr_iload_n (pc := 2) X (i := 2) 2 rfl rfl dL_tryIf_2 ?_
  refine xr_callHVI (na := 2) (pc := 3) X (oo1) [.int pp2, .int pp3] _ (c_X5_ifHeld Γ.2.1 hI hst oo1 hh1 pp2 pp3 σ) (wG_V wm_20_19 wm_20_16 wm_20_17 wm_20_18 wm_1_2) rfl rfl rfl (by decide +kernel) ⟨Nat.le_of_ble_eq_true rfl, Nat.le_of_ble_eq_true rfl⟩ hh1.1.1 hh1.1.2 rfl (T := TX5) (C := RX5) rfl rfl rfl (Nat.le_of_ble_eq_true rfl) ⟨Nat.le_of_ble_eq_true rfl, Nat.le_of_ble_eq_true rfl⟩ dL_tryIf_3 (fun zz2 σ1 => ?_) (fun ee5 σ3 qq4 => ?_)
  · exact xr_iret (pc := 6) X (Nat.le_of_ble_eq_true rfl) (Nat.le_of_ble_eq_true rfl) dL_tryIf_6
  refine xKX_if (fun hee6 => ?_) (fun hee6 => ?_)
  · subst hee6
    refine xKX_hat (hp := 7) (x_hat (E := "java/lang/IndexOutOfBoundsException") (name := "java/lang/IndexOutOfBoundsException") X hXT [] ⟨0, 6, 7, 13⟩ [⟨0, 6, 11, 20⟩] rfl (fun z hz => absurd hz List.not_mem_nil) (by decide) (by decide) wm_14_6 29 rfl rfl) ?_
    refine x_sub [] rfl ?_
    refine xr_astore_n (pc := 7) X (hf := rfl) (i := 3) [0] (Nat.le_of_ble_eq_true rfl) hnL rfl dL_tryIf_7 ?_
    refine xr_ldc (pc := 8) X dL_tryIf_8 (List.mem_cons_of_mem _ wm_14_7) ?_
    exact xr_iret (pc := 10) X (Nat.le_of_ble_eq_true rfl) (Nat.le_of_ble_eq_true rfl) dL_tryIf_10
  refine xKX_if (fun hee7 => ?_) (fun hee7 => ?_)
  · subst hee7
    refine xKX_hat (hp := 11) (x_hat (E := "java/lang/IllegalArgumentException") (name := "java/lang/IllegalArgumentException") X hXT [⟨0, 6, 7, 13⟩] ⟨0, 6, 11, 20⟩ [] rfl (fun z hz => by rw [List.mem_singleton.mp hz]; exact ⟨by decide, _, wm_14_6, (xNC_of X).2.2.1⟩) (by decide) (by decide) wm_6_3 30 rfl rfl) ?_
    refine x_sub [] rfl ?_
    refine xr_astore_n (pc := 11) X (hf := rfl) (i := 3) [0] (Nat.le_of_ble_eq_true rfl) hnL rfl dL_tryIf_11 ?_
    refine xr_ldc (pc := 12) X dL_tryIf_12 (List.mem_cons_of_mem _ wm_6_5) ?_
    exact xr_iret (pc := 14) X (Nat.le_of_ble_eq_true rfl) (Nat.le_of_ble_eq_true rfl) dL_tryIf_14
  exact xKX_none
def F_L_tryBest (oo1 : Nat) (pp2 : Int32) (pp3 : Int32) (σ : xS) : Option (Int32 × xS) :=
  xbH (F_X5_best oo1 pp2 pp3 σ) (fun (zz2 : Int32) (σ1 : xS) => some (zz2, σ1))
 (fun (ee5 : Nat) (σ3 : xS) => (if ee5 = 1 then (some ((-9999001 : Int32), σ3)) else (if ee5 = 2 then (some ((-9999002 : Int32), σ3)) else none)))
abbrev rm_L_tryBest : Room := { frames := 9, cells := 2, slots := 12, locals := 150 }
set_option maxHeartbeats 4000000 in
set_option maxRecDepth 100000 in
theorem c_L_tryBest (l : Launch) {D : va_G} {ad : Nat → Nat} {N : Nat} {Sh : xSh} (hI : ∀ i j, i < N → j < N → ad i = ad j → i = j) (hst : l.stackTraces = false) (oo1 : Nat) (hh1 : xIs5 D ad N Sh oo1) (pp2 : Int32) (pp3 : Int32) (σ : xS) : xKI l yL_tryBest (Cond.codeWith yL_tryBest cL_tryBest 4 (some .int) [(0, 6, 7, 13), (0, 6, 11, 20)] :: wG) rm_L_tryBest 2 12 D ad N Sh [.ref (ad oo1), .int pp2, .int pp3] σ (F_L_tryBest oo1 pp2 pp3 σ) := by
  refine x_startH (own := RL) (maxL := 4) (by decide) rfl rfl rfl (Nat.le_of_ble_eq_true rfl) rfl hI (fun Γ hl hnL hXT X => ?_)
  subst hl
  unfold F_L_tryBest
  refine xr_aload_n (pc := 0) X (i := 0) 0 rfl rfl dL_tryBest_0 ?_
  refine xr_iload_n (pc := 1) X (i := 1) 1 rfl rfl dL_tryBest_1 ?_
  refine xr_iload_n (pc := 2) X (i := 2) 2 rfl rfl dL_tryBest_2 ?_
  refine xr_callHVI (na := 2) (pc := 3) X (oo1) [.int pp2, .int pp3] _ (c_X5_best Γ.2.1 hI hst oo1 hh1 pp2 pp3 σ) (wG_V wm_21_3 wm_21_0 wm_21_1 wm_21_2 wm_1_2) rfl rfl rfl (by decide +kernel) ⟨Nat.le_of_ble_eq_true rfl, Nat.le_of_ble_eq_true rfl⟩ hh1.1.1 hh1.1.2 rfl (T := TX5) (C := RX5) rfl rfl rfl (Nat.le_of_ble_eq_true rfl) ⟨Nat.le_of_ble_eq_true rfl, Nat.le_of_ble_eq_true rfl⟩ dL_tryBest_3 (fun zz2 σ1 => ?_) (fun ee5 σ3 qq4 => ?_)
  · exact xr_iret (pc := 6) X (Nat.le_of_ble_eq_true rfl) (Nat.le_of_ble_eq_true rfl) dL_tryBest_6
  refine xKX_if (fun hee6 => ?_) (fun hee6 => ?_)
  · subst hee6
    refine xKX_hat (hp := 7) (x_hat (E := "java/lang/IndexOutOfBoundsException") (name := "java/lang/IndexOutOfBoundsException") X hXT [] ⟨0, 6, 7, 13⟩ [⟨0, 6, 11, 20⟩] rfl (fun z hz => absurd hz List.not_mem_nil) (by decide) (by decide) wm_14_6 29 rfl rfl) ?_
    refine x_sub [] rfl ?_
    refine xr_astore_n (pc := 7) X (hf := rfl) (i := 3) [0] (Nat.le_of_ble_eq_true rfl) hnL rfl dL_tryBest_7 ?_
    refine xr_ldc (pc := 8) X dL_tryBest_8 (List.mem_cons_of_mem _ wm_14_7) ?_
    exact xr_iret (pc := 10) X (Nat.le_of_ble_eq_true rfl) (Nat.le_of_ble_eq_true rfl) dL_tryBest_10
  refine xKX_if (fun hee7 => ?_) (fun hee7 => ?_)
  · subst hee7
    refine xKX_hat (hp := 11) (x_hat (E := "java/lang/IllegalArgumentException") (name := "java/lang/IllegalArgumentException") X hXT [⟨0, 6, 7, 13⟩] ⟨0, 6, 11, 20⟩ [] rfl (fun z hz => by rw [List.mem_singleton.mp hz]; exact ⟨by decide, _, wm_14_6, (xNC_of X).2.2.1⟩) (by decide) (by decide) wm_6_3 30 rfl rfl) ?_
    refine x_sub [] rfl ?_
    refine xr_astore_n (pc := 11) X (hf := rfl) (i := 3) [0] (Nat.le_of_ble_eq_true rfl) hnL rfl dL_tryBest_11 ?_
    refine xr_ldc (pc := 12) X dL_tryBest_12 (List.mem_cons_of_mem _ wm_6_5) ?_
    exact xr_iret (pc := 14) X (Nat.le_of_ble_eq_true rfl) (Nat.le_of_ble_eq_true rfl) dL_tryBest_14
  exact xKX_none
def F_L_tryKeep (oo1 : Nat) (pp2 : Int32) (σ : xS) : Option (Int32 × xS) :=
  xbH (F_X5_save oo1 pp2 σ) (fun (zz2 : Int32) (σ1 : xS) => some (zz2, σ1))
 (fun (ee5 : Nat) (σ3 : xS) => (if ee5 = 1 then (some ((-9999001 : Int32), σ3)) else none))
abbrev rm_L_tryKeep : Room := { frames := 9, cells := 1, slots := 6, locals := 143 }
set_option maxHeartbeats 4000000 in
set_option maxRecDepth 100000 in
theorem c_L_tryKeep (l : Launch) {D : va_G} {ad : Nat → Nat} {N : Nat} {Sh : xSh} (hI : ∀ i j, i < N → j < N → ad i = ad j → i = j) (hst : l.stackTraces = false) (oo1 : Nat) (hh1 : xIs5 D ad N Sh oo1) (pp2 : Int32) (σ : xS) : xKI l yL_tryKeep (Cond.codeWith yL_tryKeep cL_tryKeep 3 (some .int) [(0, 5, 6, 13)] :: wG) rm_L_tryKeep 1 6 D ad N Sh [.ref (ad oo1), .int pp2] σ (F_L_tryKeep oo1 pp2 σ) := by
  refine x_startH (own := RL) (maxL := 3) (by decide) rfl rfl rfl (Nat.le_of_ble_eq_true rfl) rfl hI (fun Γ hl hnL hXT X => ?_)
  subst hl
  unfold F_L_tryKeep
  refine xr_aload_n (pc := 0) X (i := 0) 0 rfl rfl dL_tryKeep_0 ?_
  refine xr_iload_n (pc := 1) X (i := 1) 1 rfl rfl dL_tryKeep_1 ?_
  refine xr_callHVI (na := 1) (pc := 2) X (oo1) [.int pp2] _ (c_X5_save Γ.2.1 hI hst oo1 hh1 pp2 σ) (wG_V wm_21_12 wm_21_9 wm_21_10 wm_21_11 wm_1_2) rfl rfl rfl (by decide +kernel) ⟨Nat.le_of_ble_eq_true rfl, Nat.le_of_ble_eq_true rfl⟩ hh1.1.1 hh1.1.2 rfl (T := TX5) (C := RX5) rfl rfl rfl (Nat.le_of_ble_eq_true rfl) ⟨Nat.le_of_ble_eq_true rfl, Nat.le_of_ble_eq_true rfl⟩ dL_tryKeep_2 (fun zz2 σ1 => ?_) (fun ee5 σ3 qq4 => ?_)
  · exact xr_iret (pc := 5) X (Nat.le_of_ble_eq_true rfl) (Nat.le_of_ble_eq_true rfl) dL_tryKeep_5
  refine xKX_if (fun hee6 => ?_) (fun hee6 => ?_)
  · subst hee6
    refine xKX_hat (hp := 6) (x_hat (E := "java/lang/IndexOutOfBoundsException") (name := "java/lang/IndexOutOfBoundsException") X hXT [] ⟨0, 5, 6, 13⟩ [] rfl (fun z hz => absurd hz List.not_mem_nil) (by decide) (by decide) wm_14_6 29 rfl rfl) ?_
    refine x_sub [] rfl ?_
    refine xr_astore_n (pc := 6) X (hf := rfl) (i := 2) [0] (Nat.le_of_ble_eq_true rfl) hnL rfl dL_tryKeep_6 ?_
    refine xr_ldc (pc := 7) X dL_tryKeep_7 (List.mem_cons_of_mem _ wm_14_7) ?_
    exact xr_iret (pc := 9) X (Nat.le_of_ble_eq_true rfl) (Nat.le_of_ble_eq_true rfl) dL_tryKeep_9
  exact xKX_none
def F_L_tryBack (oo1 : Nat) (pp2 : Int32) (σ : xS) : Option (Int32 × xS) :=
  xbH (F_X5_restore oo1 pp2 σ) (fun (zz2 : Int32) (σ1 : xS) => some (zz2, σ1))
 (fun (ee5 : Nat) (σ3 : xS) => (if ee5 = 1 then (some ((-9999001 : Int32), σ3)) else (if ee5 = 3 then (some ((-9999003 : Int32), σ3)) else none)))
abbrev rm_L_tryBack : Room := { frames := 9, cells := 2, slots := 12, locals := 143 }
set_option maxHeartbeats 4000000 in
set_option maxRecDepth 100000 in
theorem c_L_tryBack (l : Launch) {D : va_G} {ad : Nat → Nat} {N : Nat} {Sh : xSh} (hI : ∀ i j, i < N → j < N → ad i = ad j → i = j) (hst : l.stackTraces = false) (oo1 : Nat) (hh1 : xIs5 D ad N Sh oo1) (pp2 : Int32) (σ : xS) : xKI l yL_tryBack (Cond.codeWith yL_tryBack cL_tryBack 3 (some .int) [(0, 5, 6, 13), (0, 5, 10, 31)] :: wG) rm_L_tryBack 2 12 D ad N Sh [.ref (ad oo1), .int pp2] σ (F_L_tryBack oo1 pp2 σ) := by
  refine x_startH (own := RL) (maxL := 3) (by decide) rfl rfl rfl (Nat.le_of_ble_eq_true rfl) rfl hI (fun Γ hl hnL hXT X => ?_)
  subst hl
  unfold F_L_tryBack
  refine xr_aload_n (pc := 0) X (i := 0) 0 rfl rfl dL_tryBack_0 ?_
  refine xr_iload_n (pc := 1) X (i := 1) 1 rfl rfl dL_tryBack_1 ?_
  refine xr_callHVI (na := 1) (pc := 2) X (oo1) [.int pp2] _ (c_X5_restore Γ.2.1 hI hst oo1 hh1 pp2 σ) (wG_V wm_21_19 wm_21_16 wm_21_17 wm_21_18 wm_1_2) rfl rfl rfl (by decide +kernel) ⟨Nat.le_of_ble_eq_true rfl, Nat.le_of_ble_eq_true rfl⟩ hh1.1.1 hh1.1.2 rfl (T := TX5) (C := RX5) rfl rfl rfl (Nat.le_of_ble_eq_true rfl) ⟨Nat.le_of_ble_eq_true rfl, Nat.le_of_ble_eq_true rfl⟩ dL_tryBack_2 (fun zz2 σ1 => ?_) (fun ee5 σ3 qq4 => ?_)
  · exact xr_iret (pc := 5) X (Nat.le_of_ble_eq_true rfl) (Nat.le_of_ble_eq_true rfl) dL_tryBack_5
  refine xKX_if (fun hee6 => ?_) (fun hee6 => ?_)
  · subst hee6
    refine xKX_hat (hp := 6) (x_hat (E := "java/lang/IndexOutOfBoundsException") (name := "java/lang/IndexOutOfBoundsException") X hXT [] ⟨0, 5, 6, 13⟩ [⟨0, 5, 10, 31⟩] rfl (fun z hz => absurd hz List.not_mem_nil) (by decide) (by decide) wm_14_6 29 rfl rfl) ?_
    refine x_sub [] rfl ?_
    refine xr_astore_n (pc := 6) X (hf := rfl) (i := 2) [0] (Nat.le_of_ble_eq_true rfl) hnL rfl dL_tryBack_6 ?_
    refine xr_ldc (pc := 7) X dL_tryBack_7 (List.mem_cons_of_mem _ wm_14_7) ?_
    exact xr_iret (pc := 9) X (Nat.le_of_ble_eq_true rfl) (Nat.le_of_ble_eq_true rfl) dL_tryBack_9
  refine xKX_if (fun hee7 => ?_) (fun hee7 => ?_)
  · subst hee7
    refine xKX_hat (hp := 10) (x_hat (E := "java/lang/IllegalStateException") (name := "java/lang/IllegalStateException") X hXT [⟨0, 5, 6, 13⟩] ⟨0, 5, 10, 31⟩ [] rfl (fun z hz => by rw [List.mem_singleton.mp hz]; exact ⟨by decide, _, wm_14_6, (xNC_of X).2.2.2.2.1⟩) (by decide) (by decide) wm_6_4 31 rfl rfl) ?_
    refine x_sub [] rfl ?_
    refine xr_astore_n (pc := 10) X (hf := rfl) (i := 2) [0] (Nat.le_of_ble_eq_true rfl) hnL rfl dL_tryBack_10 ?_
    refine xr_ldc (pc := 11) X dL_tryBack_11 (List.mem_cons_of_mem _ wm_6_6) ?_
    exact xr_iret (pc := 13) X (Nat.le_of_ble_eq_true rfl) (Nat.le_of_ble_eq_true rfl) dL_tryBack_13
  exact xKX_none
def F_L_call (oo1 : Nat) (pp2 : Int32) (pp3 : Int32) (pp4 : Int32) (pp5 : Int32) (σ : xS) : Option (Int32 × xS) :=
  if pp2 = 0 then (xbI (F_L_tryAppend oo1 pp3 σ) (fun (zz2 : Int32) (σ1 : xS) => some (zz2, σ1)))
 else (if pp2 = 1 then (xbI (F_L_tryLoad oo1 σ) (fun (zz5 : Int32) (σ4 : xS) => some (zz5, σ4)))
 else (if pp2 = 2 then (xbI (F_L_tryAbout oo1 pp3 σ) (fun (zz8 : Int32) (σ7 : xS) => some (zz8, σ7)))
 else (if pp2 = 3 then (xbI (F_L_tryWriter oo1 pp3 pp4 σ) (fun (zz11 : Int32) (σ10 : xS) => some (zz11, σ10)))
 else (if pp2 = 4 then (xbI (F_L_tryDesk oo1 pp3 pp4 σ) (fun (zz14 : Int32) (σ13 : xS) => some (zz14, σ13)))
 else (if pp2 = 5 then (xbI (F_L_tryLetter oo1 pp3 pp4 pp5 σ) (fun (zz17 : Int32) (σ16 : xS) => some (zz17, σ16)))
 else (if pp2 = 6 then (xbI (F_L_tryPlanned oo1 pp3 pp4 σ) (fun (zz20 : Int32) (σ19 : xS) => some (zz20, σ19)))
 else (if pp2 = 7 then (xbI (F_L_trySetting oo1 pp3 σ) (fun (zz23 : Int32) (σ22 : xS) => some (zz23, σ22)))
 else (if pp2 = 8 then (xbI (F_L_tryPost oo1 pp3 σ) (fun (zz26 : Int32) (σ25 : xS) => some (zz26, σ25)))
 else (if pp2 = 9 then (xbI (F_L_tryWrite oo1 pp3 pp4 σ) (fun (zz29 : Int32) (σ28 : xS) => some (zz29, σ28)))
 else (if pp2 = 10 then (xbI (F_L_tryPlan oo1 pp3 pp4 pp5 σ) (fun (zz32 : Int32) (σ31 : xS) => some (zz32, σ31)))
 else (if pp2 = 11 then (xbI (F_L_tryFlush oo1 pp3 σ) (fun (zz35 : Int32) (σ34 : xS) => some (zz35, σ34)))
 else (if pp2 = 12 then (xbI (F_L_tryTicks oo1 pp3 σ) (fun (zz38 : Int32) (σ37 : xS) => some (zz38, σ37)))
 else (if pp2 = 13 then (xbI (F_L_tryLay oo1 pp3 pp4 σ) (fun (zz41 : Int32) (σ40 : xS) => some (zz41, σ40)))
 else (if pp2 = 14 then (xbI (F_L_tryUndo oo1 σ) (fun (zz44 : Int32) (σ43 : xS) => some (zz44, σ43)))
 else (if pp2 = 15 then (xbI (F_L_tryDone oo1 pp3 σ) (fun (zz47 : Int32) (σ46 : xS) => some (zz47, σ46)))
 else (if pp2 = 16 then (xbI (F_L_tryThere oo1 pp3 pp4 σ) (fun (zz50 : Int32) (σ49 : xS) => some (zz50, σ49)))
 else (if pp2 = 17 then (xbI (F_L_tryIf oo1 pp3 pp4 σ) (fun (zz53 : Int32) (σ52 : xS) => some (zz53, σ52)))
 else (if pp2 = 18 then (xbI (F_L_tryBest oo1 pp3 pp4 σ) (fun (zz56 : Int32) (σ55 : xS) => some (zz56, σ55)))
 else (if pp2 = 19 then (xbI (F_L_tryKeep oo1 pp3 σ) (fun (zz59 : Int32) (σ58 : xS) => some (zz59, σ58)))
 else (xbI (F_L_tryBack oo1 pp3 σ) (fun (zz62 : Int32) (σ61 : xS) => some (zz62, σ61))))))))))))))))))))))
abbrev rm_L_call : Room := { frames := 10, cells := 3, slots := 18, locals := 196 }
set_option maxHeartbeats 4000000 in
set_option maxRecDepth 100000 in
theorem c_L_call (l : Launch) {D : va_G} {ad : Nat → Nat} {N : Nat} {Sh : xSh} (hI : ∀ i j, i < N → j < N → ad i = ad j → i = j) (hst : l.stackTraces = false) (oo1 : Nat) (hh1 : xIs5 D ad N Sh oo1) (pp2 : Int32) (pp3 : Int32) (pp4 : Int32) (pp5 : Int32) (σ : xS) : xKI l yL_call (Cond.code yL_call cL_call 5 (some .int) :: wG) rm_L_call 3 18 D ad N Sh [.ref (ad oo1), .int pp2, .int pp3, .int pp4, .int pp5] σ (F_L_call oo1 pp2 pp3 pp4 pp5 σ) := by
  refine x_startI (own := RL) (maxL := 5) (by decide) rfl rfl (Nat.le_of_ble_eq_true rfl) rfl hI (fun Γ hl hnL X => ?_)
  subst hl
  unfold F_L_call
  refine xr_iload_n (pc := 0) X (i := 1) 1 rfl rfl dL_call_0 ?_
  refine x_if (fun hcc3 => ?_) (fun hcc3 => ?_)
  · refine xr_tin (off := 95) (pc := 1) X 96 dL_call_1 (by rw [hcc3]; decide) (by rw [hcc3]; decide) (by rw [hcc3]; rfl) (by decide) ?_
    refine xr_aload_n (pc := 96) X (i := 0) 0 rfl rfl dL_call_96 ?_
    refine xr_iload_n (pc := 97) X (i := 2) 2 rfl rfl dL_call_97 ?_
    refine xr_callSWI (na := 2) (pc := 98) X [.ref (ad oo1), .int pp3] (c_L_tryAppend Γ.2.1 hI hst oo1 hh1 pp3 σ) (wG_SW wm_6_2 wm_6_0 wm_6_1 wm_5_14) rfl rfl rfl (by decide +kernel) ⟨Nat.le_of_ble_eq_true rfl, Nat.le_of_ble_eq_true rfl⟩ rfl rfl (Nat.le_of_ble_eq_true rfl) ⟨(show _ ≤ 3 by omega), (show _ ≤ 18 by omega)⟩ dL_call_98 (fun zz2 σ1 => ?_)
    exact xr_iret (pc := 101) X (Nat.le_of_ble_eq_true rfl) (Nat.le_of_ble_eq_true rfl) dL_call_101
  refine x_if (fun hcc6 => ?_) (fun hcc6 => ?_)
  · refine xr_tin (off := 101) (pc := 1) X 102 dL_call_1 (by rw [hcc6]; decide) (by rw [hcc6]; decide) (by rw [hcc6]; rfl) (by decide) ?_
    refine xr_aload_n (pc := 102) X (i := 0) 0 rfl rfl dL_call_102 ?_
    refine xr_callSWI (na := 1) (pc := 103) X [.ref (ad oo1)] (c_L_tryLoad Γ.2.1 hI hst oo1 hh1 σ) (wG_SW wm_7_8 wm_7_6 wm_7_7 wm_5_14) rfl rfl rfl (by decide +kernel) ⟨Nat.le_of_ble_eq_true rfl, Nat.le_of_ble_eq_true rfl⟩ rfl rfl (Nat.le_of_ble_eq_true rfl) ⟨(show _ ≤ 3 by omega), (show _ ≤ 18 by omega)⟩ dL_call_103 (fun zz5 σ4 => ?_)
    exact xr_iret (pc := 106) X (Nat.le_of_ble_eq_true rfl) (Nat.le_of_ble_eq_true rfl) dL_call_106
  refine x_if (fun hcc9 => ?_) (fun hcc9 => ?_)
  · refine xr_tin (off := 106) (pc := 1) X 107 dL_call_1 (by rw [hcc9]; decide) (by rw [hcc9]; decide) (by rw [hcc9]; rfl) (by decide) ?_
    refine xr_aload_n (pc := 107) X (i := 0) 0 rfl rfl dL_call_107 ?_
    refine xr_iload_n (pc := 108) X (i := 2) 2 rfl rfl dL_call_108 ?_
    refine xr_callSWI (na := 2) (pc := 109) X [.ref (ad oo1), .int pp3] (c_L_tryAbout Γ.2.1 hI hst oo1 hh1 pp3 σ) (wG_SW wm_13_6 wm_13_4 wm_13_5 wm_5_14) rfl rfl rfl (by decide +kernel) ⟨Nat.le_of_ble_eq_true rfl, Nat.le_of_ble_eq_true rfl⟩ rfl rfl (Nat.le_of_ble_eq_true rfl) ⟨(show _ ≤ 3 by omega), (show _ ≤ 18 by omega)⟩ dL_call_109 (fun zz8 σ7 => ?_)
    exact xr_iret (pc := 112) X (Nat.le_of_ble_eq_true rfl) (Nat.le_of_ble_eq_true rfl) dL_call_112
  refine x_if (fun hcc12 => ?_) (fun hcc12 => ?_)
  · refine xr_tin (off := 112) (pc := 1) X 113 dL_call_1 (by rw [hcc12]; decide) (by rw [hcc12]; decide) (by rw [hcc12]; rfl) (by decide) ?_
    refine xr_aload_n (pc := 113) X (i := 0) 0 rfl rfl dL_call_113 ?_
    refine xr_iload_n (pc := 114) X (i := 2) 2 rfl rfl dL_call_114 ?_
    refine xr_iload_n (pc := 115) X (i := 3) 3 rfl rfl dL_call_115 ?_
    refine xr_callSWI (na := 3) (pc := 116) X [.ref (ad oo1), .int pp3, .int pp4] (c_L_tryWriter Γ.2.1 hI hst oo1 hh1 pp3 pp4 σ) (wG_SW wm_14_5 wm_14_3 wm_14_4 wm_5_14) rfl rfl rfl (by decide +kernel) ⟨Nat.le_of_ble_eq_true rfl, Nat.le_of_ble_eq_true rfl⟩ rfl rfl (Nat.le_of_ble_eq_true rfl) ⟨(show _ ≤ 3 by omega), (show _ ≤ 18 by omega)⟩ dL_call_116 (fun zz11 σ10 => ?_)
    exact xr_iret (pc := 119) X (Nat.le_of_ble_eq_true rfl) (Nat.le_of_ble_eq_true rfl) dL_call_119
  refine x_if (fun hcc15 => ?_) (fun hcc15 => ?_)
  · refine xr_tin (off := 119) (pc := 1) X 120 dL_call_1 (by rw [hcc15]; decide) (by rw [hcc15]; decide) (by rw [hcc15]; rfl) (by decide) ?_
    refine xr_aload_n (pc := 120) X (i := 0) 0 rfl rfl dL_call_120 ?_
    refine xr_iload_n (pc := 121) X (i := 2) 2 rfl rfl dL_call_121 ?_
    refine xr_iload_n (pc := 122) X (i := 3) 3 rfl rfl dL_call_122 ?_
    refine xr_callSWI (na := 3) (pc := 123) X [.ref (ad oo1), .int pp3, .int pp4] (c_L_tryDesk Γ.2.1 hI hst oo1 hh1 pp3 pp4 σ) (wG_SW wm_14_16 wm_14_14 wm_14_15 wm_5_14) rfl rfl rfl (by decide +kernel) ⟨Nat.le_of_ble_eq_true rfl, Nat.le_of_ble_eq_true rfl⟩ rfl rfl (Nat.le_of_ble_eq_true rfl) ⟨(show _ ≤ 3 by omega), (show _ ≤ 18 by omega)⟩ dL_call_123 (fun zz14 σ13 => ?_)
    exact xr_iret (pc := 126) X (Nat.le_of_ble_eq_true rfl) (Nat.le_of_ble_eq_true rfl) dL_call_126
  refine x_if (fun hcc18 => ?_) (fun hcc18 => ?_)
  · refine xr_tin (off := 126) (pc := 1) X 127 dL_call_1 (by rw [hcc18]; decide) (by rw [hcc18]; decide) (by rw [hcc18]; rfl) (by decide) ?_
    refine xr_aload_n (pc := 127) X (i := 0) 0 rfl rfl dL_call_127 ?_
    refine xr_iload_n (pc := 128) X (i := 2) 2 rfl rfl dL_call_128 ?_
    refine xr_iload_n (pc := 129) X (i := 3) 3 rfl rfl dL_call_129 ?_
    refine xr_iload (pc := 130) X (i := 4) 4 rfl dL_call_130 ?_
    refine xr_callSWI (na := 4) (pc := 132) X [.ref (ad oo1), .int pp3, .int pp4, .int pp5] (c_L_tryLetter Γ.2.1 hI hst oo1 hh1 pp3 pp4 pp5 σ) (wG_SW wm_15_0 wm_14_22 wm_14_23 wm_5_14) rfl rfl rfl (by decide +kernel) ⟨Nat.le_of_ble_eq_true rfl, Nat.le_of_ble_eq_true rfl⟩ rfl rfl (Nat.le_of_ble_eq_true rfl) ⟨(show _ ≤ 3 by omega), (show _ ≤ 18 by omega)⟩ dL_call_132 (fun zz17 σ16 => ?_)
    exact xr_iret (pc := 135) X (Nat.le_of_ble_eq_true rfl) (Nat.le_of_ble_eq_true rfl) dL_call_135
  refine x_if (fun hcc21 => ?_) (fun hcc21 => ?_)
  · refine xr_tin (off := 135) (pc := 1) X 136 dL_call_1 (by rw [hcc21]; decide) (by rw [hcc21]; decide) (by rw [hcc21]; rfl) (by decide) ?_
    refine xr_aload_n (pc := 136) X (i := 0) 0 rfl rfl dL_call_136 ?_
    refine xr_iload_n (pc := 137) X (i := 2) 2 rfl rfl dL_call_137 ?_
    refine xr_iload_n (pc := 138) X (i := 3) 3 rfl rfl dL_call_138 ?_
    refine xr_callSWI (na := 3) (pc := 139) X [.ref (ad oo1), .int pp3, .int pp4] (c_L_tryPlanned Γ.2.1 hI hst oo1 hh1 pp3 pp4 σ) (wG_SW wm_15_9 wm_15_7 wm_15_8 wm_5_14) rfl rfl rfl (by decide +kernel) ⟨Nat.le_of_ble_eq_true rfl, Nat.le_of_ble_eq_true rfl⟩ rfl rfl (Nat.le_of_ble_eq_true rfl) ⟨(show _ ≤ 3 by omega), (show _ ≤ 18 by omega)⟩ dL_call_139 (fun zz20 σ19 => ?_)
    exact xr_iret (pc := 142) X (Nat.le_of_ble_eq_true rfl) (Nat.le_of_ble_eq_true rfl) dL_call_142
  refine x_if (fun hcc24 => ?_) (fun hcc24 => ?_)
  · refine xr_tin (off := 142) (pc := 1) X 143 dL_call_1 (by rw [hcc24]; decide) (by rw [hcc24]; decide) (by rw [hcc24]; rfl) (by decide) ?_
    refine xr_aload_n (pc := 143) X (i := 0) 0 rfl rfl dL_call_143 ?_
    refine xr_iload_n (pc := 144) X (i := 2) 2 rfl rfl dL_call_144 ?_
    refine xr_callSWI (na := 2) (pc := 145) X [.ref (ad oo1), .int pp3] (c_L_trySetting Γ.2.1 hI hst oo1 hh1 pp3 σ) (wG_SW wm_15_17 wm_15_15 wm_15_16 wm_5_14) rfl rfl rfl (by decide +kernel) ⟨Nat.le_of_ble_eq_true rfl, Nat.le_of_ble_eq_true rfl⟩ rfl rfl (Nat.le_of_ble_eq_true rfl) ⟨(show _ ≤ 3 by omega), (show _ ≤ 18 by omega)⟩ dL_call_145 (fun zz23 σ22 => ?_)
    exact xr_iret (pc := 148) X (Nat.le_of_ble_eq_true rfl) (Nat.le_of_ble_eq_true rfl) dL_call_148
  refine x_if (fun hcc27 => ?_) (fun hcc27 => ?_)
  · refine xr_tin (off := 148) (pc := 1) X 149 dL_call_1 (by rw [hcc27]; decide) (by rw [hcc27]; decide) (by rw [hcc27]; rfl) (by decide) ?_
    refine xr_aload_n (pc := 149) X (i := 0) 0 rfl rfl dL_call_149 ?_
    refine xr_iload_n (pc := 150) X (i := 2) 2 rfl rfl dL_call_150 ?_
    refine xr_callSWI (na := 2) (pc := 151) X [.ref (ad oo1), .int pp3] (c_L_tryPost Γ.2.1 hI hst oo1 hh1 pp3 σ) (wG_SW wm_16_0 wm_15_22 wm_15_23 wm_5_14) rfl rfl rfl (by decide +kernel) ⟨Nat.le_of_ble_eq_true rfl, Nat.le_of_ble_eq_true rfl⟩ rfl rfl (Nat.le_of_ble_eq_true rfl) ⟨(show _ ≤ 3 by omega), (show _ ≤ 18 by omega)⟩ dL_call_151 (fun zz26 σ25 => ?_)
    exact xr_iret (pc := 154) X (Nat.le_of_ble_eq_true rfl) (Nat.le_of_ble_eq_true rfl) dL_call_154
  refine x_if (fun hcc30 => ?_) (fun hcc30 => ?_)
  · refine xr_tin (off := 154) (pc := 1) X 155 dL_call_1 (by rw [hcc30]; decide) (by rw [hcc30]; decide) (by rw [hcc30]; rfl) (by decide) ?_
    refine xr_aload_n (pc := 155) X (i := 0) 0 rfl rfl dL_call_155 ?_
    refine xr_iload_n (pc := 156) X (i := 2) 2 rfl rfl dL_call_156 ?_
    refine xr_iload_n (pc := 157) X (i := 3) 3 rfl rfl dL_call_157 ?_
    refine xr_callSWI (na := 3) (pc := 158) X [.ref (ad oo1), .int pp3, .int pp4] (c_L_tryWrite Γ.2.1 hI hst oo1 hh1 pp3 pp4 σ) (wG_SW wm_17_9 wm_17_7 wm_17_8 wm_5_14) rfl rfl rfl (by decide +kernel) ⟨Nat.le_of_ble_eq_true rfl, Nat.le_of_ble_eq_true rfl⟩ rfl rfl (Nat.le_of_ble_eq_true rfl) ⟨(show _ ≤ 3 by omega), (show _ ≤ 18 by omega)⟩ dL_call_158 (fun zz29 σ28 => ?_)
    exact xr_iret (pc := 161) X (Nat.le_of_ble_eq_true rfl) (Nat.le_of_ble_eq_true rfl) dL_call_161
  refine x_if (fun hcc33 => ?_) (fun hcc33 => ?_)
  · refine xr_tin (off := 161) (pc := 1) X 162 dL_call_1 (by rw [hcc33]; decide) (by rw [hcc33]; decide) (by rw [hcc33]; rfl) (by decide) ?_
    refine xr_aload_n (pc := 162) X (i := 0) 0 rfl rfl dL_call_162 ?_
    refine xr_iload_n (pc := 163) X (i := 2) 2 rfl rfl dL_call_163 ?_
    refine xr_iload_n (pc := 164) X (i := 3) 3 rfl rfl dL_call_164 ?_
    refine xr_iload (pc := 165) X (i := 4) 4 rfl dL_call_165 ?_
    refine xr_callSWI (na := 4) (pc := 167) X [.ref (ad oo1), .int pp3, .int pp4, .int pp5] (c_L_tryPlan Γ.2.1 hI hst oo1 hh1 pp3 pp4 pp5 σ) (wG_SW wm_17_16 wm_17_14 wm_17_15 wm_5_14) rfl rfl rfl (by decide +kernel) ⟨Nat.le_of_ble_eq_true rfl, Nat.le_of_ble_eq_true rfl⟩ rfl rfl (Nat.le_of_ble_eq_true rfl) ⟨(show _ ≤ 3 by omega), (show _ ≤ 18 by omega)⟩ dL_call_167 (fun zz32 σ31 => ?_)
    exact xr_iret (pc := 170) X (Nat.le_of_ble_eq_true rfl) (Nat.le_of_ble_eq_true rfl) dL_call_170
  refine x_if (fun hcc36 => ?_) (fun hcc36 => ?_)
  · refine xr_tin (off := 170) (pc := 1) X 171 dL_call_1 (by rw [hcc36]; decide) (by rw [hcc36]; decide) (by rw [hcc36]; rfl) (by decide) ?_
    refine xr_aload_n (pc := 171) X (i := 0) 0 rfl rfl dL_call_171 ?_
    refine xr_iload_n (pc := 172) X (i := 2) 2 rfl rfl dL_call_172 ?_
    refine xr_callSWI (na := 2) (pc := 173) X [.ref (ad oo1), .int pp3] (c_L_tryFlush Γ.2.1 hI hst oo1 hh1 pp3 σ) (wG_SW wm_17_23 wm_17_21 wm_17_22 wm_5_14) rfl rfl rfl (by decide +kernel) ⟨Nat.le_of_ble_eq_true rfl, Nat.le_of_ble_eq_true rfl⟩ rfl rfl (Nat.le_of_ble_eq_true rfl) ⟨(show _ ≤ 3 by omega), (show _ ≤ 18 by omega)⟩ dL_call_173 (fun zz35 σ34 => ?_)
    exact xr_iret (pc := 176) X (Nat.le_of_ble_eq_true rfl) (Nat.le_of_ble_eq_true rfl) dL_call_176
  refine x_if (fun hcc39 => ?_) (fun hcc39 => ?_)
  · refine xr_tin (off := 176) (pc := 1) X 177 dL_call_1 (by rw [hcc39]; decide) (by rw [hcc39]; decide) (by rw [hcc39]; rfl) (by decide) ?_
    refine xr_aload_n (pc := 177) X (i := 0) 0 rfl rfl dL_call_177 ?_
    refine xr_iload_n (pc := 178) X (i := 2) 2 rfl rfl dL_call_178 ?_
    refine xr_callSWI (na := 2) (pc := 179) X [.ref (ad oo1), .int pp3] (c_L_tryTicks Γ.2.1 hI hst oo1 hh1 pp3 σ) (wG_SW wm_18_6 wm_18_4 wm_18_5 wm_5_14) rfl rfl rfl (by decide +kernel) ⟨Nat.le_of_ble_eq_true rfl, Nat.le_of_ble_eq_true rfl⟩ rfl rfl (Nat.le_of_ble_eq_true rfl) ⟨(show _ ≤ 3 by omega), (show _ ≤ 18 by omega)⟩ dL_call_179 (fun zz38 σ37 => ?_)
    exact xr_iret (pc := 182) X (Nat.le_of_ble_eq_true rfl) (Nat.le_of_ble_eq_true rfl) dL_call_182
  refine x_if (fun hcc42 => ?_) (fun hcc42 => ?_)
  · refine xr_tin (off := 182) (pc := 1) X 183 dL_call_1 (by rw [hcc42]; decide) (by rw [hcc42]; decide) (by rw [hcc42]; rfl) (by decide) ?_
    refine xr_aload_n (pc := 183) X (i := 0) 0 rfl rfl dL_call_183 ?_
    refine xr_iload_n (pc := 184) X (i := 2) 2 rfl rfl dL_call_184 ?_
    refine xr_iload_n (pc := 185) X (i := 3) 3 rfl rfl dL_call_185 ?_
    refine xr_callSWI (na := 3) (pc := 186) X [.ref (ad oo1), .int pp3, .int pp4] (c_L_tryLay Γ.2.1 hI hst oo1 hh1 pp3 pp4 σ) (wG_SW wm_18_14 wm_18_12 wm_18_13 wm_5_14) rfl rfl rfl (by decide +kernel) ⟨Nat.le_of_ble_eq_true rfl, Nat.le_of_ble_eq_true rfl⟩ rfl rfl (Nat.le_of_ble_eq_true rfl) ⟨(show _ ≤ 3 by omega), (show _ ≤ 18 by omega)⟩ dL_call_186 (fun zz41 σ40 => ?_)
    exact xr_iret (pc := 189) X (Nat.le_of_ble_eq_true rfl) (Nat.le_of_ble_eq_true rfl) dL_call_189
  refine x_if (fun hcc45 => ?_) (fun hcc45 => ?_)
  · refine xr_tin (off := 189) (pc := 1) X 190 dL_call_1 (by rw [hcc45]; decide) (by rw [hcc45]; decide) (by rw [hcc45]; rfl) (by decide) ?_
    refine xr_aload_n (pc := 190) X (i := 0) 0 rfl rfl dL_call_190 ?_
    refine xr_callSWI (na := 1) (pc := 191) X [.ref (ad oo1)] (c_L_tryUndo Γ.2.1 hI hst oo1 hh1 σ) (wG_SW wm_18_21 wm_18_19 wm_18_20 wm_5_14) rfl rfl rfl (by decide +kernel) ⟨Nat.le_of_ble_eq_true rfl, Nat.le_of_ble_eq_true rfl⟩ rfl rfl (Nat.le_of_ble_eq_true rfl) ⟨(show _ ≤ 3 by omega), (show _ ≤ 18 by omega)⟩ dL_call_191 (fun zz44 σ43 => ?_)
    exact xr_iret (pc := 194) X (Nat.le_of_ble_eq_true rfl) (Nat.le_of_ble_eq_true rfl) dL_call_194
  refine x_if (fun hcc48 => ?_) (fun hcc48 => ?_)
  · refine xr_tin (off := 194) (pc := 1) X 195 dL_call_1 (by rw [hcc48]; decide) (by rw [hcc48]; decide) (by rw [hcc48]; rfl) (by decide) ?_
    refine xr_aload_n (pc := 195) X (i := 0) 0 rfl rfl dL_call_195 ?_
    refine xr_iload_n (pc := 196) X (i := 2) 2 rfl rfl dL_call_196 ?_
    refine xr_callSWI (na := 2) (pc := 197) X [.ref (ad oo1), .int pp3] (c_L_tryDone Γ.2.1 hI hst oo1 hh1 pp3 σ) (wG_SW wm_19_8 wm_19_6 wm_19_7 wm_5_14) rfl rfl rfl (by decide +kernel) ⟨Nat.le_of_ble_eq_true rfl, Nat.le_of_ble_eq_true rfl⟩ rfl rfl (Nat.le_of_ble_eq_true rfl) ⟨(show _ ≤ 3 by omega), (show _ ≤ 18 by omega)⟩ dL_call_197 (fun zz47 σ46 => ?_)
    exact xr_iret (pc := 200) X (Nat.le_of_ble_eq_true rfl) (Nat.le_of_ble_eq_true rfl) dL_call_200
  refine x_if (fun hcc51 => ?_) (fun hcc51 => ?_)
  · refine xr_tin (off := 200) (pc := 1) X 201 dL_call_1 (by rw [hcc51]; decide) (by rw [hcc51]; decide) (by rw [hcc51]; rfl) (by decide) ?_
    refine xr_aload_n (pc := 201) X (i := 0) 0 rfl rfl dL_call_201 ?_
    refine xr_iload_n (pc := 202) X (i := 2) 2 rfl rfl dL_call_202 ?_
    refine xr_iload_n (pc := 203) X (i := 3) 3 rfl rfl dL_call_203 ?_
    refine xr_callSWI (na := 3) (pc := 204) X [.ref (ad oo1), .int pp3, .int pp4] (c_L_tryThere Γ.2.1 hI hst oo1 hh1 pp3 pp4 σ) (wG_SW wm_20_4 wm_20_2 wm_20_3 wm_5_14) rfl rfl rfl (by decide +kernel) ⟨Nat.le_of_ble_eq_true rfl, Nat.le_of_ble_eq_true rfl⟩ rfl rfl (Nat.le_of_ble_eq_true rfl) ⟨(show _ ≤ 3 by omega), (show _ ≤ 18 by omega)⟩ dL_call_204 (fun zz50 σ49 => ?_)
    exact xr_iret (pc := 207) X (Nat.le_of_ble_eq_true rfl) (Nat.le_of_ble_eq_true rfl) dL_call_207
  refine x_if (fun hcc54 => ?_) (fun hcc54 => ?_)
  · refine xr_tin (off := 207) (pc := 1) X 208 dL_call_1 (by rw [hcc54]; decide) (by rw [hcc54]; decide) (by rw [hcc54]; rfl) (by decide) ?_
    refine xr_aload_n (pc := 208) X (i := 0) 0 rfl rfl dL_call_208 ?_
    refine xr_iload_n (pc := 209) X (i := 2) 2 rfl rfl dL_call_209 ?_
    refine xr_iload_n (pc := 210) X (i := 3) 3 rfl rfl dL_call_210 ?_
    refine xr_callSWI (na := 3) (pc := 211) X [.ref (ad oo1), .int pp3, .int pp4] (c_L_tryIf Γ.2.1 hI hst oo1 hh1 pp3 pp4 σ) (wG_SW wm_20_15 wm_20_13 wm_20_14 wm_5_14) rfl rfl rfl (by decide +kernel) ⟨Nat.le_of_ble_eq_true rfl, Nat.le_of_ble_eq_true rfl⟩ rfl rfl (Nat.le_of_ble_eq_true rfl) ⟨(show _ ≤ 3 by omega), (show _ ≤ 18 by omega)⟩ dL_call_211 (fun zz53 σ52 => ?_)
    exact xr_iret (pc := 214) X (Nat.le_of_ble_eq_true rfl) (Nat.le_of_ble_eq_true rfl) dL_call_214
  refine x_if (fun hcc57 => ?_) (fun hcc57 => ?_)
  · refine xr_tin (off := 214) (pc := 1) X 215 dL_call_1 (by rw [hcc57]; decide) (by rw [hcc57]; decide) (by rw [hcc57]; rfl) (by decide) ?_
    refine xr_aload_n (pc := 215) X (i := 0) 0 rfl rfl dL_call_215 ?_
    refine xr_iload_n (pc := 216) X (i := 2) 2 rfl rfl dL_call_216 ?_
    refine xr_iload_n (pc := 217) X (i := 3) 3 rfl rfl dL_call_217 ?_
    refine xr_callSWI (na := 3) (pc := 218) X [.ref (ad oo1), .int pp3, .int pp4] (c_L_tryBest Γ.2.1 hI hst oo1 hh1 pp3 pp4 σ) (wG_SW wm_20_23 wm_20_21 wm_20_22 wm_5_14) rfl rfl rfl (by decide +kernel) ⟨Nat.le_of_ble_eq_true rfl, Nat.le_of_ble_eq_true rfl⟩ rfl rfl (Nat.le_of_ble_eq_true rfl) ⟨(show _ ≤ 3 by omega), (show _ ≤ 18 by omega)⟩ dL_call_218 (fun zz56 σ55 => ?_)
    exact xr_iret (pc := 221) X (Nat.le_of_ble_eq_true rfl) (Nat.le_of_ble_eq_true rfl) dL_call_221
  refine x_if (fun hcc60 => ?_) (fun hcc60 => ?_)
  · refine xr_tin (off := 221) (pc := 1) X 222 dL_call_1 (by rw [hcc60]; decide) (by rw [hcc60]; decide) (by rw [hcc60]; rfl) (by decide) ?_
    refine xr_aload_n (pc := 222) X (i := 0) 0 rfl rfl dL_call_222 ?_
    refine xr_iload_n (pc := 223) X (i := 2) 2 rfl rfl dL_call_223 ?_
    refine xr_callSWI (na := 2) (pc := 224) X [.ref (ad oo1), .int pp3] (c_L_tryKeep Γ.2.1 hI hst oo1 hh1 pp3 σ) (wG_SW wm_21_8 wm_21_6 wm_21_7 wm_5_14) rfl rfl rfl (by decide +kernel) ⟨Nat.le_of_ble_eq_true rfl, Nat.le_of_ble_eq_true rfl⟩ rfl rfl (Nat.le_of_ble_eq_true rfl) ⟨(show _ ≤ 3 by omega), (show _ ≤ 18 by omega)⟩ dL_call_224 (fun zz59 σ58 => ?_)
    exact xr_iret (pc := 227) X (Nat.le_of_ble_eq_true rfl) (Nat.le_of_ble_eq_true rfl) dL_call_227
  refine xr_tout (pc := 1) X 228 dL_call_1 (by have g0 := xne hcc3 (j := 0) (by decide); have g1 := xne hcc6 (j := 1) (by decide); have g2 := xne hcc9 (j := 2) (by decide); have g3 := xne hcc12 (j := 3) (by decide); have g4 := xne hcc15 (j := 4) (by decide); have g5 := xne hcc18 (j := 5) (by decide); have g6 := xne hcc21 (j := 6) (by decide); have g7 := xne hcc24 (j := 7) (by decide); have g8 := xne hcc27 (j := 8) (by decide); have g9 := xne hcc30 (j := 9) (by decide); have g10 := xne hcc33 (j := 10) (by decide); have g11 := xne hcc36 (j := 11) (by decide); have g12 := xne hcc39 (j := 12) (by decide); have g13 := xne hcc42 (j := 13) (by decide); have g14 := xne hcc45 (j := 14) (by decide); have g15 := xne hcc48 (j := 15) (by decide); have g16 := xne hcc51 (j := 16) (by decide); have g17 := xne hcc54 (j := 17) (by decide); have g18 := xne hcc57 (j := 18) (by decide); have g19 := xne hcc60 (j := 19) (by decide); omega) (by decide) ?_
  refine xr_aload_n (pc := 228) X (i := 0) 0 rfl rfl dL_call_228 ?_
  refine xr_iload_n (pc := 229) X (i := 2) 2 rfl rfl dL_call_229 ?_
  refine xr_callSWI (na := 2) (pc := 230) X [.ref (ad oo1), .int pp3] (c_L_tryBack Γ.2.1 hI hst oo1 hh1 pp3 σ) (wG_SW wm_21_15 wm_21_13 wm_21_14 wm_5_14) rfl rfl rfl (by decide +kernel) ⟨Nat.le_of_ble_eq_true rfl, Nat.le_of_ble_eq_true rfl⟩ rfl rfl (Nat.le_of_ble_eq_true rfl) ⟨(show _ ≤ 3 by omega), (show _ ≤ 18 by omega)⟩ dL_call_230 (fun zz62 σ61 => ?_)
  exact xr_iret (pc := 233) X (Nat.le_of_ble_eq_true rfl) (Nat.le_of_ble_eq_true rfl) dL_call_233
def F_L_cell (LL : Nat) (xs : Nat → Int32) (pp2 : Int32) (σ : xS) : Option (Int32 × xS) :=
  if (nI LL) ≤ pp2 then (some ((((15519397 * (pp2 + 3)) + 11471) &&& 2147483647), σ))
 else (if xin pp2 LL = true then (xlet (xs pp2.toNatClampNeg) (fun (zz1 : Int32) => some ((zz1 &&& 2147483647), σ))) else none)
abbrev rm_L_cell : Room := { frames := 0, cells := 0, slots := 0, locals := 0 }
set_option maxHeartbeats 4000000 in
set_option maxRecDepth 100000 in
theorem c_L_cell (l : Launch) {D : va_G} {ad : Nat → Nat} {N : Nat} {Sh : xSh} (hI : ∀ i j, i < N → j < N → ad i = ad j → i = j) (bb LL : Nat) (xs : Nat → Int32) (pp2 : Int32) (σ : xS) : xKS l yL_cell (Cond.code yL_cell cL_cell 2 (some .int) :: wG) rm_L_cell 0 0 D ad N Sh bb LL xs [.ref bb, .int pp2] σ (F_L_cell LL xs pp2 σ) := by
  refine x_startS (own := RL) (maxL := 2) (by decide) rfl rfl (Nat.le_of_ble_eq_true rfl) rfl hI (fun Γ hl hnL hSC X => ?_)
  subst hl
  unfold F_L_cell
  refine xr_iload_n (pc := 0) X (i := 1) 1 rfl rfl dL_cell_0 ?_
  refine xr_aload_n (pc := 1) X (i := 0) 0 rfl rfl dL_cell_1 ?_
  refine xr_slen (pc := 2) X hSC dL_cell_2 ?_
  refine xr_icmp_ge (pc := 3) X 12 (by decide) dL_cell_3 (fun _ => ?_) (fun _ => ?_)
  · refine xr_ldc (pc := 12) X dL_cell_12 (List.mem_cons_of_mem _ wm_5_16) ?_
    refine xr_iload_n (pc := 14) X (i := 1) 1 rfl rfl dL_cell_14 ?_
    refine xr_iconst (pc := 15) X dL_cell_15 (v := 3) (by decide) ?_
    refine xr_iadd (pc := 16) X dL_cell_16 ?_
    refine xr_imul (pc := 17) X dL_cell_17 ?_
    refine xr_sipush (pc := 18) X dL_cell_18 (v := 11471) (by decide) ?_
    refine xr_iadd (pc := 21) X dL_cell_21 ?_
    refine xr_ldc (pc := 22) X dL_cell_22 (List.mem_cons_of_mem _ wm_5_17) ?_
    refine xr_iand (pc := 24) X dL_cell_24 ?_
    exact xr_iret (pc := 25) X (Nat.le_of_ble_eq_true rfl) (Nat.le_of_ble_eq_true rfl) dL_cell_25
  refine xr_aload_n (pc := 6) X (i := 0) 0 rfl rfl dL_cell_6 ?_
  refine xr_iload_n (pc := 7) X (i := 1) 1 rfl rfl dL_cell_7 ?_
  refine xr_sld (pc := 8) X hSC dL_cell_8 (fun zz1 => ?_)
  refine xr_goto (pc := 9) X 22 (by decide) dL_cell_9 ?_
  refine xr_ldc (pc := 22) X dL_cell_22 (List.mem_cons_of_mem _ wm_5_17) ?_
  refine xr_iand (pc := 24) X dL_cell_24 ?_
  exact xr_iret (pc := 25) X (Nat.le_of_ble_eq_true rfl) (Nat.le_of_ble_eq_true rfl) dL_cell_25
def F_L_thrown (pp1 : Int32) (σ : xS) : Option (Int32 × xS) :=
  if pp1 = ((-9999001)) then (some ((1 : Int32), σ))
 else (if pp1 = ((-9999002)) then (some ((1 : Int32), σ))
 else (if ¬ pp1 = ((-9999003)) then (some ((0 : Int32), σ))
 else (some ((1 : Int32), σ))))
abbrev rm_L_thrown : Room := { frames := 0, cells := 0, slots := 0, locals := 0 }
set_option maxHeartbeats 4000000 in
set_option maxRecDepth 100000 in
theorem c_L_thrown (l : Launch) {D : va_G} {ad : Nat → Nat} {N : Nat} {Sh : xSh} (hI : ∀ i j, i < N → j < N → ad i = ad j → i = j) (pp1 : Int32) (σ : xS) : xKI l yL_thrown (Cond.code yL_thrown cL_thrown 1 (some .boolean) :: wG) rm_L_thrown 0 0 D ad N Sh [.int pp1] σ (F_L_thrown pp1 σ) := by
  refine x_startI (own := RL) (maxL := 1) (by decide) rfl rfl (Nat.le_of_ble_eq_true rfl) rfl hI (fun Γ hl hnL X => ?_)
  subst hl
  unfold F_L_thrown
  refine xr_iload_n (pc := 0) X (i := 0) 0 rfl rfl dL_thrown_0 ?_
  refine xr_ldc (pc := 1) X dL_thrown_1 (List.mem_cons_of_mem _ wm_14_7) ?_
  refine xr_icmp_eq (pc := 3) X 18 (by decide) dL_thrown_3 (fun _ => ?_) (fun _ => ?_)
  · refine xr_iconst (pc := 18) X dL_thrown_18 (v := 1) (by decide) ?_
    refine xr_goto (pc := 19) X 23 (by decide) dL_thrown_19 ?_
    exact xr_zret (pc := 23) X rfl (Nat.le_of_ble_eq_true rfl) (Nat.le_of_ble_eq_true rfl) dL_thrown_23
  refine xr_iload_n (pc := 6) X (i := 0) 0 rfl rfl dL_thrown_6 ?_
  refine xr_ldc (pc := 7) X dL_thrown_7 (List.mem_cons_of_mem _ wm_6_5) ?_
  refine xr_icmp_eq (pc := 9) X 18 (by decide) dL_thrown_9 (fun _ => ?_) (fun _ => ?_)
  · refine xr_iconst (pc := 18) X dL_thrown_18 (v := 1) (by decide) ?_
    refine xr_goto (pc := 19) X 23 (by decide) dL_thrown_19 ?_
    exact xr_zret (pc := 23) X rfl (Nat.le_of_ble_eq_true rfl) (Nat.le_of_ble_eq_true rfl) dL_thrown_23
  refine xr_iload_n (pc := 12) X (i := 0) 0 rfl rfl dL_thrown_12 ?_
  refine xr_ldc (pc := 13) X dL_thrown_13 (List.mem_cons_of_mem _ wm_6_6) ?_
  refine xr_icmp_ne (pc := 15) X 22 (by decide) dL_thrown_15 (fun _ => ?_) (fun _ => ?_)
  · refine xr_iconst (pc := 22) X dL_thrown_22 (v := 0) (by decide) ?_
    exact xr_zret (pc := 23) X rfl (Nat.le_of_ble_eq_true rfl) (Nat.le_of_ble_eq_true rfl) dL_thrown_23
  refine xr_iconst (pc := 18) X dL_thrown_18 (v := 1) (by decide) ?_
  refine xr_goto (pc := 19) X 23 (by decide) dL_thrown_19 ?_
  exact xr_zret (pc := 23) X rfl (Nat.le_of_ble_eq_true rfl) (Nat.le_of_ble_eq_true rfl) dL_thrown_23
def F_L_refuses (oo1 : Nat) (pp2 : Int32) (σ : xS) : Option (Int32 × xS) :=
  xbI (F_L_call oo1 2 0 0 0 σ) (fun (zz2 : Int32) (σ1 : xS) => xjn (fun (zz3 : Int32) (σ4 : xS) => xjn (fun (zz7 : Int32) (σ8 : xS) => xjn (fun (zz11 : Int32) (σ12 : xS) => xbI (F_L_call oo1 0 zz11 0 0 σ12) (fun (zz16 : Int32) (σ15 : xS) => if ¬ zz16 = ((-9999002)) then (some ((0 : Int32), σ15))
 else (xbI (F_L_call oo1 2 (9 + (pp2 - pp2 / 50 * 50)) 0 0 σ15) (fun (zz18 : Int32) (σ17 : xS) => if ¬ zz18 = ((-9999002)) then (some ((0 : Int32), σ17))
 else (xbI (F_L_call oo1 3 zz3 9 0 σ17) (fun (zz20 : Int32) (σ19 : xS) => if ¬ zz20 = ((-9999001)) then (some ((0 : Int32), σ19))
 else (if ¬ zz2 = 0 then (xbI (F_L_call oo1 3 (pp2 - pp2 / zz2 * zz2) (7 + (pp2 - pp2 / 9 * 9)) 0 σ19) (fun (zz23 : Int32) (σ22 : xS) => if ¬ zz23 = ((-9999002)) then (some ((0 : Int32), σ22))
 else (xbI (F_L_call oo1 4 zz3 9 0 σ22) (fun (zz25 : Int32) (σ24 : xS) => if ¬ zz25 = ((-9999001)) then (some ((0 : Int32), σ24))
 else (if ¬ zz2 = 0 then (xbI (F_L_call oo1 4 (pp2 - pp2 / zz2 * zz2) (6 + (pp2 - pp2 / 9 * 9)) 0 σ24) (fun (zz28 : Int32) (σ27 : xS) => if ¬ zz28 = ((-9999002)) then (some ((0 : Int32), σ27))
 else (xbI (F_L_call oo1 5 zz3 0 9 σ27) (fun (zz30 : Int32) (σ29 : xS) => if ¬ zz30 = ((-9999001)) then (some ((0 : Int32), σ29))
 else (xbI (F_L_call oo1 3 0 1 0 σ29) (fun (zz32 : Int32) (σ31 : xS) => xbI (F_L_call oo1 5 0 (zz32 + (pp2 - pp2 / 9 * 9)) 9 σ31) (fun (zz34 : Int32) (σ33 : xS) => if ¬ zz34 = ((-9999001)) then (some ((0 : Int32), σ33))
 else (xbI (F_L_call oo1 2 2 0 0 σ33) (fun (zz36 : Int32) (σ35 : xS) => xbI (F_L_call oo1 6 (zz36 + (pp2 - pp2 / 9 * 9)) 9 0 σ35) (fun (zz38 : Int32) (σ37 : xS) => if ¬ zz38 = ((-9999001)) then (some ((0 : Int32), σ37))
 else (xbI (F_L_call oo1 7 (4 + (pp2 - pp2 / 9 * 9)) 0 0 σ37) (fun (zz40 : Int32) (σ39 : xS) => if ¬ zz40 = ((-9999002)) then (some ((0 : Int32), σ39))
 else (xjn (fun (zz41 : Int32) (σ42 : xS) => xbI (F_L_call oo1 8 zz41 0 0 σ42) (fun (zz46 : Int32) (σ45 : xS) => if ¬ zz46 = ((-9999002)) then (some ((0 : Int32), σ45))
 else (xbI (F_L_call oo1 9 zz3 zz7 0 σ45) (fun (zz48 : Int32) (σ47 : xS) => if ¬ zz48 = ((-9999001)) then (some ((0 : Int32), σ47))
 else (if ¬ zz2 = 0 then (xbI (F_L_call oo1 9 (pp2 - pp2 / zz2 * zz2) zz7 0 σ47) (fun (zz51 : Int32) (σ50 : xS) => if ¬ zz51 = ((-9999002)) then (some ((0 : Int32), σ50))
 else (xbI (F_L_call oo1 10 0 zz3 5 σ50) (fun (zz53 : Int32) (σ52 : xS) => if ¬ zz53 = ((-9999001)) then (some ((0 : Int32), σ52))
 else (xjn (fun (zz54 : Int32) (σ55 : xS) => xbI (F_L_call oo1 10 zz54 0 5 σ55) (fun (zz59 : Int32) (σ58 : xS) => if ¬ zz59 = ((-9999002)) then (some ((0 : Int32), σ58))
 else (xbI (F_L_call oo1 10 5 0 zz7 σ58) (fun (zz61 : Int32) (σ60 : xS) => if ¬ zz61 = ((-9999002)) then (some ((0 : Int32), σ60))
 else (xbI (F_L_holds oo1 zz3 1 σ60) (fun (zz63 : Int32) (σ62 : xS) => if ¬ zz63 = ((-9999001)) then (some ((0 : Int32), σ62))
 else (xbI (F_L_call oo1 11 zz3 0 0 σ62) (fun (zz65 : Int32) (σ64 : xS) => if ¬ zz65 = ((-9999001)) then (some ((0 : Int32), σ64))
 else (xjn (fun (zz66 : Int32) (σ67 : xS) => xbI (F_L_call oo1 12 zz66 0 0 σ67) (fun (zz71 : Int32) (σ70 : xS) => if ¬ zz71 = ((-9999002)) then (some ((0 : Int32), σ70))
 else (xjn (fun (zz72 : Int32) (σ73 : xS) => xbI (F_L_call oo1 13 0 zz72 0 σ73) (fun (zz77 : Int32) (σ76 : xS) => if ¬ zz77 = ((-9999002)) then (some ((0 : Int32), σ76))
 else (xbI (F_L_call oo1 13 1 (21 + (pp2 - pp2 / 9 * 9)) 0 σ76) (fun (zz79 : Int32) (σ78 : xS) => if ¬ zz79 = ((-9999002)) then (some ((0 : Int32), σ78))
 else (xjn (fun (zz80 : Int32) (σ81 : xS) => xbI (F_L_call oo1 13 2 zz80 0 σ81) (fun (zz85 : Int32) (σ84 : xS) => if ¬ zz85 = ((-9999002)) then (some ((0 : Int32), σ84))
 else (xjn (fun (zz86 : Int32) (σ87 : xS) => xbI (F_L_call oo1 13 3 zz86 0 σ87) (fun (zz91 : Int32) (σ90 : xS) => if ¬ zz91 = ((-9999002)) then (some ((0 : Int32), σ90))
 else (xbI (F_L_call oo1 13 (4 + (pp2 - pp2 / 9 * 9)) 5 0 σ90) (fun (zz93 : Int32) (σ92 : xS) => if ¬ zz93 = ((-9999002)) then (some ((0 : Int32), σ92))
 else (xbI (F_L_call oo1 15 zz3 0 0 σ92) (fun (zz95 : Int32) (σ94 : xS) => if ¬ zz95 = ((-9999001)) then (some ((0 : Int32), σ94))
 else (xbI (F_L_call oo1 16 zz3 zz7 0 σ94) (fun (zz97 : Int32) (σ96 : xS) => if ¬ zz97 = ((-9999001)) then (some ((0 : Int32), σ96))
 else (if ¬ zz2 = 0 then (xbI (F_L_call oo1 16 (pp2 - pp2 / zz2 * zz2) zz7 0 σ96) (fun (zz100 : Int32) (σ99 : xS) => if ¬ zz100 = ((-9999002)) then (some ((0 : Int32), σ99))
 else (xbI (F_L_call oo1 17 zz3 9 0 σ99) (fun (zz102 : Int32) (σ101 : xS) => if ¬ zz102 = ((-9999001)) then (some ((0 : Int32), σ101))
 else (xbI (F_L_call oo1 17 0 (4 + (pp2 - pp2 / 9 * 9)) 0 σ101) (fun (zz104 : Int32) (σ103 : xS) => if ¬ zz104 = ((-9999002)) then (some ((0 : Int32), σ103))
 else (xbI (F_L_call oo1 18 9 zz3 0 σ103) (fun (zz106 : Int32) (σ105 : xS) => if ¬ zz106 = ((-9999001)) then (some ((0 : Int32), σ105))
 else (xjn (fun (zz107 : Int32) (σ108 : xS) => xbI (F_L_call oo1 18 zz107 0 0 σ108) (fun (zz112 : Int32) (σ111 : xS) => if ¬ zz112 = ((-9999002)) then (some ((0 : Int32), σ111))
 else (xbI (F_L_call oo1 19 (2 + (pp2 - pp2 / 50 * 50)) 0 0 σ111) (fun (zz114 : Int32) (σ113 : xS) => if ¬ zz114 = ((-9999001)) then (some ((0 : Int32), σ113))
 else (xbI (F_L_call oo1 20 (((-1)) - (pp2 - pp2 / 9 * 9)) 0 0 σ113) (fun (zz116 : Int32) (σ115 : xS) => if ¬ zz116 = ((-9999001)) then (some ((0 : Int32), σ115))
 else (xbI (F_L_doScript oo1 0 0 σ115) (fun (zz118 : Int32) (σ117 : xS) => if ¬ zz118 = ((-9999002)) then (some ((0 : Int32), σ117))
 else (xbI (F_L_doScript oo1 1 (100000 + pp2.toInt64) σ117) (fun (zz120 : Int32) (σ119 : xS) => if ¬ zz120 = ((-9999002)) then (some ((0 : Int32), σ119))
 else (xbI (F_L_doSimulate oo1 pp2.toInt64 (61 + (pp2 - pp2 / 9 * 9)) σ119) (fun (zz122 : Int32) (σ121 : xS) => if ¬ zz122 = ((-9999002)) then (some ((0 : Int32), σ121))
 else (some ((1 : Int32), σ121))))))))))))))
 (fun (KK109 : Int32 → xS → Option (Int32 × xS)) => if ¬ (pp2 - pp2 / 2 * 2) = 0 then (KK109 (3 + (pp2 - pp2 / 9 * 9)) σ105)
 else (KK109 0 σ105))))))))))) else none)))))))))
 (fun (KK88 : Int32 → xS → Option (Int32 × xS)) => if ¬ (pp2 - pp2 / 2 * 2) = 0 then (KK88 (7 + (pp2 - pp2 / 9 * 9)) σ84)
 else (KK88 0 σ84)))))
 (fun (KK82 : Int32 → xS → Option (Int32 × xS)) => if ¬ (pp2 - pp2 / 2 * 2) = 0 then (KK82 (100 + (pp2 - pp2 / 9 * 9)) σ78)
 else (KK82 (pp2 - pp2 / 4 * 4) σ78)))))))
 (fun (KK74 : Int32 → xS → Option (Int32 × xS)) => if ¬ (pp2 - pp2 / 2 * 2) = 0 then (KK74 (10 + (pp2 - pp2 / 9 * 9)) σ70)
 else (KK74 0 σ70)))))
 (fun (KK68 : Int32 → xS → Option (Int32 × xS)) => if ¬ (pp2 - pp2 / 2 * 2) = 0 then (KK68 (100 + (pp2 - pp2 / 9 * 9)) σ64)
 else (KK68 0 σ64)))))))))))
 (fun (KK56 : Int32 → xS → Option (Int32 × xS)) => if ¬ (pp2 - pp2 / 2 * 2) = 0 then (KK56 (100 + (pp2 - pp2 / 9 * 9)) σ52)
 else (KK56 0 σ52))))))) else none)))))
 (fun (KK43 : Int32 → xS → Option (Int32 × xS)) => if ¬ (pp2 - pp2 / 2 * 2) = 0 then (KK43 (5 + (pp2 - pp2 / 9 * 9)) σ39)
 else (KK43 (-(pp2 - pp2 / 9 * 9)) σ39))))))))))))))) else none))))) else none)))))))
 (fun (KK13 : Int32 → xS → Option (Int32 × xS)) => if ¬ (pp2 - pp2 / 2 * 2) = 0 then (KK13 (256 + (pp2 - pp2 / 9 * 9)) σ8)
 else (KK13 (((-1)) - (pp2 - pp2 / 9 * 9)) σ8)))
 (fun (KK9 : Int32 → xS → Option (Int32 × xS)) => if ¬ (pp2 - pp2 / 2 * 2) = 0 then (KK9 (501 + (pp2 - pp2 / 99 * 99)) σ4)
 else (KK9 (-(pp2 - pp2 / 99 * 99)) σ4)))
 (fun (KK5 : Int32 → xS → Option (Int32 × xS)) => if ¬ (pp2 - pp2 / 2 * 2) = 0 then (KK5 (zz2 + (pp2 - pp2 / 99 * 99)) σ1)
 else (KK5 (((-1)) - (pp2 - pp2 / 99 * 99)) σ1)))
abbrev rm_L_refuses : Room := { frames := 11, cells := 111, slots := 666, locals := 220 }
set_option maxHeartbeats 4000000 in
set_option maxRecDepth 100000 in
theorem c_L_refuses (l : Launch) {D : va_G} {ad : Nat → Nat} {N : Nat} {Sh : xSh} (hI : ∀ i j, i < N → j < N → ad i = ad j → i = j) (hst : l.stackTraces = false) (oo1 : Nat) (hh1 : xIs5 D ad N Sh oo1) (pp2 : Int32) (σ : xS) : xKI l yL_refuses (Cond.code yL_refuses cL_refuses 5 (some .boolean) :: wG) rm_L_refuses 111 666 D ad N Sh [.ref (ad oo1), .int pp2] σ (F_L_refuses oo1 pp2 σ) := by
  refine x_startI (own := RL) (maxL := 5) (by decide) rfl rfl (Nat.le_of_ble_eq_true rfl) rfl hI (fun Γ hl hnL X => ?_)
  subst hl
  unfold F_L_refuses
  refine xr_aload_n (pc := 0) X (i := 0) 0 rfl rfl dL_refuses_0 ?_
  refine xr_iconst (pc := 1) X dL_refuses_1 (v := 2) (by decide) ?_
  refine xr_iconst (pc := 2) X dL_refuses_2 (v := 0) (by decide) ?_
  refine xr_iconst (pc := 3) X dL_refuses_3 (v := 0) (by decide) ?_
  refine xr_iconst (pc := 4) X dL_refuses_4 (v := 0) (by decide) ?_
  refine xr_callSI (na := 5) (pc := 5) X [.ref (ad oo1), .int 2, .int 0, .int 0, .int 0] (c_L_call Γ.2.1 hI hst oo1 hh1 2 0 0 0 σ) (wG_S wm_5_23 wm_5_21 wm_5_22 wm_5_14) rfl rfl rfl (by decide +kernel) ⟨Nat.le_of_ble_eq_true rfl, Nat.le_of_ble_eq_true rfl⟩ rfl rfl (Nat.le_of_ble_eq_true rfl) ⟨(show _ ≤ 111 by omega), (show _ ≤ 666 by omega)⟩ dL_refuses_5 (fun zz2 σ1 => ?_)
  refine xr_istore_n (pc := 8) X (hf := rfl) (i := 2) [1, 2, 0] (Nat.le_of_ble_eq_true rfl) hnL rfl dL_refuses_8 ?_
  refine xr_iload_n (pc := 9) X (i := 1) 1 rfl rfl dL_refuses_9 ?_
  refine xr_iconst (pc := 10) X dL_refuses_10 (v := 2) (by decide) ?_
  refine xr_irem (pc := 11) X (by decide) dL_refuses_11 ?_
  refine x_jn (fun (KK5 : Int32 → xS → Option (Int32 × xS)) => ∀ zz3 σ4, xM Γ D ad N Sh (xQI Γ D ad N Sh 111 666) 3 18 (KK5 zz3 σ4) σ4 30 [(0, .ref (ad oo1)), (1, .int pp2), (2, .int zz2)] [.int zz3]) (fun zz3 σ4 => ?_) (fun KK5 hKK6 => ?_)
  · refine xr_istore_n (pc := 30) X (hf := rfl) (i := 3) [1, 2, 3, 0] (Nat.le_of_ble_eq_true rfl) hnL rfl dL_refuses_30 ?_
    refine xr_iload_n (pc := 31) X (i := 1) 1 rfl rfl dL_refuses_31 ?_
    refine xr_iconst (pc := 32) X dL_refuses_32 (v := 2) (by decide) ?_
    refine xr_irem (pc := 33) X (by decide) dL_refuses_33 ?_
    refine x_jn (fun (KK9 : Int32 → xS → Option (Int32 × xS)) => ∀ zz7 σ8, xM Γ D ad N Sh (xQI Γ D ad N Sh 111 666) 3 18 (KK9 zz7 σ8) σ8 53 [(0, .ref (ad oo1)), (1, .int pp2), (2, .int zz2), (3, .int zz3)] [.int zz7]) (fun zz7 σ8 => ?_) (fun KK9 hKK10 => ?_)
    · refine xr_istore (pc := 53) X (i := 4) [1, 2, 3, 4, 0] (Nat.le_of_ble_eq_true rfl) hnL rfl dL_refuses_53 ?_
      refine xr_aload_n (pc := 55) X (i := 0) 0 rfl rfl dL_refuses_55 ?_
      refine xr_iconst (pc := 56) X dL_refuses_56 (v := 0) (by decide) ?_
      refine xr_iload_n (pc := 57) X (i := 1) 1 rfl rfl dL_refuses_57 ?_
      refine xr_iconst (pc := 58) X dL_refuses_58 (v := 2) (by decide) ?_
      refine xr_irem (pc := 59) X (by decide) dL_refuses_59 ?_
      refine x_jn (fun (KK13 : Int32 → xS → Option (Int32 × xS)) => ∀ zz11 σ12, xM Γ D ad N Sh (xQI Γ D ad N Sh 111 666) 3 18 (KK13 zz11 σ12) σ12 80 [(0, .ref (ad oo1)), (1, .int pp2), (2, .int zz2), (3, .int zz3), (4, .int zz7)] [.int zz11, .int 0, .ref (ad oo1)]) (fun zz11 σ12 => ?_) (fun KK13 hKK14 => ?_)
      · refine xr_iconst (pc := 80) X dL_refuses_80 (v := 0) (by decide) ?_
        refine xr_iconst (pc := 81) X dL_refuses_81 (v := 0) (by decide) ?_
        refine xr_callSI (na := 5) (pc := 82) X [.ref (ad oo1), .int 0, .int zz11, .int 0, .int 0] (c_L_call Γ.2.1 hI hst oo1 hh1 0 zz11 0 0 σ12) (wG_S wm_5_23 wm_5_21 wm_5_22 wm_5_14) rfl rfl rfl (by decide +kernel) ⟨Nat.le_of_ble_eq_true rfl, Nat.le_of_ble_eq_true rfl⟩ rfl rfl (Nat.le_of_ble_eq_true rfl) ⟨(show _ ≤ 111 by omega), (show _ ≤ 666 by omega)⟩ dL_refuses_82 (fun zz16 σ15 => ?_)
        refine xr_ldc (pc := 85) X dL_refuses_85 (List.mem_cons_of_mem _ wm_6_5) ?_
        refine xr_icmp_ne (pc := 87) X 786 (by decide) dL_refuses_87 (fun _ => ?_) (fun _ => ?_)
        · refine xr_iconst (pc := 786) X dL_refuses_786 (v := 0) (by decide) ?_
          exact xr_zret (pc := 787) X rfl (Nat.le_of_ble_eq_true rfl) (Nat.le_of_ble_eq_true rfl) dL_refuses_787
        refine xr_aload_n (pc := 90) X (i := 0) 0 rfl rfl dL_refuses_90 ?_
        refine xr_iconst (pc := 91) X dL_refuses_91 (v := 2) (by decide) ?_
        refine xr_bipush (pc := 92) X dL_refuses_92 (v := 9) (by decide) ?_
        refine xr_iload_n (pc := 94) X (i := 1) 1 rfl rfl dL_refuses_94 ?_
        refine xr_bipush (pc := 95) X dL_refuses_95 (v := 50) (by decide) ?_
        refine xr_irem (pc := 97) X (by decide) dL_refuses_97 ?_
        refine xr_iadd (pc := 98) X dL_refuses_98 ?_
        refine xr_iconst (pc := 99) X dL_refuses_99 (v := 0) (by decide) ?_
        refine xr_iconst (pc := 100) X dL_refuses_100 (v := 0) (by decide) ?_
        refine xr_callSI (na := 5) (pc := 101) X [.ref (ad oo1), .int 2, .int (9 + (pp2 - pp2 / 50 * 50)), .int 0, .int 0] (c_L_call Γ.2.1 hI hst oo1 hh1 2 (9 + (pp2 - pp2 / 50 * 50)) 0 0 σ15) (wG_S wm_5_23 wm_5_21 wm_5_22 wm_5_14) rfl rfl rfl (by decide +kernel) ⟨Nat.le_of_ble_eq_true rfl, Nat.le_of_ble_eq_true rfl⟩ rfl rfl (Nat.le_of_ble_eq_true rfl) ⟨(show _ ≤ 111 by omega), (show _ ≤ 666 by omega)⟩ dL_refuses_101 (fun zz18 σ17 => ?_)
        refine xr_ldc (pc := 104) X dL_refuses_104 (List.mem_cons_of_mem _ wm_6_5) ?_
        refine xr_icmp_ne (pc := 106) X 786 (by decide) dL_refuses_106 (fun _ => ?_) (fun _ => ?_)
        · refine xr_iconst (pc := 786) X dL_refuses_786 (v := 0) (by decide) ?_
          exact xr_zret (pc := 787) X rfl (Nat.le_of_ble_eq_true rfl) (Nat.le_of_ble_eq_true rfl) dL_refuses_787
        refine xr_aload_n (pc := 109) X (i := 0) 0 rfl rfl dL_refuses_109 ?_
        refine xr_iconst (pc := 110) X dL_refuses_110 (v := 3) (by decide) ?_
        refine xr_iload_n (pc := 111) X (i := 3) 3 rfl rfl dL_refuses_111 ?_
        refine xr_bipush (pc := 112) X dL_refuses_112 (v := 9) (by decide) ?_
        refine xr_iconst (pc := 114) X dL_refuses_114 (v := 0) (by decide) ?_
        refine xr_callSI (na := 5) (pc := 115) X [.ref (ad oo1), .int 3, .int zz3, .int 9, .int 0] (c_L_call Γ.2.1 hI hst oo1 hh1 3 zz3 9 0 σ17) (wG_S wm_5_23 wm_5_21 wm_5_22 wm_5_14) rfl rfl rfl (by decide +kernel) ⟨Nat.le_of_ble_eq_true rfl, Nat.le_of_ble_eq_true rfl⟩ rfl rfl (Nat.le_of_ble_eq_true rfl) ⟨(show _ ≤ 111 by omega), (show _ ≤ 666 by omega)⟩ dL_refuses_115 (fun zz20 σ19 => ?_)
        refine xr_ldc (pc := 118) X dL_refuses_118 (List.mem_cons_of_mem _ wm_14_7) ?_
        refine xr_icmp_ne (pc := 120) X 786 (by decide) dL_refuses_120 (fun _ => ?_) (fun _ => ?_)
        · refine xr_iconst (pc := 786) X dL_refuses_786 (v := 0) (by decide) ?_
          exact xr_zret (pc := 787) X rfl (Nat.le_of_ble_eq_true rfl) (Nat.le_of_ble_eq_true rfl) dL_refuses_787
        refine xr_aload_n (pc := 123) X (i := 0) 0 rfl rfl dL_refuses_123 ?_
        refine xr_iconst (pc := 124) X dL_refuses_124 (v := 3) (by decide) ?_
        refine xr_iload_n (pc := 125) X (i := 1) 1 rfl rfl dL_refuses_125 ?_
        refine xr_iload_n (pc := 126) X (i := 2) 2 rfl rfl dL_refuses_126 ?_
        refine x_gd (fun hzz21 => ?_)
        refine xr_irem (pc := 127) X hzz21 dL_refuses_127 ?_
        refine xr_bipush (pc := 128) X dL_refuses_128 (v := 7) (by decide) ?_
        refine xr_iload_n (pc := 130) X (i := 1) 1 rfl rfl dL_refuses_130 ?_
        refine xr_bipush (pc := 131) X dL_refuses_131 (v := 9) (by decide) ?_
        refine xr_irem (pc := 133) X (by decide) dL_refuses_133 ?_
        refine xr_iadd (pc := 134) X dL_refuses_134 ?_
        refine xr_iconst (pc := 135) X dL_refuses_135 (v := 0) (by decide) ?_
        refine xr_callSI (na := 5) (pc := 136) X [.ref (ad oo1), .int 3, .int (pp2 - pp2 / zz2 * zz2), .int (7 + (pp2 - pp2 / 9 * 9)), .int 0] (c_L_call Γ.2.1 hI hst oo1 hh1 3 (pp2 - pp2 / zz2 * zz2) (7 + (pp2 - pp2 / 9 * 9)) 0 σ19) (wG_S wm_5_23 wm_5_21 wm_5_22 wm_5_14) rfl rfl rfl (by decide +kernel) ⟨Nat.le_of_ble_eq_true rfl, Nat.le_of_ble_eq_true rfl⟩ rfl rfl (Nat.le_of_ble_eq_true rfl) ⟨(show _ ≤ 111 by omega), (show _ ≤ 666 by omega)⟩ dL_refuses_136 (fun zz23 σ22 => ?_)
        refine xr_ldc (pc := 139) X dL_refuses_139 (List.mem_cons_of_mem _ wm_6_5) ?_
        refine xr_icmp_ne (pc := 141) X 786 (by decide) dL_refuses_141 (fun _ => ?_) (fun _ => ?_)
        · refine xr_iconst (pc := 786) X dL_refuses_786 (v := 0) (by decide) ?_
          exact xr_zret (pc := 787) X rfl (Nat.le_of_ble_eq_true rfl) (Nat.le_of_ble_eq_true rfl) dL_refuses_787
        refine xr_aload_n (pc := 144) X (i := 0) 0 rfl rfl dL_refuses_144 ?_
        refine xr_iconst (pc := 145) X dL_refuses_145 (v := 4) (by decide) ?_
        refine xr_iload_n (pc := 146) X (i := 3) 3 rfl rfl dL_refuses_146 ?_
        refine xr_bipush (pc := 147) X dL_refuses_147 (v := 9) (by decide) ?_
        refine xr_iconst (pc := 149) X dL_refuses_149 (v := 0) (by decide) ?_
        refine xr_callSI (na := 5) (pc := 150) X [.ref (ad oo1), .int 4, .int zz3, .int 9, .int 0] (c_L_call Γ.2.1 hI hst oo1 hh1 4 zz3 9 0 σ22) (wG_S wm_5_23 wm_5_21 wm_5_22 wm_5_14) rfl rfl rfl (by decide +kernel) ⟨Nat.le_of_ble_eq_true rfl, Nat.le_of_ble_eq_true rfl⟩ rfl rfl (Nat.le_of_ble_eq_true rfl) ⟨(show _ ≤ 111 by omega), (show _ ≤ 666 by omega)⟩ dL_refuses_150 (fun zz25 σ24 => ?_)
        refine xr_ldc (pc := 153) X dL_refuses_153 (List.mem_cons_of_mem _ wm_14_7) ?_
        refine xr_icmp_ne (pc := 155) X 786 (by decide) dL_refuses_155 (fun _ => ?_) (fun _ => ?_)
        · refine xr_iconst (pc := 786) X dL_refuses_786 (v := 0) (by decide) ?_
          exact xr_zret (pc := 787) X rfl (Nat.le_of_ble_eq_true rfl) (Nat.le_of_ble_eq_true rfl) dL_refuses_787
        refine xr_aload_n (pc := 158) X (i := 0) 0 rfl rfl dL_refuses_158 ?_
        refine xr_iconst (pc := 159) X dL_refuses_159 (v := 4) (by decide) ?_
        refine xr_iload_n (pc := 160) X (i := 1) 1 rfl rfl dL_refuses_160 ?_
        refine xr_iload_n (pc := 161) X (i := 2) 2 rfl rfl dL_refuses_161 ?_
        refine x_gd (fun hzz26 => ?_)
        refine xr_irem (pc := 162) X hzz26 dL_refuses_162 ?_
        refine xr_bipush (pc := 163) X dL_refuses_163 (v := 6) (by decide) ?_
        refine xr_iload_n (pc := 165) X (i := 1) 1 rfl rfl dL_refuses_165 ?_
        refine xr_bipush (pc := 166) X dL_refuses_166 (v := 9) (by decide) ?_
        refine xr_irem (pc := 168) X (by decide) dL_refuses_168 ?_
        refine xr_iadd (pc := 169) X dL_refuses_169 ?_
        refine xr_iconst (pc := 170) X dL_refuses_170 (v := 0) (by decide) ?_
        refine xr_callSI (na := 5) (pc := 171) X [.ref (ad oo1), .int 4, .int (pp2 - pp2 / zz2 * zz2), .int (6 + (pp2 - pp2 / 9 * 9)), .int 0] (c_L_call Γ.2.1 hI hst oo1 hh1 4 (pp2 - pp2 / zz2 * zz2) (6 + (pp2 - pp2 / 9 * 9)) 0 σ24) (wG_S wm_5_23 wm_5_21 wm_5_22 wm_5_14) rfl rfl rfl (by decide +kernel) ⟨Nat.le_of_ble_eq_true rfl, Nat.le_of_ble_eq_true rfl⟩ rfl rfl (Nat.le_of_ble_eq_true rfl) ⟨(show _ ≤ 111 by omega), (show _ ≤ 666 by omega)⟩ dL_refuses_171 (fun zz28 σ27 => ?_)
        refine xr_ldc (pc := 174) X dL_refuses_174 (List.mem_cons_of_mem _ wm_6_5) ?_
        refine xr_icmp_ne (pc := 176) X 786 (by decide) dL_refuses_176 (fun _ => ?_) (fun _ => ?_)
        · refine xr_iconst (pc := 786) X dL_refuses_786 (v := 0) (by decide) ?_
          exact xr_zret (pc := 787) X rfl (Nat.le_of_ble_eq_true rfl) (Nat.le_of_ble_eq_true rfl) dL_refuses_787
        refine xr_aload_n (pc := 179) X (i := 0) 0 rfl rfl dL_refuses_179 ?_
        refine xr_iconst (pc := 180) X dL_refuses_180 (v := 5) (by decide) ?_
        refine xr_iload_n (pc := 181) X (i := 3) 3 rfl rfl dL_refuses_181 ?_
        refine xr_iconst (pc := 182) X dL_refuses_182 (v := 0) (by decide) ?_
        refine xr_bipush (pc := 183) X dL_refuses_183 (v := 9) (by decide) ?_
        refine xr_callSI (na := 5) (pc := 185) X [.ref (ad oo1), .int 5, .int zz3, .int 0, .int 9] (c_L_call Γ.2.1 hI hst oo1 hh1 5 zz3 0 9 σ27) (wG_S wm_5_23 wm_5_21 wm_5_22 wm_5_14) rfl rfl rfl (by decide +kernel) ⟨Nat.le_of_ble_eq_true rfl, Nat.le_of_ble_eq_true rfl⟩ rfl rfl (Nat.le_of_ble_eq_true rfl) ⟨(show _ ≤ 111 by omega), (show _ ≤ 666 by omega)⟩ dL_refuses_185 (fun zz30 σ29 => ?_)
        refine xr_ldc (pc := 188) X dL_refuses_188 (List.mem_cons_of_mem _ wm_14_7) ?_
        refine xr_icmp_ne (pc := 190) X 786 (by decide) dL_refuses_190 (fun _ => ?_) (fun _ => ?_)
        · refine xr_iconst (pc := 786) X dL_refuses_786 (v := 0) (by decide) ?_
          exact xr_zret (pc := 787) X rfl (Nat.le_of_ble_eq_true rfl) (Nat.le_of_ble_eq_true rfl) dL_refuses_787
        refine xr_aload_n (pc := 193) X (i := 0) 0 rfl rfl dL_refuses_193 ?_
        refine xr_iconst (pc := 194) X dL_refuses_194 (v := 5) (by decide) ?_
        refine xr_iconst (pc := 195) X dL_refuses_195 (v := 0) (by decide) ?_
        refine xr_aload_n (pc := 196) X (i := 0) 0 rfl rfl dL_refuses_196 ?_
        refine xr_iconst (pc := 197) X dL_refuses_197 (v := 3) (by decide) ?_
        refine xr_iconst (pc := 198) X dL_refuses_198 (v := 0) (by decide) ?_
        refine xr_iconst (pc := 199) X dL_refuses_199 (v := 1) (by decide) ?_
        refine xr_iconst (pc := 200) X dL_refuses_200 (v := 0) (by decide) ?_
        refine xr_callSI (na := 5) (pc := 201) X [.ref (ad oo1), .int 3, .int 0, .int 1, .int 0] (c_L_call Γ.2.1 hI hst oo1 hh1 3 0 1 0 σ29) (wG_S wm_5_23 wm_5_21 wm_5_22 wm_5_14) rfl rfl rfl (by decide +kernel) ⟨Nat.le_of_ble_eq_true rfl, Nat.le_of_ble_eq_true rfl⟩ rfl rfl (Nat.le_of_ble_eq_true rfl) ⟨(show _ ≤ 111 by omega), (show _ ≤ 666 by omega)⟩ dL_refuses_201 (fun zz32 σ31 => ?_)
        refine xr_iload_n (pc := 204) X (i := 1) 1 rfl rfl dL_refuses_204 ?_
        refine xr_bipush (pc := 205) X dL_refuses_205 (v := 9) (by decide) ?_
        refine xr_irem (pc := 207) X (by decide) dL_refuses_207 ?_
        refine xr_iadd (pc := 208) X dL_refuses_208 ?_
        refine xr_bipush (pc := 209) X dL_refuses_209 (v := 9) (by decide) ?_
        refine xr_callSI (na := 5) (pc := 211) X [.ref (ad oo1), .int 5, .int 0, .int (zz32 + (pp2 - pp2 / 9 * 9)), .int 9] (c_L_call Γ.2.1 hI hst oo1 hh1 5 0 (zz32 + (pp2 - pp2 / 9 * 9)) 9 σ31) (wG_S wm_5_23 wm_5_21 wm_5_22 wm_5_14) rfl rfl rfl (by decide +kernel) ⟨Nat.le_of_ble_eq_true rfl, Nat.le_of_ble_eq_true rfl⟩ rfl rfl (Nat.le_of_ble_eq_true rfl) ⟨(show _ ≤ 111 by omega), (show _ ≤ 666 by omega)⟩ dL_refuses_211 (fun zz34 σ33 => ?_)
        refine xr_ldc (pc := 214) X dL_refuses_214 (List.mem_cons_of_mem _ wm_14_7) ?_
        refine xr_icmp_ne (pc := 216) X 786 (by decide) dL_refuses_216 (fun _ => ?_) (fun _ => ?_)
        · refine xr_iconst (pc := 786) X dL_refuses_786 (v := 0) (by decide) ?_
          exact xr_zret (pc := 787) X rfl (Nat.le_of_ble_eq_true rfl) (Nat.le_of_ble_eq_true rfl) dL_refuses_787
        refine xr_aload_n (pc := 219) X (i := 0) 0 rfl rfl dL_refuses_219 ?_
        refine xr_bipush (pc := 220) X dL_refuses_220 (v := 6) (by decide) ?_
        refine xr_aload_n (pc := 222) X (i := 0) 0 rfl rfl dL_refuses_222 ?_
        refine xr_iconst (pc := 223) X dL_refuses_223 (v := 2) (by decide) ?_
        refine xr_iconst (pc := 224) X dL_refuses_224 (v := 2) (by decide) ?_
        refine xr_iconst (pc := 225) X dL_refuses_225 (v := 0) (by decide) ?_
        refine xr_iconst (pc := 226) X dL_refuses_226 (v := 0) (by decide) ?_
        refine xr_callSI (na := 5) (pc := 227) X [.ref (ad oo1), .int 2, .int 2, .int 0, .int 0] (c_L_call Γ.2.1 hI hst oo1 hh1 2 2 0 0 σ33) (wG_S wm_5_23 wm_5_21 wm_5_22 wm_5_14) rfl rfl rfl (by decide +kernel) ⟨Nat.le_of_ble_eq_true rfl, Nat.le_of_ble_eq_true rfl⟩ rfl rfl (Nat.le_of_ble_eq_true rfl) ⟨(show _ ≤ 111 by omega), (show _ ≤ 666 by omega)⟩ dL_refuses_227 (fun zz36 σ35 => ?_)
        refine xr_iload_n (pc := 230) X (i := 1) 1 rfl rfl dL_refuses_230 ?_
        refine xr_bipush (pc := 231) X dL_refuses_231 (v := 9) (by decide) ?_
        refine xr_irem (pc := 233) X (by decide) dL_refuses_233 ?_
        refine xr_iadd (pc := 234) X dL_refuses_234 ?_
        refine xr_bipush (pc := 235) X dL_refuses_235 (v := 9) (by decide) ?_
        refine xr_iconst (pc := 237) X dL_refuses_237 (v := 0) (by decide) ?_
        refine xr_callSI (na := 5) (pc := 238) X [.ref (ad oo1), .int 6, .int (zz36 + (pp2 - pp2 / 9 * 9)), .int 9, .int 0] (c_L_call Γ.2.1 hI hst oo1 hh1 6 (zz36 + (pp2 - pp2 / 9 * 9)) 9 0 σ35) (wG_S wm_5_23 wm_5_21 wm_5_22 wm_5_14) rfl rfl rfl (by decide +kernel) ⟨Nat.le_of_ble_eq_true rfl, Nat.le_of_ble_eq_true rfl⟩ rfl rfl (Nat.le_of_ble_eq_true rfl) ⟨(show _ ≤ 111 by omega), (show _ ≤ 666 by omega)⟩ dL_refuses_238 (fun zz38 σ37 => ?_)
        refine xr_ldc (pc := 241) X dL_refuses_241 (List.mem_cons_of_mem _ wm_14_7) ?_
        refine xr_icmp_ne (pc := 243) X 786 (by decide) dL_refuses_243 (fun _ => ?_) (fun _ => ?_)
        · refine xr_iconst (pc := 786) X dL_refuses_786 (v := 0) (by decide) ?_
          exact xr_zret (pc := 787) X rfl (Nat.le_of_ble_eq_true rfl) (Nat.le_of_ble_eq_true rfl) dL_refuses_787
        refine xr_aload_n (pc := 246) X (i := 0) 0 rfl rfl dL_refuses_246 ?_
        refine xr_bipush (pc := 247) X dL_refuses_247 (v := 7) (by decide) ?_
        refine xr_iconst (pc := 249) X dL_refuses_249 (v := 4) (by decide) ?_
        refine xr_iload_n (pc := 250) X (i := 1) 1 rfl rfl dL_refuses_250 ?_
        refine xr_bipush (pc := 251) X dL_refuses_251 (v := 9) (by decide) ?_
        refine xr_irem (pc := 253) X (by decide) dL_refuses_253 ?_
        refine xr_iadd (pc := 254) X dL_refuses_254 ?_
        refine xr_iconst (pc := 255) X dL_refuses_255 (v := 0) (by decide) ?_
        refine xr_iconst (pc := 256) X dL_refuses_256 (v := 0) (by decide) ?_
        refine xr_callSI (na := 5) (pc := 257) X [.ref (ad oo1), .int 7, .int (4 + (pp2 - pp2 / 9 * 9)), .int 0, .int 0] (c_L_call Γ.2.1 hI hst oo1 hh1 7 (4 + (pp2 - pp2 / 9 * 9)) 0 0 σ37) (wG_S wm_5_23 wm_5_21 wm_5_22 wm_5_14) rfl rfl rfl (by decide +kernel) ⟨Nat.le_of_ble_eq_true rfl, Nat.le_of_ble_eq_true rfl⟩ rfl rfl (Nat.le_of_ble_eq_true rfl) ⟨(show _ ≤ 111 by omega), (show _ ≤ 666 by omega)⟩ dL_refuses_257 (fun zz40 σ39 => ?_)
        refine xr_ldc (pc := 260) X dL_refuses_260 (List.mem_cons_of_mem _ wm_6_5) ?_
        refine xr_icmp_ne (pc := 262) X 786 (by decide) dL_refuses_262 (fun _ => ?_) (fun _ => ?_)
        · refine xr_iconst (pc := 786) X dL_refuses_786 (v := 0) (by decide) ?_
          exact xr_zret (pc := 787) X rfl (Nat.le_of_ble_eq_true rfl) (Nat.le_of_ble_eq_true rfl) dL_refuses_787
        refine xr_aload_n (pc := 265) X (i := 0) 0 rfl rfl dL_refuses_265 ?_
        refine xr_bipush (pc := 266) X dL_refuses_266 (v := 8) (by decide) ?_
        refine xr_iload_n (pc := 268) X (i := 1) 1 rfl rfl dL_refuses_268 ?_
        refine xr_iconst (pc := 269) X dL_refuses_269 (v := 2) (by decide) ?_
        refine xr_irem (pc := 270) X (by decide) dL_refuses_270 ?_
        refine x_jn (fun (KK43 : Int32 → xS → Option (Int32 × xS)) => ∀ zz41 σ42, xM Γ D ad N Sh (xQI Γ D ad N Sh 111 666) 39 234 (KK43 zz41 σ42) σ42 288 [(0, .ref (ad oo1)), (1, .int pp2), (2, .int zz2), (3, .int zz3), (4, .int zz7)] [.int zz41, .int 8, .ref (ad oo1)]) (fun zz41 σ42 => ?_) (fun KK43 hKK44 => ?_)
        · refine xr_iconst (pc := 288) X dL_refuses_288 (v := 0) (by decide) ?_
          refine xr_iconst (pc := 289) X dL_refuses_289 (v := 0) (by decide) ?_
          refine xr_callSI (na := 5) (pc := 290) X [.ref (ad oo1), .int 8, .int zz41, .int 0, .int 0] (c_L_call Γ.2.1 hI hst oo1 hh1 8 zz41 0 0 σ42) (wG_S wm_5_23 wm_5_21 wm_5_22 wm_5_14) rfl rfl rfl (by decide +kernel) ⟨Nat.le_of_ble_eq_true rfl, Nat.le_of_ble_eq_true rfl⟩ rfl rfl (Nat.le_of_ble_eq_true rfl) ⟨(show _ ≤ 111 by omega), (show _ ≤ 666 by omega)⟩ dL_refuses_290 (fun zz46 σ45 => ?_)
          refine xr_ldc (pc := 293) X dL_refuses_293 (List.mem_cons_of_mem _ wm_6_5) ?_
          refine xr_icmp_ne (pc := 295) X 786 (by decide) dL_refuses_295 (fun _ => ?_) (fun _ => ?_)
          · refine xr_iconst (pc := 786) X dL_refuses_786 (v := 0) (by decide) ?_
            exact xr_zret (pc := 787) X rfl (Nat.le_of_ble_eq_true rfl) (Nat.le_of_ble_eq_true rfl) dL_refuses_787
          refine xr_aload_n (pc := 298) X (i := 0) 0 rfl rfl dL_refuses_298 ?_
          refine xr_bipush (pc := 299) X dL_refuses_299 (v := 9) (by decide) ?_
          refine xr_iload_n (pc := 301) X (i := 3) 3 rfl rfl dL_refuses_301 ?_
          refine xr_iload (pc := 302) X (i := 4) 4 rfl dL_refuses_302 ?_
          refine xr_iconst (pc := 304) X dL_refuses_304 (v := 0) (by decide) ?_
          refine xr_callSI (na := 5) (pc := 305) X [.ref (ad oo1), .int 9, .int zz3, .int zz7, .int 0] (c_L_call Γ.2.1 hI hst oo1 hh1 9 zz3 zz7 0 σ45) (wG_S wm_5_23 wm_5_21 wm_5_22 wm_5_14) rfl rfl rfl (by decide +kernel) ⟨Nat.le_of_ble_eq_true rfl, Nat.le_of_ble_eq_true rfl⟩ rfl rfl (Nat.le_of_ble_eq_true rfl) ⟨(show _ ≤ 111 by omega), (show _ ≤ 666 by omega)⟩ dL_refuses_305 (fun zz48 σ47 => ?_)
          refine xr_ldc (pc := 308) X dL_refuses_308 (List.mem_cons_of_mem _ wm_14_7) ?_
          refine xr_icmp_ne (pc := 310) X 786 (by decide) dL_refuses_310 (fun _ => ?_) (fun _ => ?_)
          · refine xr_iconst (pc := 786) X dL_refuses_786 (v := 0) (by decide) ?_
            exact xr_zret (pc := 787) X rfl (Nat.le_of_ble_eq_true rfl) (Nat.le_of_ble_eq_true rfl) dL_refuses_787
          refine xr_aload_n (pc := 313) X (i := 0) 0 rfl rfl dL_refuses_313 ?_
          refine xr_bipush (pc := 314) X dL_refuses_314 (v := 9) (by decide) ?_
          refine xr_iload_n (pc := 316) X (i := 1) 1 rfl rfl dL_refuses_316 ?_
          refine xr_iload_n (pc := 317) X (i := 2) 2 rfl rfl dL_refuses_317 ?_
          refine x_gd (fun hzz49 => ?_)
          refine xr_irem (pc := 318) X hzz49 dL_refuses_318 ?_
          refine xr_iload (pc := 319) X (i := 4) 4 rfl dL_refuses_319 ?_
          refine xr_iconst (pc := 321) X dL_refuses_321 (v := 0) (by decide) ?_
          refine xr_callSI (na := 5) (pc := 322) X [.ref (ad oo1), .int 9, .int (pp2 - pp2 / zz2 * zz2), .int zz7, .int 0] (c_L_call Γ.2.1 hI hst oo1 hh1 9 (pp2 - pp2 / zz2 * zz2) zz7 0 σ47) (wG_S wm_5_23 wm_5_21 wm_5_22 wm_5_14) rfl rfl rfl (by decide +kernel) ⟨Nat.le_of_ble_eq_true rfl, Nat.le_of_ble_eq_true rfl⟩ rfl rfl (Nat.le_of_ble_eq_true rfl) ⟨(show _ ≤ 111 by omega), (show _ ≤ 666 by omega)⟩ dL_refuses_322 (fun zz51 σ50 => ?_)
          refine xr_ldc (pc := 325) X dL_refuses_325 (List.mem_cons_of_mem _ wm_6_5) ?_
          refine xr_icmp_ne (pc := 327) X 786 (by decide) dL_refuses_327 (fun _ => ?_) (fun _ => ?_)
          · refine xr_iconst (pc := 786) X dL_refuses_786 (v := 0) (by decide) ?_
            exact xr_zret (pc := 787) X rfl (Nat.le_of_ble_eq_true rfl) (Nat.le_of_ble_eq_true rfl) dL_refuses_787
          refine xr_aload_n (pc := 330) X (i := 0) 0 rfl rfl dL_refuses_330 ?_
          refine xr_bipush (pc := 331) X dL_refuses_331 (v := 10) (by decide) ?_
          refine xr_iconst (pc := 333) X dL_refuses_333 (v := 0) (by decide) ?_
          refine xr_iload_n (pc := 334) X (i := 3) 3 rfl rfl dL_refuses_334 ?_
          refine xr_iconst (pc := 335) X dL_refuses_335 (v := 5) (by decide) ?_
          refine xr_callSI (na := 5) (pc := 336) X [.ref (ad oo1), .int 10, .int 0, .int zz3, .int 5] (c_L_call Γ.2.1 hI hst oo1 hh1 10 0 zz3 5 σ50) (wG_S wm_5_23 wm_5_21 wm_5_22 wm_5_14) rfl rfl rfl (by decide +kernel) ⟨Nat.le_of_ble_eq_true rfl, Nat.le_of_ble_eq_true rfl⟩ rfl rfl (Nat.le_of_ble_eq_true rfl) ⟨(show _ ≤ 111 by omega), (show _ ≤ 666 by omega)⟩ dL_refuses_336 (fun zz53 σ52 => ?_)
          refine xr_ldc (pc := 339) X dL_refuses_339 (List.mem_cons_of_mem _ wm_14_7) ?_
          refine xr_icmp_ne (pc := 341) X 786 (by decide) dL_refuses_341 (fun _ => ?_) (fun _ => ?_)
          · refine xr_iconst (pc := 786) X dL_refuses_786 (v := 0) (by decide) ?_
            exact xr_zret (pc := 787) X rfl (Nat.le_of_ble_eq_true rfl) (Nat.le_of_ble_eq_true rfl) dL_refuses_787
          refine xr_aload_n (pc := 344) X (i := 0) 0 rfl rfl dL_refuses_344 ?_
          refine xr_bipush (pc := 345) X dL_refuses_345 (v := 10) (by decide) ?_
          refine xr_iload_n (pc := 347) X (i := 1) 1 rfl rfl dL_refuses_347 ?_
          refine xr_iconst (pc := 348) X dL_refuses_348 (v := 2) (by decide) ?_
          refine xr_irem (pc := 349) X (by decide) dL_refuses_349 ?_
          refine x_jn (fun (KK56 : Int32 → xS → Option (Int32 × xS)) => ∀ zz54 σ55, xM Γ D ad N Sh (xQI Γ D ad N Sh 111 666) 51 306 (KK56 zz54 σ55) σ55 364 [(0, .ref (ad oo1)), (1, .int pp2), (2, .int zz2), (3, .int zz3), (4, .int zz7)] [.int zz54, .int 10, .ref (ad oo1)]) (fun zz54 σ55 => ?_) (fun KK56 hKK57 => ?_)
          · refine xr_iconst (pc := 364) X dL_refuses_364 (v := 0) (by decide) ?_
            refine xr_iconst (pc := 365) X dL_refuses_365 (v := 5) (by decide) ?_
            refine xr_callSI (na := 5) (pc := 366) X [.ref (ad oo1), .int 10, .int zz54, .int 0, .int 5] (c_L_call Γ.2.1 hI hst oo1 hh1 10 zz54 0 5 σ55) (wG_S wm_5_23 wm_5_21 wm_5_22 wm_5_14) rfl rfl rfl (by decide +kernel) ⟨Nat.le_of_ble_eq_true rfl, Nat.le_of_ble_eq_true rfl⟩ rfl rfl (Nat.le_of_ble_eq_true rfl) ⟨(show _ ≤ 111 by omega), (show _ ≤ 666 by omega)⟩ dL_refuses_366 (fun zz59 σ58 => ?_)
            refine xr_ldc (pc := 369) X dL_refuses_369 (List.mem_cons_of_mem _ wm_6_5) ?_
            refine xr_icmp_ne (pc := 371) X 786 (by decide) dL_refuses_371 (fun _ => ?_) (fun _ => ?_)
            · refine xr_iconst (pc := 786) X dL_refuses_786 (v := 0) (by decide) ?_
              exact xr_zret (pc := 787) X rfl (Nat.le_of_ble_eq_true rfl) (Nat.le_of_ble_eq_true rfl) dL_refuses_787
            refine xr_aload_n (pc := 374) X (i := 0) 0 rfl rfl dL_refuses_374 ?_
            refine xr_bipush (pc := 375) X dL_refuses_375 (v := 10) (by decide) ?_
            refine xr_iconst (pc := 377) X dL_refuses_377 (v := 5) (by decide) ?_
            refine xr_iconst (pc := 378) X dL_refuses_378 (v := 0) (by decide) ?_
            refine xr_iload (pc := 379) X (i := 4) 4 rfl dL_refuses_379 ?_
            refine xr_callSI (na := 5) (pc := 381) X [.ref (ad oo1), .int 10, .int 5, .int 0, .int zz7] (c_L_call Γ.2.1 hI hst oo1 hh1 10 5 0 zz7 σ58) (wG_S wm_5_23 wm_5_21 wm_5_22 wm_5_14) rfl rfl rfl (by decide +kernel) ⟨Nat.le_of_ble_eq_true rfl, Nat.le_of_ble_eq_true rfl⟩ rfl rfl (Nat.le_of_ble_eq_true rfl) ⟨(show _ ≤ 111 by omega), (show _ ≤ 666 by omega)⟩ dL_refuses_381 (fun zz61 σ60 => ?_)
            refine xr_ldc (pc := 384) X dL_refuses_384 (List.mem_cons_of_mem _ wm_6_5) ?_
            refine xr_icmp_ne (pc := 386) X 786 (by decide) dL_refuses_386 (fun _ => ?_) (fun _ => ?_)
            · refine xr_iconst (pc := 786) X dL_refuses_786 (v := 0) (by decide) ?_
              exact xr_zret (pc := 787) X rfl (Nat.le_of_ble_eq_true rfl) (Nat.le_of_ble_eq_true rfl) dL_refuses_787
            refine xr_aload_n (pc := 389) X (i := 0) 0 rfl rfl dL_refuses_389 ?_
            refine xr_iload_n (pc := 390) X (i := 3) 3 rfl rfl dL_refuses_390 ?_
            refine xr_iconst (pc := 391) X dL_refuses_391 (v := 1) (by decide) ?_
            refine xr_callSWI (na := 3) (pc := 392) X [.ref (ad oo1), .int zz3, .int 1] (c_L_holds Γ.2.1 hI hst oo1 hh1 zz3 1 σ60) (wG_SW wm_21_22 wm_21_20 wm_21_21 wm_5_14) rfl rfl rfl (by decide +kernel) ⟨Nat.le_of_ble_eq_true rfl, Nat.le_of_ble_eq_true rfl⟩ rfl rfl (Nat.le_of_ble_eq_true rfl) ⟨(show _ ≤ 111 by omega), (show _ ≤ 666 by omega)⟩ dL_refuses_392 (fun zz63 σ62 => ?_)
            refine xr_ldc (pc := 395) X dL_refuses_395 (List.mem_cons_of_mem _ wm_14_7) ?_
            refine xr_icmp_ne (pc := 397) X 786 (by decide) dL_refuses_397 (fun _ => ?_) (fun _ => ?_)
            · refine xr_iconst (pc := 786) X dL_refuses_786 (v := 0) (by decide) ?_
              exact xr_zret (pc := 787) X rfl (Nat.le_of_ble_eq_true rfl) (Nat.le_of_ble_eq_true rfl) dL_refuses_787
            refine xr_aload_n (pc := 400) X (i := 0) 0 rfl rfl dL_refuses_400 ?_
            refine xr_bipush (pc := 401) X dL_refuses_401 (v := 11) (by decide) ?_
            refine xr_iload_n (pc := 403) X (i := 3) 3 rfl rfl dL_refuses_403 ?_
            refine xr_iconst (pc := 404) X dL_refuses_404 (v := 0) (by decide) ?_
            refine xr_iconst (pc := 405) X dL_refuses_405 (v := 0) (by decide) ?_
            refine xr_callSI (na := 5) (pc := 406) X [.ref (ad oo1), .int 11, .int zz3, .int 0, .int 0] (c_L_call Γ.2.1 hI hst oo1 hh1 11 zz3 0 0 σ62) (wG_S wm_5_23 wm_5_21 wm_5_22 wm_5_14) rfl rfl rfl (by decide +kernel) ⟨Nat.le_of_ble_eq_true rfl, Nat.le_of_ble_eq_true rfl⟩ rfl rfl (Nat.le_of_ble_eq_true rfl) ⟨(show _ ≤ 111 by omega), (show _ ≤ 666 by omega)⟩ dL_refuses_406 (fun zz65 σ64 => ?_)
            refine xr_ldc (pc := 409) X dL_refuses_409 (List.mem_cons_of_mem _ wm_14_7) ?_
            refine xr_icmp_ne (pc := 411) X 786 (by decide) dL_refuses_411 (fun _ => ?_) (fun _ => ?_)
            · refine xr_iconst (pc := 786) X dL_refuses_786 (v := 0) (by decide) ?_
              exact xr_zret (pc := 787) X rfl (Nat.le_of_ble_eq_true rfl) (Nat.le_of_ble_eq_true rfl) dL_refuses_787
            refine xr_aload_n (pc := 414) X (i := 0) 0 rfl rfl dL_refuses_414 ?_
            refine xr_bipush (pc := 415) X dL_refuses_415 (v := 12) (by decide) ?_
            refine xr_iload_n (pc := 417) X (i := 1) 1 rfl rfl dL_refuses_417 ?_
            refine xr_iconst (pc := 418) X dL_refuses_418 (v := 2) (by decide) ?_
            refine xr_irem (pc := 419) X (by decide) dL_refuses_419 ?_
            refine x_jn (fun (KK68 : Int32 → xS → Option (Int32 × xS)) => ∀ zz66 σ67, xM Γ D ad N Sh (xQI Γ D ad N Sh 111 666) 61 366 (KK68 zz66 σ67) σ67 434 [(0, .ref (ad oo1)), (1, .int pp2), (2, .int zz2), (3, .int zz3), (4, .int zz7)] [.int zz66, .int 12, .ref (ad oo1)]) (fun zz66 σ67 => ?_) (fun KK68 hKK69 => ?_)
            · refine xr_iconst (pc := 434) X dL_refuses_434 (v := 0) (by decide) ?_
              refine xr_iconst (pc := 435) X dL_refuses_435 (v := 0) (by decide) ?_
              refine xr_callSI (na := 5) (pc := 436) X [.ref (ad oo1), .int 12, .int zz66, .int 0, .int 0] (c_L_call Γ.2.1 hI hst oo1 hh1 12 zz66 0 0 σ67) (wG_S wm_5_23 wm_5_21 wm_5_22 wm_5_14) rfl rfl rfl (by decide +kernel) ⟨Nat.le_of_ble_eq_true rfl, Nat.le_of_ble_eq_true rfl⟩ rfl rfl (Nat.le_of_ble_eq_true rfl) ⟨(show _ ≤ 111 by omega), (show _ ≤ 666 by omega)⟩ dL_refuses_436 (fun zz71 σ70 => ?_)
              refine xr_ldc (pc := 439) X dL_refuses_439 (List.mem_cons_of_mem _ wm_6_5) ?_
              refine xr_icmp_ne (pc := 441) X 786 (by decide) dL_refuses_441 (fun _ => ?_) (fun _ => ?_)
              · refine xr_iconst (pc := 786) X dL_refuses_786 (v := 0) (by decide) ?_
                exact xr_zret (pc := 787) X rfl (Nat.le_of_ble_eq_true rfl) (Nat.le_of_ble_eq_true rfl) dL_refuses_787
              refine xr_aload_n (pc := 444) X (i := 0) 0 rfl rfl dL_refuses_444 ?_
              refine xr_bipush (pc := 445) X dL_refuses_445 (v := 13) (by decide) ?_
              refine xr_iconst (pc := 447) X dL_refuses_447 (v := 0) (by decide) ?_
              refine xr_iload_n (pc := 448) X (i := 1) 1 rfl rfl dL_refuses_448 ?_
              refine xr_iconst (pc := 449) X dL_refuses_449 (v := 2) (by decide) ?_
              refine xr_irem (pc := 450) X (by decide) dL_refuses_450 ?_
              refine x_jn (fun (KK74 : Int32 → xS → Option (Int32 × xS)) => ∀ zz72 σ73, xM Γ D ad N Sh (xQI Γ D ad N Sh 111 666) 64 384 (KK74 zz72 σ73) σ73 465 [(0, .ref (ad oo1)), (1, .int pp2), (2, .int zz2), (3, .int zz3), (4, .int zz7)] [.int zz72, .int 0, .int 13, .ref (ad oo1)]) (fun zz72 σ73 => ?_) (fun KK74 hKK75 => ?_)
              · refine xr_iconst (pc := 465) X dL_refuses_465 (v := 0) (by decide) ?_
                refine xr_callSI (na := 5) (pc := 466) X [.ref (ad oo1), .int 13, .int 0, .int zz72, .int 0] (c_L_call Γ.2.1 hI hst oo1 hh1 13 0 zz72 0 σ73) (wG_S wm_5_23 wm_5_21 wm_5_22 wm_5_14) rfl rfl rfl (by decide +kernel) ⟨Nat.le_of_ble_eq_true rfl, Nat.le_of_ble_eq_true rfl⟩ rfl rfl (Nat.le_of_ble_eq_true rfl) ⟨(show _ ≤ 111 by omega), (show _ ≤ 666 by omega)⟩ dL_refuses_466 (fun zz77 σ76 => ?_)
                refine xr_ldc (pc := 469) X dL_refuses_469 (List.mem_cons_of_mem _ wm_6_5) ?_
                refine xr_icmp_ne (pc := 471) X 786 (by decide) dL_refuses_471 (fun _ => ?_) (fun _ => ?_)
                · refine xr_iconst (pc := 786) X dL_refuses_786 (v := 0) (by decide) ?_
                  exact xr_zret (pc := 787) X rfl (Nat.le_of_ble_eq_true rfl) (Nat.le_of_ble_eq_true rfl) dL_refuses_787
                refine xr_aload_n (pc := 474) X (i := 0) 0 rfl rfl dL_refuses_474 ?_
                refine xr_bipush (pc := 475) X dL_refuses_475 (v := 13) (by decide) ?_
                refine xr_iconst (pc := 477) X dL_refuses_477 (v := 1) (by decide) ?_
                refine xr_bipush (pc := 478) X dL_refuses_478 (v := 21) (by decide) ?_
                refine xr_iload_n (pc := 480) X (i := 1) 1 rfl rfl dL_refuses_480 ?_
                refine xr_bipush (pc := 481) X dL_refuses_481 (v := 9) (by decide) ?_
                refine xr_irem (pc := 483) X (by decide) dL_refuses_483 ?_
                refine xr_iadd (pc := 484) X dL_refuses_484 ?_
                refine xr_iconst (pc := 485) X dL_refuses_485 (v := 0) (by decide) ?_
                refine xr_callSI (na := 5) (pc := 486) X [.ref (ad oo1), .int 13, .int 1, .int (21 + (pp2 - pp2 / 9 * 9)), .int 0] (c_L_call Γ.2.1 hI hst oo1 hh1 13 1 (21 + (pp2 - pp2 / 9 * 9)) 0 σ76) (wG_S wm_5_23 wm_5_21 wm_5_22 wm_5_14) rfl rfl rfl (by decide +kernel) ⟨Nat.le_of_ble_eq_true rfl, Nat.le_of_ble_eq_true rfl⟩ rfl rfl (Nat.le_of_ble_eq_true rfl) ⟨(show _ ≤ 111 by omega), (show _ ≤ 666 by omega)⟩ dL_refuses_486 (fun zz79 σ78 => ?_)
                refine xr_ldc (pc := 489) X dL_refuses_489 (List.mem_cons_of_mem _ wm_6_5) ?_
                refine xr_icmp_ne (pc := 491) X 786 (by decide) dL_refuses_491 (fun _ => ?_) (fun _ => ?_)
                · refine xr_iconst (pc := 786) X dL_refuses_786 (v := 0) (by decide) ?_
                  exact xr_zret (pc := 787) X rfl (Nat.le_of_ble_eq_true rfl) (Nat.le_of_ble_eq_true rfl) dL_refuses_787
                refine xr_aload_n (pc := 494) X (i := 0) 0 rfl rfl dL_refuses_494 ?_
                refine xr_bipush (pc := 495) X dL_refuses_495 (v := 13) (by decide) ?_
                refine xr_iconst (pc := 497) X dL_refuses_497 (v := 2) (by decide) ?_
                refine xr_iload_n (pc := 498) X (i := 1) 1 rfl rfl dL_refuses_498 ?_
                refine xr_iconst (pc := 499) X dL_refuses_499 (v := 2) (by decide) ?_
                refine xr_irem (pc := 500) X (by decide) dL_refuses_500 ?_
                refine x_jn (fun (KK82 : Int32 → xS → Option (Int32 × xS)) => ∀ zz80 σ81, xM Γ D ad N Sh (xQI Γ D ad N Sh 111 666) 70 420 (KK82 zz80 σ81) σ81 517 [(0, .ref (ad oo1)), (1, .int pp2), (2, .int zz2), (3, .int zz3), (4, .int zz7)] [.int zz80, .int 2, .int 13, .ref (ad oo1)]) (fun zz80 σ81 => ?_) (fun KK82 hKK83 => ?_)
                · refine xr_iconst (pc := 517) X dL_refuses_517 (v := 0) (by decide) ?_
                  refine xr_callSI (na := 5) (pc := 518) X [.ref (ad oo1), .int 13, .int 2, .int zz80, .int 0] (c_L_call Γ.2.1 hI hst oo1 hh1 13 2 zz80 0 σ81) (wG_S wm_5_23 wm_5_21 wm_5_22 wm_5_14) rfl rfl rfl (by decide +kernel) ⟨Nat.le_of_ble_eq_true rfl, Nat.le_of_ble_eq_true rfl⟩ rfl rfl (Nat.le_of_ble_eq_true rfl) ⟨(show _ ≤ 111 by omega), (show _ ≤ 666 by omega)⟩ dL_refuses_518 (fun zz85 σ84 => ?_)
                  refine xr_ldc (pc := 521) X dL_refuses_521 (List.mem_cons_of_mem _ wm_6_5) ?_
                  refine xr_icmp_ne (pc := 523) X 786 (by decide) dL_refuses_523 (fun _ => ?_) (fun _ => ?_)
                  · refine xr_iconst (pc := 786) X dL_refuses_786 (v := 0) (by decide) ?_
                    exact xr_zret (pc := 787) X rfl (Nat.le_of_ble_eq_true rfl) (Nat.le_of_ble_eq_true rfl) dL_refuses_787
                  refine xr_aload_n (pc := 526) X (i := 0) 0 rfl rfl dL_refuses_526 ?_
                  refine xr_bipush (pc := 527) X dL_refuses_527 (v := 13) (by decide) ?_
                  refine xr_iconst (pc := 529) X dL_refuses_529 (v := 3) (by decide) ?_
                  refine xr_iload_n (pc := 530) X (i := 1) 1 rfl rfl dL_refuses_530 ?_
                  refine xr_iconst (pc := 531) X dL_refuses_531 (v := 2) (by decide) ?_
                  refine xr_irem (pc := 532) X (by decide) dL_refuses_532 ?_
                  refine x_jn (fun (KK88 : Int32 → xS → Option (Int32 × xS)) => ∀ zz86 σ87, xM Γ D ad N Sh (xQI Γ D ad N Sh 111 666) 73 438 (KK88 zz86 σ87) σ87 547 [(0, .ref (ad oo1)), (1, .int pp2), (2, .int zz2), (3, .int zz3), (4, .int zz7)] [.int zz86, .int 3, .int 13, .ref (ad oo1)]) (fun zz86 σ87 => ?_) (fun KK88 hKK89 => ?_)
                  · refine xr_iconst (pc := 547) X dL_refuses_547 (v := 0) (by decide) ?_
                    refine xr_callSI (na := 5) (pc := 548) X [.ref (ad oo1), .int 13, .int 3, .int zz86, .int 0] (c_L_call Γ.2.1 hI hst oo1 hh1 13 3 zz86 0 σ87) (wG_S wm_5_23 wm_5_21 wm_5_22 wm_5_14) rfl rfl rfl (by decide +kernel) ⟨Nat.le_of_ble_eq_true rfl, Nat.le_of_ble_eq_true rfl⟩ rfl rfl (Nat.le_of_ble_eq_true rfl) ⟨(show _ ≤ 111 by omega), (show _ ≤ 666 by omega)⟩ dL_refuses_548 (fun zz91 σ90 => ?_)
                    refine xr_ldc (pc := 551) X dL_refuses_551 (List.mem_cons_of_mem _ wm_6_5) ?_
                    refine xr_icmp_ne (pc := 553) X 786 (by decide) dL_refuses_553 (fun _ => ?_) (fun _ => ?_)
                    · refine xr_iconst (pc := 786) X dL_refuses_786 (v := 0) (by decide) ?_
                      exact xr_zret (pc := 787) X rfl (Nat.le_of_ble_eq_true rfl) (Nat.le_of_ble_eq_true rfl) dL_refuses_787
                    refine xr_aload_n (pc := 556) X (i := 0) 0 rfl rfl dL_refuses_556 ?_
                    refine xr_bipush (pc := 557) X dL_refuses_557 (v := 13) (by decide) ?_
                    refine xr_iconst (pc := 559) X dL_refuses_559 (v := 4) (by decide) ?_
                    refine xr_iload_n (pc := 560) X (i := 1) 1 rfl rfl dL_refuses_560 ?_
                    refine xr_bipush (pc := 561) X dL_refuses_561 (v := 9) (by decide) ?_
                    refine xr_irem (pc := 563) X (by decide) dL_refuses_563 ?_
                    refine xr_iadd (pc := 564) X dL_refuses_564 ?_
                    refine xr_iconst (pc := 565) X dL_refuses_565 (v := 5) (by decide) ?_
                    refine xr_iconst (pc := 566) X dL_refuses_566 (v := 0) (by decide) ?_
                    refine xr_callSI (na := 5) (pc := 567) X [.ref (ad oo1), .int 13, .int (4 + (pp2 - pp2 / 9 * 9)), .int 5, .int 0] (c_L_call Γ.2.1 hI hst oo1 hh1 13 (4 + (pp2 - pp2 / 9 * 9)) 5 0 σ90) (wG_S wm_5_23 wm_5_21 wm_5_22 wm_5_14) rfl rfl rfl (by decide +kernel) ⟨Nat.le_of_ble_eq_true rfl, Nat.le_of_ble_eq_true rfl⟩ rfl rfl (Nat.le_of_ble_eq_true rfl) ⟨(show _ ≤ 111 by omega), (show _ ≤ 666 by omega)⟩ dL_refuses_567 (fun zz93 σ92 => ?_)
                    refine xr_ldc (pc := 570) X dL_refuses_570 (List.mem_cons_of_mem _ wm_6_5) ?_
                    refine xr_icmp_ne (pc := 572) X 786 (by decide) dL_refuses_572 (fun _ => ?_) (fun _ => ?_)
                    · refine xr_iconst (pc := 786) X dL_refuses_786 (v := 0) (by decide) ?_
                      exact xr_zret (pc := 787) X rfl (Nat.le_of_ble_eq_true rfl) (Nat.le_of_ble_eq_true rfl) dL_refuses_787
                    refine xr_aload_n (pc := 575) X (i := 0) 0 rfl rfl dL_refuses_575 ?_
                    refine xr_bipush (pc := 576) X dL_refuses_576 (v := 15) (by decide) ?_
                    refine xr_iload_n (pc := 578) X (i := 3) 3 rfl rfl dL_refuses_578 ?_
                    refine xr_iconst (pc := 579) X dL_refuses_579 (v := 0) (by decide) ?_
                    refine xr_iconst (pc := 580) X dL_refuses_580 (v := 0) (by decide) ?_
                    refine xr_callSI (na := 5) (pc := 581) X [.ref (ad oo1), .int 15, .int zz3, .int 0, .int 0] (c_L_call Γ.2.1 hI hst oo1 hh1 15 zz3 0 0 σ92) (wG_S wm_5_23 wm_5_21 wm_5_22 wm_5_14) rfl rfl rfl (by decide +kernel) ⟨Nat.le_of_ble_eq_true rfl, Nat.le_of_ble_eq_true rfl⟩ rfl rfl (Nat.le_of_ble_eq_true rfl) ⟨(show _ ≤ 111 by omega), (show _ ≤ 666 by omega)⟩ dL_refuses_581 (fun zz95 σ94 => ?_)
                    refine xr_ldc (pc := 584) X dL_refuses_584 (List.mem_cons_of_mem _ wm_14_7) ?_
                    refine xr_icmp_ne (pc := 586) X 786 (by decide) dL_refuses_586 (fun _ => ?_) (fun _ => ?_)
                    · refine xr_iconst (pc := 786) X dL_refuses_786 (v := 0) (by decide) ?_
                      exact xr_zret (pc := 787) X rfl (Nat.le_of_ble_eq_true rfl) (Nat.le_of_ble_eq_true rfl) dL_refuses_787
                    refine xr_aload_n (pc := 589) X (i := 0) 0 rfl rfl dL_refuses_589 ?_
                    refine xr_bipush (pc := 590) X dL_refuses_590 (v := 16) (by decide) ?_
                    refine xr_iload_n (pc := 592) X (i := 3) 3 rfl rfl dL_refuses_592 ?_
                    refine xr_iload (pc := 593) X (i := 4) 4 rfl dL_refuses_593 ?_
                    refine xr_iconst (pc := 595) X dL_refuses_595 (v := 0) (by decide) ?_
                    refine xr_callSI (na := 5) (pc := 596) X [.ref (ad oo1), .int 16, .int zz3, .int zz7, .int 0] (c_L_call Γ.2.1 hI hst oo1 hh1 16 zz3 zz7 0 σ94) (wG_S wm_5_23 wm_5_21 wm_5_22 wm_5_14) rfl rfl rfl (by decide +kernel) ⟨Nat.le_of_ble_eq_true rfl, Nat.le_of_ble_eq_true rfl⟩ rfl rfl (Nat.le_of_ble_eq_true rfl) ⟨(show _ ≤ 111 by omega), (show _ ≤ 666 by omega)⟩ dL_refuses_596 (fun zz97 σ96 => ?_)
                    refine xr_ldc (pc := 599) X dL_refuses_599 (List.mem_cons_of_mem _ wm_14_7) ?_
                    refine xr_icmp_ne (pc := 601) X 786 (by decide) dL_refuses_601 (fun _ => ?_) (fun _ => ?_)
                    · refine xr_iconst (pc := 786) X dL_refuses_786 (v := 0) (by decide) ?_
                      exact xr_zret (pc := 787) X rfl (Nat.le_of_ble_eq_true rfl) (Nat.le_of_ble_eq_true rfl) dL_refuses_787
                    refine xr_aload_n (pc := 604) X (i := 0) 0 rfl rfl dL_refuses_604 ?_
                    refine xr_bipush (pc := 605) X dL_refuses_605 (v := 16) (by decide) ?_
                    refine xr_iload_n (pc := 607) X (i := 1) 1 rfl rfl dL_refuses_607 ?_
                    refine xr_iload_n (pc := 608) X (i := 2) 2 rfl rfl dL_refuses_608 ?_
                    refine x_gd (fun hzz98 => ?_)
                    refine xr_irem (pc := 609) X hzz98 dL_refuses_609 ?_
                    refine xr_iload (pc := 610) X (i := 4) 4 rfl dL_refuses_610 ?_
                    refine xr_iconst (pc := 612) X dL_refuses_612 (v := 0) (by decide) ?_
                    refine xr_callSI (na := 5) (pc := 613) X [.ref (ad oo1), .int 16, .int (pp2 - pp2 / zz2 * zz2), .int zz7, .int 0] (c_L_call Γ.2.1 hI hst oo1 hh1 16 (pp2 - pp2 / zz2 * zz2) zz7 0 σ96) (wG_S wm_5_23 wm_5_21 wm_5_22 wm_5_14) rfl rfl rfl (by decide +kernel) ⟨Nat.le_of_ble_eq_true rfl, Nat.le_of_ble_eq_true rfl⟩ rfl rfl (Nat.le_of_ble_eq_true rfl) ⟨(show _ ≤ 111 by omega), (show _ ≤ 666 by omega)⟩ dL_refuses_613 (fun zz100 σ99 => ?_)
                    refine xr_ldc (pc := 616) X dL_refuses_616 (List.mem_cons_of_mem _ wm_6_5) ?_
                    refine xr_icmp_ne (pc := 618) X 786 (by decide) dL_refuses_618 (fun _ => ?_) (fun _ => ?_)
                    · refine xr_iconst (pc := 786) X dL_refuses_786 (v := 0) (by decide) ?_
                      exact xr_zret (pc := 787) X rfl (Nat.le_of_ble_eq_true rfl) (Nat.le_of_ble_eq_true rfl) dL_refuses_787
                    refine xr_aload_n (pc := 621) X (i := 0) 0 rfl rfl dL_refuses_621 ?_
                    refine xr_bipush (pc := 622) X dL_refuses_622 (v := 17) (by decide) ?_
                    refine xr_iload_n (pc := 624) X (i := 3) 3 rfl rfl dL_refuses_624 ?_
                    refine xr_bipush (pc := 625) X dL_refuses_625 (v := 9) (by decide) ?_
                    refine xr_iconst (pc := 627) X dL_refuses_627 (v := 0) (by decide) ?_
                    refine xr_callSI (na := 5) (pc := 628) X [.ref (ad oo1), .int 17, .int zz3, .int 9, .int 0] (c_L_call Γ.2.1 hI hst oo1 hh1 17 zz3 9 0 σ99) (wG_S wm_5_23 wm_5_21 wm_5_22 wm_5_14) rfl rfl rfl (by decide +kernel) ⟨Nat.le_of_ble_eq_true rfl, Nat.le_of_ble_eq_true rfl⟩ rfl rfl (Nat.le_of_ble_eq_true rfl) ⟨(show _ ≤ 111 by omega), (show _ ≤ 666 by omega)⟩ dL_refuses_628 (fun zz102 σ101 => ?_)
                    refine xr_ldc (pc := 631) X dL_refuses_631 (List.mem_cons_of_mem _ wm_14_7) ?_
                    refine xr_icmp_ne (pc := 633) X 786 (by decide) dL_refuses_633 (fun _ => ?_) (fun _ => ?_)
                    · refine xr_iconst (pc := 786) X dL_refuses_786 (v := 0) (by decide) ?_
                      exact xr_zret (pc := 787) X rfl (Nat.le_of_ble_eq_true rfl) (Nat.le_of_ble_eq_true rfl) dL_refuses_787
                    refine xr_aload_n (pc := 636) X (i := 0) 0 rfl rfl dL_refuses_636 ?_
                    refine xr_bipush (pc := 637) X dL_refuses_637 (v := 17) (by decide) ?_
                    refine xr_iconst (pc := 639) X dL_refuses_639 (v := 0) (by decide) ?_
                    refine xr_iconst (pc := 640) X dL_refuses_640 (v := 4) (by decide) ?_
                    refine xr_iload_n (pc := 641) X (i := 1) 1 rfl rfl dL_refuses_641 ?_
                    refine xr_bipush (pc := 642) X dL_refuses_642 (v := 9) (by decide) ?_
                    refine xr_irem (pc := 644) X (by decide) dL_refuses_644 ?_
                    refine xr_iadd (pc := 645) X dL_refuses_645 ?_
                    refine xr_iconst (pc := 646) X dL_refuses_646 (v := 0) (by decide) ?_
                    refine xr_callSI (na := 5) (pc := 647) X [.ref (ad oo1), .int 17, .int 0, .int (4 + (pp2 - pp2 / 9 * 9)), .int 0] (c_L_call Γ.2.1 hI hst oo1 hh1 17 0 (4 + (pp2 - pp2 / 9 * 9)) 0 σ101) (wG_S wm_5_23 wm_5_21 wm_5_22 wm_5_14) rfl rfl rfl (by decide +kernel) ⟨Nat.le_of_ble_eq_true rfl, Nat.le_of_ble_eq_true rfl⟩ rfl rfl (Nat.le_of_ble_eq_true rfl) ⟨(show _ ≤ 111 by omega), (show _ ≤ 666 by omega)⟩ dL_refuses_647 (fun zz104 σ103 => ?_)
                    refine xr_ldc (pc := 650) X dL_refuses_650 (List.mem_cons_of_mem _ wm_6_5) ?_
                    refine xr_icmp_ne (pc := 652) X 786 (by decide) dL_refuses_652 (fun _ => ?_) (fun _ => ?_)
                    · refine xr_iconst (pc := 786) X dL_refuses_786 (v := 0) (by decide) ?_
                      exact xr_zret (pc := 787) X rfl (Nat.le_of_ble_eq_true rfl) (Nat.le_of_ble_eq_true rfl) dL_refuses_787
                    refine xr_aload_n (pc := 655) X (i := 0) 0 rfl rfl dL_refuses_655 ?_
                    refine xr_bipush (pc := 656) X dL_refuses_656 (v := 18) (by decide) ?_
                    refine xr_bipush (pc := 658) X dL_refuses_658 (v := 9) (by decide) ?_
                    refine xr_iload_n (pc := 660) X (i := 3) 3 rfl rfl dL_refuses_660 ?_
                    refine xr_iconst (pc := 661) X dL_refuses_661 (v := 0) (by decide) ?_
                    refine xr_callSI (na := 5) (pc := 662) X [.ref (ad oo1), .int 18, .int 9, .int zz3, .int 0] (c_L_call Γ.2.1 hI hst oo1 hh1 18 9 zz3 0 σ103) (wG_S wm_5_23 wm_5_21 wm_5_22 wm_5_14) rfl rfl rfl (by decide +kernel) ⟨Nat.le_of_ble_eq_true rfl, Nat.le_of_ble_eq_true rfl⟩ rfl rfl (Nat.le_of_ble_eq_true rfl) ⟨(show _ ≤ 111 by omega), (show _ ≤ 666 by omega)⟩ dL_refuses_662 (fun zz106 σ105 => ?_)
                    refine xr_ldc (pc := 665) X dL_refuses_665 (List.mem_cons_of_mem _ wm_14_7) ?_
                    refine xr_icmp_ne (pc := 667) X 786 (by decide) dL_refuses_667 (fun _ => ?_) (fun _ => ?_)
                    · refine xr_iconst (pc := 786) X dL_refuses_786 (v := 0) (by decide) ?_
                      exact xr_zret (pc := 787) X rfl (Nat.le_of_ble_eq_true rfl) (Nat.le_of_ble_eq_true rfl) dL_refuses_787
                    refine xr_aload_n (pc := 670) X (i := 0) 0 rfl rfl dL_refuses_670 ?_
                    refine xr_bipush (pc := 671) X dL_refuses_671 (v := 18) (by decide) ?_
                    refine xr_iload_n (pc := 673) X (i := 1) 1 rfl rfl dL_refuses_673 ?_
                    refine xr_iconst (pc := 674) X dL_refuses_674 (v := 2) (by decide) ?_
                    refine xr_irem (pc := 675) X (by decide) dL_refuses_675 ?_
                    refine x_jn (fun (KK109 : Int32 → xS → Option (Int32 × xS)) => ∀ zz107 σ108, xM Γ D ad N Sh (xQI Γ D ad N Sh 111 666) 97 582 (KK109 zz107 σ108) σ108 689 [(0, .ref (ad oo1)), (1, .int pp2)] [.int zz107, .int 18, .ref (ad oo1)]) (fun zz107 σ108 => ?_) (fun KK109 hKK110 => ?_)
                    · refine xr_iconst (pc := 689) X dL_refuses_689 (v := 0) (by decide) ?_
                      refine xr_iconst (pc := 690) X dL_refuses_690 (v := 0) (by decide) ?_
                      refine xr_callSI (na := 5) (pc := 691) X [.ref (ad oo1), .int 18, .int zz107, .int 0, .int 0] (c_L_call Γ.2.1 hI hst oo1 hh1 18 zz107 0 0 σ108) (wG_S wm_5_23 wm_5_21 wm_5_22 wm_5_14) rfl rfl rfl (by decide +kernel) ⟨Nat.le_of_ble_eq_true rfl, Nat.le_of_ble_eq_true rfl⟩ rfl rfl (Nat.le_of_ble_eq_true rfl) ⟨(show _ ≤ 111 by omega), (show _ ≤ 666 by omega)⟩ dL_refuses_691 (fun zz112 σ111 => ?_)
                      refine xr_ldc (pc := 694) X dL_refuses_694 (List.mem_cons_of_mem _ wm_6_5) ?_
                      refine xr_icmp_ne (pc := 696) X 786 (by decide) dL_refuses_696 (fun _ => ?_) (fun _ => ?_)
                      · refine xr_iconst (pc := 786) X dL_refuses_786 (v := 0) (by decide) ?_
                        exact xr_zret (pc := 787) X rfl (Nat.le_of_ble_eq_true rfl) (Nat.le_of_ble_eq_true rfl) dL_refuses_787
                      refine xr_aload_n (pc := 699) X (i := 0) 0 rfl rfl dL_refuses_699 ?_
                      refine xr_bipush (pc := 700) X dL_refuses_700 (v := 19) (by decide) ?_
                      refine xr_iconst (pc := 702) X dL_refuses_702 (v := 2) (by decide) ?_
                      refine xr_iload_n (pc := 703) X (i := 1) 1 rfl rfl dL_refuses_703 ?_
                      refine xr_bipush (pc := 704) X dL_refuses_704 (v := 50) (by decide) ?_
                      refine xr_irem (pc := 706) X (by decide) dL_refuses_706 ?_
                      refine xr_iadd (pc := 707) X dL_refuses_707 ?_
                      refine xr_iconst (pc := 708) X dL_refuses_708 (v := 0) (by decide) ?_
                      refine xr_iconst (pc := 709) X dL_refuses_709 (v := 0) (by decide) ?_
                      refine xr_callSI (na := 5) (pc := 710) X [.ref (ad oo1), .int 19, .int (2 + (pp2 - pp2 / 50 * 50)), .int 0, .int 0] (c_L_call Γ.2.1 hI hst oo1 hh1 19 (2 + (pp2 - pp2 / 50 * 50)) 0 0 σ111) (wG_S wm_5_23 wm_5_21 wm_5_22 wm_5_14) rfl rfl rfl (by decide +kernel) ⟨Nat.le_of_ble_eq_true rfl, Nat.le_of_ble_eq_true rfl⟩ rfl rfl (Nat.le_of_ble_eq_true rfl) ⟨(show _ ≤ 111 by omega), (show _ ≤ 666 by omega)⟩ dL_refuses_710 (fun zz114 σ113 => ?_)
                      refine xr_ldc (pc := 713) X dL_refuses_713 (List.mem_cons_of_mem _ wm_14_7) ?_
                      refine xr_icmp_ne (pc := 715) X 786 (by decide) dL_refuses_715 (fun _ => ?_) (fun _ => ?_)
                      · refine xr_iconst (pc := 786) X dL_refuses_786 (v := 0) (by decide) ?_
                        exact xr_zret (pc := 787) X rfl (Nat.le_of_ble_eq_true rfl) (Nat.le_of_ble_eq_true rfl) dL_refuses_787
                      refine xr_aload_n (pc := 718) X (i := 0) 0 rfl rfl dL_refuses_718 ?_
                      refine xr_bipush (pc := 719) X dL_refuses_719 (v := 20) (by decide) ?_
                      refine xr_iconst (pc := 721) X dL_refuses_721 (v := (-1)) (by decide) ?_
                      refine xr_iload_n (pc := 722) X (i := 1) 1 rfl rfl dL_refuses_722 ?_
                      refine xr_bipush (pc := 723) X dL_refuses_723 (v := 9) (by decide) ?_
                      refine xr_irem (pc := 725) X (by decide) dL_refuses_725 ?_
                      refine xr_isub (pc := 726) X dL_refuses_726 ?_
                      refine xr_iconst (pc := 727) X dL_refuses_727 (v := 0) (by decide) ?_
                      refine xr_iconst (pc := 728) X dL_refuses_728 (v := 0) (by decide) ?_
                      refine xr_callSI (na := 5) (pc := 729) X [.ref (ad oo1), .int 20, .int (((-1)) - (pp2 - pp2 / 9 * 9)), .int 0, .int 0] (c_L_call Γ.2.1 hI hst oo1 hh1 20 (((-1)) - (pp2 - pp2 / 9 * 9)) 0 0 σ113) (wG_S wm_5_23 wm_5_21 wm_5_22 wm_5_14) rfl rfl rfl (by decide +kernel) ⟨Nat.le_of_ble_eq_true rfl, Nat.le_of_ble_eq_true rfl⟩ rfl rfl (Nat.le_of_ble_eq_true rfl) ⟨(show _ ≤ 111 by omega), (show _ ≤ 666 by omega)⟩ dL_refuses_729 (fun zz116 σ115 => ?_)
                      refine xr_ldc (pc := 732) X dL_refuses_732 (List.mem_cons_of_mem _ wm_14_7) ?_
                      refine xr_icmp_ne (pc := 734) X 786 (by decide) dL_refuses_734 (fun _ => ?_) (fun _ => ?_)
                      · refine xr_iconst (pc := 786) X dL_refuses_786 (v := 0) (by decide) ?_
                        exact xr_zret (pc := 787) X rfl (Nat.le_of_ble_eq_true rfl) (Nat.le_of_ble_eq_true rfl) dL_refuses_787
                      refine xr_aload_n (pc := 737) X (i := 0) 0 rfl rfl dL_refuses_737 ?_
                      refine xr_iconst (pc := 738) X dL_refuses_738 (v := 0) (by decide) ?_
                      refine xr_lconst (pc := 739) X dL_refuses_739 (v := 0) rfl ?_
                      refine xr_callSWI (na := 3) (pc := 740) X [.ref (ad oo1), .int 0, .long 0] (c_L_doScript Γ.2.1 hI hst oo1 hh1 0 0 σ115) (wG_SW wm_22_9 wm_22_7 wm_22_8 wm_5_14) rfl rfl rfl (by decide +kernel) ⟨Nat.le_of_ble_eq_true rfl, Nat.le_of_ble_eq_true rfl⟩ rfl rfl (Nat.le_of_ble_eq_true rfl) ⟨(show _ ≤ 111 by omega), (show _ ≤ 666 by omega)⟩ dL_refuses_740 (fun zz118 σ117 => ?_)
                      refine xr_ldc (pc := 743) X dL_refuses_743 (List.mem_cons_of_mem _ wm_6_5) ?_
                      refine xr_icmp_ne (pc := 745) X 786 (by decide) dL_refuses_745 (fun _ => ?_) (fun _ => ?_)
                      · refine xr_iconst (pc := 786) X dL_refuses_786 (v := 0) (by decide) ?_
                        exact xr_zret (pc := 787) X rfl (Nat.le_of_ble_eq_true rfl) (Nat.le_of_ble_eq_true rfl) dL_refuses_787
                      refine xr_aload_n (pc := 748) X (i := 0) 0 rfl rfl dL_refuses_748 ?_
                      refine xr_iconst (pc := 749) X dL_refuses_749 (v := 1) (by decide) ?_
                      refine xr_ldc2 (pc := 750) X dL_refuses_750 (List.mem_cons_of_mem _ wm_22_6) ?_
                      refine xr_iload_n (pc := 753) X (i := 1) 1 rfl rfl dL_refuses_753 ?_
                      refine xr_i2l (pc := 754) X dL_refuses_754 ?_
                      refine xr_ladd (pc := 755) X dL_refuses_755 ?_
                      refine xr_callSWI (na := 3) (pc := 756) X [.ref (ad oo1), .int 1, .long (100000 + pp2.toInt64)] (c_L_doScript Γ.2.1 hI hst oo1 hh1 1 (100000 + pp2.toInt64) σ117) (wG_SW wm_22_9 wm_22_7 wm_22_8 wm_5_14) rfl rfl rfl (by decide +kernel) ⟨Nat.le_of_ble_eq_true rfl, Nat.le_of_ble_eq_true rfl⟩ rfl rfl (Nat.le_of_ble_eq_true rfl) ⟨(show _ ≤ 111 by omega), (show _ ≤ 666 by omega)⟩ dL_refuses_756 (fun zz120 σ119 => ?_)
                      refine xr_ldc (pc := 759) X dL_refuses_759 (List.mem_cons_of_mem _ wm_6_5) ?_
                      refine xr_icmp_ne (pc := 761) X 786 (by decide) dL_refuses_761 (fun _ => ?_) (fun _ => ?_)
                      · refine xr_iconst (pc := 786) X dL_refuses_786 (v := 0) (by decide) ?_
                        exact xr_zret (pc := 787) X rfl (Nat.le_of_ble_eq_true rfl) (Nat.le_of_ble_eq_true rfl) dL_refuses_787
                      refine xr_aload_n (pc := 764) X (i := 0) 0 rfl rfl dL_refuses_764 ?_
                      refine xr_iload_n (pc := 765) X (i := 1) 1 rfl rfl dL_refuses_765 ?_
                      refine xr_i2l (pc := 766) X dL_refuses_766 ?_
                      refine xr_bipush (pc := 767) X dL_refuses_767 (v := 61) (by decide) ?_
                      refine xr_iload_n (pc := 769) X (i := 1) 1 rfl rfl dL_refuses_769 ?_
                      refine xr_bipush (pc := 770) X dL_refuses_770 (v := 9) (by decide) ?_
                      refine xr_irem (pc := 772) X (by decide) dL_refuses_772 ?_
                      refine xr_iadd (pc := 773) X dL_refuses_773 ?_
                      refine xr_callSWI (na := 3) (pc := 774) X [.ref (ad oo1), .long pp2.toInt64, .int (61 + (pp2 - pp2 / 9 * 9))] (c_L_doSimulate Γ.2.1 hI hst oo1 hh1 pp2.toInt64 (61 + (pp2 - pp2 / 9 * 9)) σ119) (wG_SW wm_22_22 wm_22_20 wm_22_21 wm_5_14) rfl rfl rfl (by decide +kernel) ⟨Nat.le_of_ble_eq_true rfl, Nat.le_of_ble_eq_true rfl⟩ rfl rfl (Nat.le_of_ble_eq_true rfl) ⟨(show _ ≤ 111 by omega), (show _ ≤ 666 by omega)⟩ dL_refuses_774 (fun zz122 σ121 => ?_)
                      refine xr_ldc (pc := 777) X dL_refuses_777 (List.mem_cons_of_mem _ wm_6_5) ?_
                      refine xr_icmp_ne (pc := 779) X 786 (by decide) dL_refuses_779 (fun _ => ?_) (fun _ => ?_)
                      · refine xr_iconst (pc := 786) X dL_refuses_786 (v := 0) (by decide) ?_
                        exact xr_zret (pc := 787) X rfl (Nat.le_of_ble_eq_true rfl) (Nat.le_of_ble_eq_true rfl) dL_refuses_787
                      refine xr_iconst (pc := 782) X dL_refuses_782 (v := 1) (by decide) ?_
                      refine xr_goto (pc := 783) X 787 (by decide) dL_refuses_783 ?_
                      exact xr_zret (pc := 787) X rfl (Nat.le_of_ble_eq_true rfl) (Nat.le_of_ble_eq_true rfl) dL_refuses_787
                    refine xr_if_ne (pc := 676) X 683 (by decide) dL_refuses_676 (fun _ => ?_) (fun _ => ?_)
                    · refine xr_iconst (pc := 683) X dL_refuses_683 (v := 3) (by decide) ?_
                      refine xr_iload_n (pc := 684) X (i := 1) 1 rfl rfl dL_refuses_684 ?_
                      refine xr_bipush (pc := 685) X dL_refuses_685 (v := 9) (by decide) ?_
                      refine xr_irem (pc := 687) X (by decide) dL_refuses_687 ?_
                      refine xr_iadd (pc := 688) X dL_refuses_688 ?_
                      exact x_sub [0, 1] rfl (x_wid (by omega) (by omega) (hKK110 _ _))
                    refine xr_iconst (pc := 679) X dL_refuses_679 (v := 0) (by decide) ?_
                    refine xr_goto (pc := 680) X 689 (by decide) dL_refuses_680 ?_
                    exact x_sub [0, 1] rfl (x_wid (by omega) (by omega) (hKK110 _ _))
                  refine xr_if_ne (pc := 533) X 540 (by decide) dL_refuses_533 (fun _ => ?_) (fun _ => ?_)
                  · refine xr_bipush (pc := 540) X dL_refuses_540 (v := 7) (by decide) ?_
                    refine xr_iload_n (pc := 542) X (i := 1) 1 rfl rfl dL_refuses_542 ?_
                    refine xr_bipush (pc := 543) X dL_refuses_543 (v := 9) (by decide) ?_
                    refine xr_irem (pc := 545) X (by decide) dL_refuses_545 ?_
                    refine xr_iadd (pc := 546) X dL_refuses_546 ?_
                    exact x_wid (by omega) (by omega) (hKK89 _ _)
                  refine xr_iconst (pc := 536) X dL_refuses_536 (v := 0) (by decide) ?_
                  refine xr_goto (pc := 537) X 547 (by decide) dL_refuses_537 ?_
                  exact x_wid (by omega) (by omega) (hKK89 _ _)
                refine xr_if_ne (pc := 501) X 510 (by decide) dL_refuses_501 (fun _ => ?_) (fun _ => ?_)
                · refine xr_bipush (pc := 510) X dL_refuses_510 (v := 100) (by decide) ?_
                  refine xr_iload_n (pc := 512) X (i := 1) 1 rfl rfl dL_refuses_512 ?_
                  refine xr_bipush (pc := 513) X dL_refuses_513 (v := 9) (by decide) ?_
                  refine xr_irem (pc := 515) X (by decide) dL_refuses_515 ?_
                  refine xr_iadd (pc := 516) X dL_refuses_516 ?_
                  exact x_wid (by omega) (by omega) (hKK83 _ _)
                refine xr_iload_n (pc := 504) X (i := 1) 1 rfl rfl dL_refuses_504 ?_
                refine xr_iconst (pc := 505) X dL_refuses_505 (v := 4) (by decide) ?_
                refine xr_irem (pc := 506) X (by decide) dL_refuses_506 ?_
                refine xr_goto (pc := 507) X 517 (by decide) dL_refuses_507 ?_
                exact x_wid (by omega) (by omega) (hKK83 _ _)
              refine xr_if_ne (pc := 451) X 458 (by decide) dL_refuses_451 (fun _ => ?_) (fun _ => ?_)
              · refine xr_bipush (pc := 458) X dL_refuses_458 (v := 10) (by decide) ?_
                refine xr_iload_n (pc := 460) X (i := 1) 1 rfl rfl dL_refuses_460 ?_
                refine xr_bipush (pc := 461) X dL_refuses_461 (v := 9) (by decide) ?_
                refine xr_irem (pc := 463) X (by decide) dL_refuses_463 ?_
                refine xr_iadd (pc := 464) X dL_refuses_464 ?_
                exact x_wid (by omega) (by omega) (hKK75 _ _)
              refine xr_iconst (pc := 454) X dL_refuses_454 (v := 0) (by decide) ?_
              refine xr_goto (pc := 455) X 465 (by decide) dL_refuses_455 ?_
              exact x_wid (by omega) (by omega) (hKK75 _ _)
            refine xr_if_ne (pc := 420) X 427 (by decide) dL_refuses_420 (fun _ => ?_) (fun _ => ?_)
            · refine xr_bipush (pc := 427) X dL_refuses_427 (v := 100) (by decide) ?_
              refine xr_iload_n (pc := 429) X (i := 1) 1 rfl rfl dL_refuses_429 ?_
              refine xr_bipush (pc := 430) X dL_refuses_430 (v := 9) (by decide) ?_
              refine xr_irem (pc := 432) X (by decide) dL_refuses_432 ?_
              refine xr_iadd (pc := 433) X dL_refuses_433 ?_
              exact x_wid (by omega) (by omega) (hKK69 _ _)
            refine xr_iconst (pc := 423) X dL_refuses_423 (v := 0) (by decide) ?_
            refine xr_goto (pc := 424) X 434 (by decide) dL_refuses_424 ?_
            exact x_wid (by omega) (by omega) (hKK69 _ _)
          refine xr_if_ne (pc := 350) X 357 (by decide) dL_refuses_350 (fun _ => ?_) (fun _ => ?_)
          · refine xr_bipush (pc := 357) X dL_refuses_357 (v := 100) (by decide) ?_
            refine xr_iload_n (pc := 359) X (i := 1) 1 rfl rfl dL_refuses_359 ?_
            refine xr_bipush (pc := 360) X dL_refuses_360 (v := 9) (by decide) ?_
            refine xr_irem (pc := 362) X (by decide) dL_refuses_362 ?_
            refine xr_iadd (pc := 363) X dL_refuses_363 ?_
            exact x_wid (by omega) (by omega) (hKK57 _ _)
          refine xr_iconst (pc := 353) X dL_refuses_353 (v := 0) (by decide) ?_
          refine xr_goto (pc := 354) X 364 (by decide) dL_refuses_354 ?_
          exact x_wid (by omega) (by omega) (hKK57 _ _)
        refine xr_if_ne (pc := 271) X 282 (by decide) dL_refuses_271 (fun _ => ?_) (fun _ => ?_)
        · refine xr_iconst (pc := 282) X dL_refuses_282 (v := 5) (by decide) ?_
          refine xr_iload_n (pc := 283) X (i := 1) 1 rfl rfl dL_refuses_283 ?_
          refine xr_bipush (pc := 284) X dL_refuses_284 (v := 9) (by decide) ?_
          refine xr_irem (pc := 286) X (by decide) dL_refuses_286 ?_
          refine xr_iadd (pc := 287) X dL_refuses_287 ?_
          exact x_wid (by omega) (by omega) (hKK44 _ _)
        refine xr_iload_n (pc := 274) X (i := 1) 1 rfl rfl dL_refuses_274 ?_
        refine xr_bipush (pc := 275) X dL_refuses_275 (v := 9) (by decide) ?_
        refine xr_irem (pc := 277) X (by decide) dL_refuses_277 ?_
        refine xr_ineg (pc := 278) X dL_refuses_278 ?_
        refine xr_goto (pc := 279) X 288 (by decide) dL_refuses_279 ?_
        exact x_wid (by omega) (by omega) (hKK44 _ _)
      refine xr_if_ne (pc := 60) X 72 (by decide) dL_refuses_60 (fun _ => ?_) (fun _ => ?_)
      · refine xr_sipush (pc := 72) X dL_refuses_72 (v := 256) (by decide) ?_
        refine xr_iload_n (pc := 75) X (i := 1) 1 rfl rfl dL_refuses_75 ?_
        refine xr_bipush (pc := 76) X dL_refuses_76 (v := 9) (by decide) ?_
        refine xr_irem (pc := 78) X (by decide) dL_refuses_78 ?_
        refine xr_iadd (pc := 79) X dL_refuses_79 ?_
        exact x_wid (by omega) (by omega) (hKK14 _ _)
      refine xr_iconst (pc := 63) X dL_refuses_63 (v := (-1)) (by decide) ?_
      refine xr_iload_n (pc := 64) X (i := 1) 1 rfl rfl dL_refuses_64 ?_
      refine xr_bipush (pc := 65) X dL_refuses_65 (v := 9) (by decide) ?_
      refine xr_irem (pc := 67) X (by decide) dL_refuses_67 ?_
      refine xr_isub (pc := 68) X dL_refuses_68 ?_
      refine xr_goto (pc := 69) X 80 (by decide) dL_refuses_69 ?_
      exact x_wid (by omega) (by omega) (hKK14 _ _)
    refine xr_if_ne (pc := 34) X 45 (by decide) dL_refuses_34 (fun _ => ?_) (fun _ => ?_)
    · refine xr_sipush (pc := 45) X dL_refuses_45 (v := 501) (by decide) ?_
      refine xr_iload_n (pc := 48) X (i := 1) 1 rfl rfl dL_refuses_48 ?_
      refine xr_bipush (pc := 49) X dL_refuses_49 (v := 99) (by decide) ?_
      refine xr_irem (pc := 51) X (by decide) dL_refuses_51 ?_
      refine xr_iadd (pc := 52) X dL_refuses_52 ?_
      exact x_wid (by omega) (by omega) (hKK10 _ _)
    refine xr_iload_n (pc := 37) X (i := 1) 1 rfl rfl dL_refuses_37 ?_
    refine xr_bipush (pc := 38) X dL_refuses_38 (v := 99) (by decide) ?_
    refine xr_irem (pc := 40) X (by decide) dL_refuses_40 ?_
    refine xr_ineg (pc := 41) X dL_refuses_41 ?_
    refine xr_goto (pc := 42) X 53 (by decide) dL_refuses_42 ?_
    exact x_wid (by omega) (by omega) (hKK10 _ _)
  refine xr_if_ne (pc := 12) X 24 (by decide) dL_refuses_12 (fun _ => ?_) (fun _ => ?_)
  · refine xr_iload_n (pc := 24) X (i := 2) 2 rfl rfl dL_refuses_24 ?_
    refine xr_iload_n (pc := 25) X (i := 1) 1 rfl rfl dL_refuses_25 ?_
    refine xr_bipush (pc := 26) X dL_refuses_26 (v := 99) (by decide) ?_
    refine xr_irem (pc := 28) X (by decide) dL_refuses_28 ?_
    refine xr_iadd (pc := 29) X dL_refuses_29 ?_
    exact x_wid (by omega) (by omega) (hKK6 _ _)
  refine xr_iconst (pc := 15) X dL_refuses_15 (v := (-1)) (by decide) ?_
  refine xr_iload_n (pc := 16) X (i := 1) 1 rfl rfl dL_refuses_16 ?_
  refine xr_bipush (pc := 17) X dL_refuses_17 (v := 99) (by decide) ?_
  refine xr_irem (pc := 19) X (by decide) dL_refuses_19 ?_
  refine xr_isub (pc := 20) X dL_refuses_20 ?_
  refine xr_goto (pc := 21) X 30 (by decide) dL_refuses_21 ?_
  exact x_wid (by omega) (by omega) (hKK6 _ _)
def L_L_sound_86 (oo1 : Nat) (zz4 : Int32) (zz18 : Int32) (zz31 : Int32) (KK45 : Int32 → Int32 → Int32 → xS → Option (Int32 × xS)) : Nat → Int32 → Int32 → Int32 → Int32 → Int32 → xS → Option (Int32 × xS)
  | 0, _, _, _, _, _, _ => none
  | nn_40 + 1, zz34, zz35, zz36, zz37, zz38, σ39 => if zz31 ≤ zz38 then (KK45 zz34 zz35 zz36 σ39)
 else (if zz34 = 0 then (KK45 zz34 zz35 zz36 σ39)
 else (xbI (F_L_call oo1 5 zz18 zz38 1 σ39) (fun (zz49 : Int32) (σ48 : xS) => xjn (fun (zz50 : Int32) (σ51 : xS) => xlet (zz35 + zz50) (fun (zz56 : Int32) => xjn (fun (zz57 : Int32) (σ58 : xS) => xlet (zz36 + zz57) (fun (zz61 : Int32) => xjn (fun (σ62 : xS) => xlet (zz38 + 1) (fun (zz70 : Int32) => L_L_sound_86 oo1 zz4 zz18 zz31 KK45 nn_40 0 zz56 zz61 zz49 zz70 σ62))
 (fun (KK63 : xS → Option (Int32 × xS)) => if zz49 < zz37 then (KK63 σ58)
 else (xbI (F_L_call oo1 5 zz18 zz38 0 σ58) (fun (zz66 : Int32) (σ65 : xS) => if zz66 ≤ 0 then (KK63 σ65)
 else (xbI (F_L_call oo1 5 zz18 zz38 0 σ65) (fun (zz68 : Int32) (σ67 : xS) => if 100 ≤ zz68 then (KK63 σ67)
 else (if (zz4 + 9) < zz49 then (KK63 σ67)
 else (if zz49 ≤ 0 then (KK63 σ67)
 else (xlet (zz38 + 1) (fun (zz69 : Int32) => L_L_sound_86 oo1 zz4 zz18 zz31 KK45 nn_40 1 zz56 zz61 zz49 zz69 σ67)))))))))))
 (fun (KK59 : Int32 → xS → Option (Int32 × xS)) => if zz49 ≤ zz4 then (KK59 0 σ51)
 else (KK59 1 σ51))))
 (fun (KK52 : Int32 → xS → Option (Int32 × xS)) => if zz49 ≤ zz4 then (KK52 0 σ48)
 else (xbI (F_L_call oo1 5 zz18 zz38 0 σ48) (fun (zz55 : Int32) (σ54 : xS) => KK52 zz55 σ54))))))
def L_L_sound_534 (oo1 : Nat) (zz2 : Int32) (zz4 : Int32) (KK150 : Int32 → xS → Option (Int32 × xS)) : Nat → Int32 → Int32 → xS → Option (Int32 × xS)
  | 0, _, _, _ => none
  | nn_147 + 1, zz144, zz145, σ146 => xbI (F_L_call oo1 2 2 0 0 σ146) (fun (zz154 : Int32) (σ153 : xS) => if zz154 ≤ zz145 then (KK150 zz144 σ153)
 else (if zz144 = 0 then (KK150 zz144 σ153)
 else (xbI (F_L_call oo1 6 zz145 0 0 σ153) (fun (zz156 : Int32) (σ155 : xS) => if zz156 ≤ zz4 then (xlet (zz145 + 1) (fun (zz157 : Int32) => L_L_sound_534 oo1 zz2 zz4 KK150 nn_147 0 zz157 σ155))
 else (if (zz4 + 99) < zz156 then (xlet (zz145 + 1) (fun (zz158 : Int32) => L_L_sound_534 oo1 zz2 zz4 KK150 nn_147 0 zz158 σ155))
 else (xbI (F_L_call oo1 6 zz145 1 0 σ155) (fun (zz160 : Int32) (σ159 : xS) => if zz2 ≤ zz160 then (xlet (zz145 + 1) (fun (zz161 : Int32) => L_L_sound_534 oo1 zz2 zz4 KK150 nn_147 0 zz161 σ159))
 else (xlet (zz145 + 1) (fun (zz162 : Int32) => L_L_sound_534 oo1 zz2 zz4 KK150 nn_147 1 zz162 σ159)))))))))
def L_L_sound_52 (oo1 : Nat) (zz2 : Int32) (zz4 : Int32) (KK27 : Int32 → Int32 → Int32 → Int32 → Int32 → xS → Option (Int32 × xS)) : Nat → Int32 → Int32 → Int32 → Int32 → Int32 → Int32 → xS → Option (Int32 × xS)
  | 0, _, _, _, _, _, _, _ => none
  | nn_20 + 1, zz13, zz14, zz15, zz16, zz17, zz18, σ19 => if zz2 ≤ zz18 then (KK27 zz13 zz14 zz15 zz16 zz17 σ19)
 else (if zz17 = 0 then (KK27 zz13 zz14 zz15 zz16 zz17 σ19)
 else (xbI (F_L_call oo1 3 zz18 1 0 σ19) (fun (zz31 : Int32) (σ30 : xS) => L_L_sound_86 oo1 zz4 zz18 zz31 (fun (zz42 : Int32) (zz43 : Int32) (zz44 : Int32) (σ47 : xS) => xbI (F_L_call oo1 4 zz18 2 0 σ47) (fun (zz72 : Int32) (σ71 : xS) => xbI (F_L_call oo1 4 zz18 3 0 σ71) (fun (zz74 : Int32) (σ73 : xS) => xbI (F_L_call oo1 3 zz18 0 0 σ73) (fun (zz76 : Int32) (σ75 : xS) => xlet (zz13 + zz76) (fun (zz77 : Int32) => xlet (zz14 + zz31) (fun (zz78 : Int32) => xbI (F_L_call oo1 3 zz18 4 0 σ75) (fun (zz80 : Int32) (σ79 : xS) => xlet (zz15 + zz80) (fun (zz81 : Int32) => xbI (F_L_call oo1 4 zz18 0 0 σ79) (fun (zz83 : Int32) (σ82 : xS) => xlet (zz16 + zz83) (fun (zz84 : Int32) => if zz42 = 0 then (xlet (zz18 + 1) (fun (zz85 : Int32) => L_L_sound_52 oo1 zz2 zz4 KK27 nn_20 zz77 zz78 zz81 zz84 0 zz85 σ82))
 else (xbI (F_L_call oo1 3 zz18 3 0 σ82) (fun (zz87 : Int32) (σ86 : xS) => xbI (F_L_call oo1 3 zz18 0 0 σ86) (fun (zz89 : Int32) (σ88 : xS) => xbI (F_L_call oo1 4 zz18 0 0 σ88) (fun (zz91 : Int32) (σ90 : xS) => if ¬ zz87 = ((zz89 + zz43) + zz91) then (xlet (zz18 + 1) (fun (zz92 : Int32) => L_L_sound_52 oo1 zz2 zz4 KK27 nn_20 zz77 zz78 zz81 zz84 0 zz92 σ90))
 else (xbI (F_L_call oo1 3 zz18 4 0 σ90) (fun (zz94 : Int32) (σ93 : xS) => xbI (F_L_call oo1 3 zz18 6 0 σ93) (fun (zz96 : Int32) (σ95 : xS) => if ¬ zz94 = (zz96 + zz31) then (xlet (zz18 + 1) (fun (zz97 : Int32) => L_L_sound_52 oo1 zz2 zz4 KK27 nn_20 zz77 zz78 zz81 zz84 0 zz97 σ95))
 else (xbI (F_L_call oo1 3 zz18 4 0 σ95) (fun (zz99 : Int32) (σ98 : xS) => xbI (F_L_call oo1 4 zz18 1 0 σ98) (fun (zz101 : Int32) (σ100 : xS) => if ¬ zz99 = (zz101 + zz44) then (xlet (zz18 + 1) (fun (zz102 : Int32) => L_L_sound_52 oo1 zz2 zz4 KK27 nn_20 zz77 zz78 zz81 zz84 0 zz102 σ100))
 else (if zz72 < 0 then (xlet (zz18 + 1) (fun (zz103 : Int32) => L_L_sound_52 oo1 zz2 zz4 KK27 nn_20 zz77 zz78 zz81 zz84 0 zz103 σ100))
 else (if 2 ≤ zz72 then (xlet (zz18 + 1) (fun (zz104 : Int32) => L_L_sound_52 oo1 zz2 zz4 KK27 nn_20 zz77 zz78 zz81 zz84 0 zz104 σ100))
 else (xjn (fun (zz105 : Int32) (σ106 : xS) => xjn (fun (zz109 : Int32) (σ110 : xS) => if ¬ zz105 = zz109 then (xlet (zz18 + 1) (fun (zz113 : Int32) => L_L_sound_52 oo1 zz2 zz4 KK27 nn_20 zz77 zz78 zz81 zz84 0 zz113 σ110))
 else (xjn (fun (σ114 : xS) => if 6 < zz31 then (xlet (zz18 + 1) (fun (zz119 : Int32) => L_L_sound_52 oo1 zz2 zz4 KK27 nn_20 zz77 zz78 zz81 zz84 0 zz119 σ114))
 else (xbI (F_L_call oo1 4 zz18 5 0 σ114) (fun (zz121 : Int32) (σ120 : xS) => if zz31 < zz121 then (xlet (zz18 + 1) (fun (zz122 : Int32) => L_L_sound_52 oo1 zz2 zz4 KK27 nn_20 zz77 zz78 zz81 zz84 0 zz122 σ120))
 else (xbI (F_L_call oo1 4 zz18 4 0 σ120) (fun (zz124 : Int32) (σ123 : xS) => xbI (F_L_call oo1 4 zz18 1 0 σ123) (fun (zz126 : Int32) (σ125 : xS) => if zz126 < zz124 then (xlet (zz18 + 1) (fun (zz127 : Int32) => L_L_sound_52 oo1 zz2 zz4 KK27 nn_20 zz77 zz78 zz81 zz84 0 zz127 σ125))
 else (xbI (F_L_call oo1 15 zz18 0 0 σ125) (fun (zz129 : Int32) (σ128 : xS) => xjn (fun (σ130 : xS) => xbI (F_L_call oo1 3 zz18 5 0 σ130) (fun (zz138 : Int32) (σ137 : xS) => if zz4 < zz138 then (xlet (zz18 + 1) (fun (zz139 : Int32) => L_L_sound_52 oo1 zz2 zz4 KK27 nn_20 zz77 zz78 zz81 zz84 0 zz139 σ137))
 else (xlet (zz18 + 1) (fun (zz140 : Int32) => L_L_sound_52 oo1 zz2 zz4 KK27 nn_20 zz77 zz78 zz81 zz84 1 zz140 σ137))))
 (fun (KK131 : xS → Option (Int32 × xS)) => if ¬ zz129 = 0 then (KK131 σ128)
 else (if ¬ zz31 = 0 then (xlet (zz18 + 1) (fun (zz133 : Int32) => L_L_sound_52 oo1 zz2 zz4 KK27 nn_20 zz77 zz78 zz81 zz84 0 zz133 σ128))
 else (xbI (F_L_call oo1 3 zz18 0 0 σ128) (fun (zz135 : Int32) (σ134 : xS) => if ¬ zz135 = 0 then (xlet (zz18 + 1) (fun (zz136 : Int32) => L_L_sound_52 oo1 zz2 zz4 KK27 nn_20 zz77 zz78 zz81 zz84 0 zz136 σ134))
 else (KK131 σ134)))))))))))))
 (fun (KK115 : xS → Option (Int32 × xS)) => if zz74 = ((-1)) then (KK115 σ110)
 else (if zz74 ≤ zz4 then (xlet (zz18 + 1) (fun (zz117 : Int32) => L_L_sound_52 oo1 zz2 zz4 KK27 nn_20 zz77 zz78 zz81 zz84 0 zz117 σ110))
 else (if (zz4 + 20) < zz74 then (xlet (zz18 + 1) (fun (zz118 : Int32) => L_L_sound_52 oo1 zz2 zz4 KK27 nn_20 zz77 zz78 zz81 zz84 0 zz118 σ110))
 else (KK115 σ110))))))
 (fun (KK111 : Int32 → xS → Option (Int32 × xS)) => if ¬ zz74 = ((-1)) then (KK111 0 σ106)
 else (KK111 1 σ106)))
 (fun (KK107 : Int32 → xS → Option (Int32 × xS)) => if ¬ zz72 = 0 then (KK107 0 σ100)
 else (KK107 1 σ100))))))))))))))))))))))))) 7 zz17 0 0 0 0 σ30)))
def F_L_sound (oo1 : Nat) (σ : xS) : Option (Int32 × xS) :=
  xbI (F_L_call oo1 2 0 0 0 σ) (fun (zz2 : Int32) (σ1 : xS) => xbI (F_L_call oo1 2 1 0 0 σ1) (fun (zz4 : Int32) (σ3 : xS) => xbI (F_L_call oo1 2 2 0 0 σ3) (fun (zz6 : Int32) (σ5 : xS) => xjn (fun (zz7 : Int32) (σ8 : xS) => L_L_sound_52 oo1 zz2 zz4 (fun (zz22 : Int32) (zz23 : Int32) (zz24 : Int32) (zz25 : Int32) (zz26 : Int32) (σ29 : xS) => L_L_sound_534 oo1 zz2 zz4 (fun (zz149 : Int32) (σ152 : xS) => if zz149 = 0 then (some ((0 : Int32), σ152))
 else (xbI (F_L_call oo1 2 3 0 0 σ152) (fun (zz164 : Int32) (σ163 : xS) => if ¬ zz164 = zz22 then (some ((0 : Int32), σ163))
 else (xbI (F_L_call oo1 2 4 0 0 σ163) (fun (zz166 : Int32) (σ165 : xS) => if ¬ zz166 = zz23 then (some ((0 : Int32), σ165))
 else (xbI (F_L_call oo1 2 5 0 0 σ165) (fun (zz168 : Int32) (σ167 : xS) => if ¬ zz168 = zz24 then (some ((0 : Int32), σ167))
 else (xbI (F_L_call oo1 2 7 0 0 σ167) (fun (zz170 : Int32) (σ169 : xS) => if ¬ zz170 = zz25 then (some ((0 : Int32), σ169))
 else (some ((1 : Int32), σ169))))))))))) 9 zz26 0 σ29) 5 0 0 0 0 zz7 0 σ8)
 (fun (KK9 : Int32 → xS → Option (Int32 × xS)) => if 8 < zz6 then (KK9 0 σ5)
 else (KK9 1 σ5)))))
abbrev rm_L_sound : Room := { frames := 11, cells := 1029, slots := 6174, locals := 220 }
set_option maxHeartbeats 4000000 in
set_option maxRecDepth 100000 in
theorem c_L_sound (l : Launch) {D : va_G} {ad : Nat → Nat} {N : Nat} {Sh : xSh} (hI : ∀ i j, i < N → j < N → ad i = ad j → i = j) (hst : l.stackTraces = false) (oo1 : Nat) (hh1 : xIs5 D ad N Sh oo1) (σ : xS) : xKI l yL_sound (Cond.code yL_sound cL_sound 15 (some .boolean) :: wG) rm_L_sound 1029 6174 D ad N Sh [.ref (ad oo1)] σ (F_L_sound oo1 σ) := by
  refine x_startI (own := RL) (maxL := 15) (by decide) rfl rfl (Nat.le_of_ble_eq_true rfl) rfl hI (fun Γ hl hnL X => ?_)
  subst hl
  unfold F_L_sound
  refine xr_aload_n (pc := 0) X (i := 0) 0 rfl rfl dL_sound_0 ?_
  refine xr_iconst (pc := 1) X dL_sound_1 (v := 2) (by decide) ?_
  refine xr_iconst (pc := 2) X dL_sound_2 (v := 0) (by decide) ?_
  refine xr_iconst (pc := 3) X dL_sound_3 (v := 0) (by decide) ?_
  refine xr_iconst (pc := 4) X dL_sound_4 (v := 0) (by decide) ?_
  refine xr_callSI (na := 5) (pc := 5) X [.ref (ad oo1), .int 2, .int 0, .int 0, .int 0] (c_L_call Γ.2.1 hI hst oo1 hh1 2 0 0 0 σ) (wG_S wm_5_23 wm_5_21 wm_5_22 wm_5_14) rfl rfl rfl (by decide +kernel) ⟨Nat.le_of_ble_eq_true rfl, Nat.le_of_ble_eq_true rfl⟩ rfl rfl (Nat.le_of_ble_eq_true rfl) ⟨(show _ ≤ 1029 by omega), (show _ ≤ 6174 by omega)⟩ dL_sound_5 (fun zz2 σ1 => ?_)
  refine xr_istore_n (pc := 8) X (hf := rfl) (i := 1) [1, 0] (Nat.le_of_ble_eq_true rfl) hnL rfl dL_sound_8 ?_
  refine xr_aload_n (pc := 9) X (i := 0) 0 rfl rfl dL_sound_9 ?_
  refine xr_iconst (pc := 10) X dL_sound_10 (v := 2) (by decide) ?_
  refine xr_iconst (pc := 11) X dL_sound_11 (v := 1) (by decide) ?_
  refine xr_iconst (pc := 12) X dL_sound_12 (v := 0) (by decide) ?_
  refine xr_iconst (pc := 13) X dL_sound_13 (v := 0) (by decide) ?_
  refine xr_callSI (na := 5) (pc := 14) X [.ref (ad oo1), .int 2, .int 1, .int 0, .int 0] (c_L_call Γ.2.1 hI hst oo1 hh1 2 1 0 0 σ1) (wG_S wm_5_23 wm_5_21 wm_5_22 wm_5_14) rfl rfl rfl (by decide +kernel) ⟨Nat.le_of_ble_eq_true rfl, Nat.le_of_ble_eq_true rfl⟩ rfl rfl (Nat.le_of_ble_eq_true rfl) ⟨(show _ ≤ 1029 by omega), (show _ ≤ 6174 by omega)⟩ dL_sound_14 (fun zz4 σ3 => ?_)
  refine xr_istore_n (pc := 17) X (hf := rfl) (i := 2) [1, 2, 0] (Nat.le_of_ble_eq_true rfl) hnL rfl dL_sound_17 ?_
  refine xr_iconst (pc := 18) X dL_sound_18 (v := 0) (by decide) ?_
  refine xr_istore_n (pc := 19) X (hf := rfl) (i := 3) [1, 2, 3, 0] (Nat.le_of_ble_eq_true rfl) hnL rfl dL_sound_19 ?_
  refine xr_iconst (pc := 20) X dL_sound_20 (v := 0) (by decide) ?_
  refine xr_istore (pc := 21) X (i := 4) [1, 2, 3, 4, 0] (Nat.le_of_ble_eq_true rfl) hnL rfl dL_sound_21 ?_
  refine xr_iconst (pc := 23) X dL_sound_23 (v := 0) (by decide) ?_
  refine xr_istore (pc := 24) X (i := 5) [1, 2, 3, 4, 5, 0] (Nat.le_of_ble_eq_true rfl) hnL rfl dL_sound_24 ?_
  refine xr_iconst (pc := 26) X dL_sound_26 (v := 0) (by decide) ?_
  refine xr_istore (pc := 27) X (i := 6) [1, 2, 3, 4, 5, 6, 0] (Nat.le_of_ble_eq_true rfl) hnL rfl dL_sound_27 ?_
  refine xr_aload_n (pc := 29) X (i := 0) 0 rfl rfl dL_sound_29 ?_
  refine xr_iconst (pc := 30) X dL_sound_30 (v := 2) (by decide) ?_
  refine xr_iconst (pc := 31) X dL_sound_31 (v := 2) (by decide) ?_
  refine xr_iconst (pc := 32) X dL_sound_32 (v := 0) (by decide) ?_
  refine xr_iconst (pc := 33) X dL_sound_33 (v := 0) (by decide) ?_
  refine xr_callSI (na := 5) (pc := 34) X [.ref (ad oo1), .int 2, .int 2, .int 0, .int 0] (c_L_call Γ.2.1 hI hst oo1 hh1 2 2 0 0 σ3) (wG_S wm_5_23 wm_5_21 wm_5_22 wm_5_14) rfl rfl rfl (by decide +kernel) ⟨Nat.le_of_ble_eq_true rfl, Nat.le_of_ble_eq_true rfl⟩ rfl rfl (Nat.le_of_ble_eq_true rfl) ⟨(show _ ≤ 1029 by omega), (show _ ≤ 6174 by omega)⟩ dL_sound_34 (fun zz6 σ5 => ?_)
  refine xr_bipush (pc := 37) X dL_sound_37 (v := 8) (by decide) ?_
  refine x_jn (fun (KK9 : Int32 → xS → Option (Int32 × xS)) => ∀ zz7 σ8, xM Γ D ad N Sh (xQI Γ D ad N Sh 1029 6174) 9 54 (KK9 zz7 σ8) σ8 47 [(0, .ref (ad oo1)), (1, .int zz2), (2, .int zz4), (3, .int 0), (4, .int 0), (5, .int 0), (6, .int 0)] [.int zz7]) (fun zz7 σ8 => ?_) (fun KK9 hKK10 => ?_)
  · refine xr_istore (pc := 47) X (i := 7) [1, 2, 3, 4, 5, 6, 7, 0] (Nat.le_of_ble_eq_true rfl) hnL rfl dL_sound_47 ?_
    refine xr_iconst (pc := 49) X dL_sound_49 (v := 0) (by decide) ?_
    refine xr_istore (pc := 50) X (i := 8) [1, 2, 3, 4, 5, 6, 7, 8, 0] (Nat.le_of_ble_eq_true rfl) hnL rfl dL_sound_50 ?_
    have hLL172 : ∀ (KK27 : Int32 → Int32 → Int32 → Int32 → Int32 → xS → Option (Int32 × xS)) (hKK28 : ∀ zz22 zz23 zz24 zz25 zz26 σ29, xM Γ D ad N Sh (xQI Γ D ad N Sh 1029 6174) 927 5562 (KK27 zz22 zz23 zz24 zz25 zz26 σ29) σ29 528 [(0, .ref (ad oo1)), (1, .int zz2), (2, .int zz4), (3, .int zz22), (4, .int zz23), (5, .int zz24), (6, .int zz25), (7, .int zz26)] []), ∀ (nn_20 : Nat) zz13 zz14 zz15 zz16 zz17 zz18 σ19 (kk_11 : Nat), kk_11 + 153 * (nn_20 + 1) ≤ 927 → xM Γ D ad N Sh (xQI Γ D ad N Sh 1029 6174) (kk_11 + 0) (6 * kk_11 + 0) (L_L_sound_52 oo1 zz2 zz4 KK27 nn_20 zz13 zz14 zz15 zz16 zz17 zz18 σ19) σ19 52 [(0, .ref (ad oo1)), (1, .int zz2), (2, .int zz4), (3, .int zz13), (4, .int zz14), (5, .int zz15), (6, .int zz16), (7, .int zz17), (8, .int zz18)] [] := by
      intro KK27 hKK28 nn_20
      induction nn_20 with
      | zero => intro zz13 zz14 zz15 zz16 zz17 zz18 σ19 kk_11 _; exact xM_none
      | succ nn_20 ihh21 =>
        intro zz13 zz14 zz15 zz16 zz17 zz18 σ19 kk_11 hk_12
        rw [L_L_sound_52]
        refine xr_iload (pc := 52) X (i := 8) 8 rfl dL_sound_52 ?_
        refine xr_iload_n (pc := 54) X (i := 1) 1 rfl rfl dL_sound_54 ?_
        refine xr_icmp_ge (pc := 55) X 528 (by decide) dL_sound_55 (fun _ => ?_) (fun _ => ?_)
        · exact x_sub [0, 1, 2, 3, 4, 5, 6, 7] rfl (x_wid (by omega) (by omega) (hKK28 _ _ _ _ _ _))
        refine xr_iload (pc := 58) X (i := 7) 7 rfl dL_sound_58 ?_
        refine xr_if_eq (pc := 60) X 528 (by decide) dL_sound_60 (fun _ => ?_) (fun _ => ?_)
        · exact x_sub [0, 1, 2, 3, 4, 5, 6, 7] rfl (x_wid (by omega) (by omega) (hKK28 _ _ _ _ _ _))
        refine xr_aload_n (pc := 63) X (i := 0) 0 rfl rfl dL_sound_63 ?_
        refine xr_iconst (pc := 64) X dL_sound_64 (v := 3) (by decide) ?_
        refine xr_iload (pc := 65) X (i := 8) 8 rfl dL_sound_65 ?_
        refine xr_iconst (pc := 67) X dL_sound_67 (v := 1) (by decide) ?_
        refine xr_iconst (pc := 68) X dL_sound_68 (v := 0) (by decide) ?_
        refine xr_callSI (na := 5) (pc := 69) X [.ref (ad oo1), .int 3, .int zz18, .int 1, .int 0] (c_L_call Γ.2.1 hI hst oo1 hh1 3 zz18 1 0 σ19) (wG_S wm_5_23 wm_5_21 wm_5_22 wm_5_14) rfl rfl rfl (by decide +kernel) ⟨Nat.le_of_ble_eq_true rfl, Nat.le_of_ble_eq_true rfl⟩ rfl rfl (Nat.le_of_ble_eq_true rfl) ⟨(show _ ≤ 1029 by omega), (show _ ≤ 6174 by omega)⟩ dL_sound_69 (fun zz31 σ30 => ?_)
        refine xr_istore (pc := 72) X (i := 9) [1, 2, 3, 4, 5, 6, 7, 8, 9, 0] (Nat.le_of_ble_eq_true rfl) hnL rfl dL_sound_72 ?_
        refine xr_iconst (pc := 74) X dL_sound_74 (v := 0) (by decide) ?_
        refine xr_istore (pc := 75) X (i := 10) [1, 2, 3, 4, 5, 6, 7, 8, 9, 10, 0] (Nat.le_of_ble_eq_true rfl) hnL rfl dL_sound_75 ?_
        refine xr_iconst (pc := 77) X dL_sound_77 (v := 0) (by decide) ?_
        refine xr_istore (pc := 78) X (i := 11) [1, 2, 3, 4, 5, 6, 7, 8, 9, 10, 11, 0] (Nat.le_of_ble_eq_true rfl) hnL rfl dL_sound_78 ?_
        refine xr_iconst (pc := 80) X dL_sound_80 (v := 0) (by decide) ?_
        refine xr_istore (pc := 81) X (i := 12) [1, 2, 3, 4, 5, 6, 7, 8, 9, 10, 11, 12, 0] (Nat.le_of_ble_eq_true rfl) hnL rfl dL_sound_81 ?_
        refine xr_iconst (pc := 83) X dL_sound_83 (v := 0) (by decide) ?_
        refine xr_istore (pc := 84) X (i := 13) [1, 2, 3, 4, 5, 6, 7, 8, 9, 10, 11, 12, 13, 0] (Nat.le_of_ble_eq_true rfl) hnL rfl dL_sound_84 ?_
        have hLL141 : ∀ (KK45 : Int32 → Int32 → Int32 → xS → Option (Int32 × xS)) (hKK46 : ∀ zz42 zz43 zz44 σ47, xM Γ D ad N Sh (xQI Γ D ad N Sh 1029 6174) (kk_11 + 99) (6 * kk_11 + 594) (KK45 zz42 zz43 zz44 σ47) σ47 217 [(0, .ref (ad oo1)), (1, .int zz2), (2, .int zz4), (3, .int zz13), (4, .int zz14), (5, .int zz15), (6, .int zz16), (7, .int zz42), (8, .int zz18), (9, .int zz31), (10, .int zz43), (11, .int zz44)] []), ∀ (nn_40 : Nat) zz34 zz35 zz36 zz37 zz38 σ39 (kk_32 : Nat), kk_32 + 12 * (nn_40 + 1) ≤ (kk_11 + 99) → xM Γ D ad N Sh (xQI Γ D ad N Sh 1029 6174) (kk_32 + 0) (6 * kk_32 + 0) (L_L_sound_86 oo1 zz4 zz18 zz31 KK45 nn_40 zz34 zz35 zz36 zz37 zz38 σ39) σ39 86 [(0, .ref (ad oo1)), (1, .int zz2), (2, .int zz4), (3, .int zz13), (4, .int zz14), (5, .int zz15), (6, .int zz16), (7, .int zz34), (8, .int zz18), (9, .int zz31), (10, .int zz35), (11, .int zz36), (12, .int zz37), (13, .int zz38)] [] := by
          intro KK45 hKK46 nn_40
          induction nn_40 with
          | zero => intro zz34 zz35 zz36 zz37 zz38 σ39 kk_32 _; exact xM_none
          | succ nn_40 ihh41 =>
            intro zz34 zz35 zz36 zz37 zz38 σ39 kk_32 hk_33
            rw [L_L_sound_86]
            refine xr_iload (pc := 86) X (i := 13) 13 rfl dL_sound_86 ?_
            refine xr_iload (pc := 88) X (i := 9) 9 rfl dL_sound_88 ?_
            refine xr_icmp_ge (pc := 90) X 217 (by decide) dL_sound_90 (fun _ => ?_) (fun _ => ?_)
            · exact x_sub [0, 1, 2, 3, 4, 5, 6, 7, 8, 9, 10, 11] rfl (x_wid (by omega) (by omega) (hKK46 _ _ _ _))
            refine xr_iload (pc := 93) X (i := 7) 7 rfl dL_sound_93 ?_
            refine xr_if_eq (pc := 95) X 217 (by decide) dL_sound_95 (fun _ => ?_) (fun _ => ?_)
            · exact x_sub [0, 1, 2, 3, 4, 5, 6, 7, 8, 9, 10, 11] rfl (x_wid (by omega) (by omega) (hKK46 _ _ _ _))
            refine xr_aload_n (pc := 98) X (i := 0) 0 rfl rfl dL_sound_98 ?_
            refine xr_iconst (pc := 99) X dL_sound_99 (v := 5) (by decide) ?_
            refine xr_iload (pc := 100) X (i := 8) 8 rfl dL_sound_100 ?_
            refine xr_iload (pc := 102) X (i := 13) 13 rfl dL_sound_102 ?_
            refine xr_iconst (pc := 104) X dL_sound_104 (v := 1) (by decide) ?_
            refine xr_callSI (na := 5) (pc := 105) X [.ref (ad oo1), .int 5, .int zz18, .int zz38, .int 1] (c_L_call Γ.2.1 hI hst oo1 hh1 5 zz18 zz38 1 σ39) (wG_S wm_5_23 wm_5_21 wm_5_22 wm_5_14) rfl rfl rfl (by decide +kernel) ⟨Nat.le_of_ble_eq_true rfl, Nat.le_of_ble_eq_true rfl⟩ rfl rfl (Nat.le_of_ble_eq_true rfl) ⟨(show _ ≤ 1029 by omega), (show _ ≤ 6174 by omega)⟩ dL_sound_105 (fun zz49 σ48 => ?_)
            refine xr_istore (pc := 108) X (i := 14) [1, 2, 3, 4, 5, 6, 7, 9, 10, 11, 12, 13, 14, 0] (Nat.le_of_ble_eq_true rfl) hnL rfl dL_sound_108 ?_
            refine xr_iload (pc := 110) X (i := 10) 9 rfl dL_sound_110 ?_
            refine xr_iload (pc := 112) X (i := 14) 13 rfl dL_sound_112 ?_
            refine xr_iload_n (pc := 114) X (i := 2) 2 rfl rfl dL_sound_114 ?_
            refine x_jn (fun (KK52 : Int32 → xS → Option (Int32 × xS)) => ∀ zz50 σ51, xM Γ D ad N Sh (xQI Γ D ad N Sh 1029 6174) (kk_32 + 6) (6 * kk_32 + 36) (KK52 zz50 σ51) σ51 132 [(0, .ref (ad oo1)), (1, .int zz2), (2, .int zz4), (3, .int zz13), (4, .int zz14), (5, .int zz15), (6, .int zz16), (8, .int zz18), (9, .int zz31), (11, .int zz36), (12, .int zz37), (13, .int zz38), (14, .int zz49)] [.int zz50, .int zz35]) (fun zz50 σ51 => ?_) (fun KK52 hKK53 => ?_)
            · refine xr_iadd (pc := 132) X dL_sound_132 ?_
              refine x_leti (fun zz56 => ?_)
              refine xr_istore (pc := 133) X (i := 10) [1, 2, 3, 4, 5, 6, 7, 8, 9, 0, 10, 11, 12, 13] (Nat.le_of_ble_eq_true rfl) hnL rfl dL_sound_133 ?_
              refine xr_iload (pc := 135) X (i := 11) 10 rfl dL_sound_135 ?_
              refine xr_iload (pc := 137) X (i := 14) 13 rfl dL_sound_137 ?_
              refine xr_iload_n (pc := 139) X (i := 2) 2 rfl rfl dL_sound_139 ?_
              refine x_jn (fun (KK59 : Int32 → xS → Option (Int32 × xS)) => ∀ zz57 σ58, xM Γ D ad N Sh (xQI Γ D ad N Sh 1029 6174) (kk_32 + 6) (6 * kk_32 + 36) (KK59 zz57 σ58) σ58 148 [(0, .ref (ad oo1)), (1, .int zz2), (2, .int zz4), (3, .int zz13), (4, .int zz14), (5, .int zz15), (6, .int zz16), (8, .int zz18), (9, .int zz31), (10, .int zz56), (12, .int zz37), (13, .int zz38), (14, .int zz49)] [.int zz57, .int zz36]) (fun zz57 σ58 => ?_) (fun KK59 hKK60 => ?_)
              · refine xr_iadd (pc := 148) X dL_sound_148 ?_
                refine x_leti (fun zz61 => ?_)
                refine xr_istore (pc := 149) X (i := 11) [1, 2, 3, 4, 5, 6, 7, 8, 9, 10, 0, 11, 12, 13] (Nat.le_of_ble_eq_true rfl) hnL rfl dL_sound_149 ?_
                refine xr_iload (pc := 151) X (i := 14) 13 rfl dL_sound_151 ?_
                refine xr_iload (pc := 153) X (i := 12) 11 rfl dL_sound_153 ?_
                refine x_jn (fun (KK63 : xS → Option (Int32 × xS)) => ∀ σ62, xM Γ D ad N Sh (xQI Γ D ad N Sh 1029 6174) (kk_32 + 12) (6 * kk_32 + 72) (KK63 σ62) σ62 204 [(0, .ref (ad oo1)), (1, .int zz2), (2, .int zz4), (3, .int zz13), (4, .int zz14), (5, .int zz15), (6, .int zz16), (8, .int zz18), (9, .int zz31), (10, .int zz56), (11, .int zz61), (13, .int zz38), (14, .int zz49)] []) (fun σ62 => ?_) (fun KK63 hKK64 => ?_)
                · refine xr_iconst (pc := 204) X dL_sound_204 (v := 0) (by decide) ?_
                  refine xr_istore (pc := 205) X (i := 7) [1, 2, 3, 4, 5, 6, 7, 0, 8, 9, 10, 11, 12, 13] (Nat.le_of_ble_eq_true rfl) hnL rfl dL_sound_205 ?_
                  refine xr_iload (pc := 207) X (i := 14) 13 rfl dL_sound_207 ?_
                  refine xr_istore (pc := 209) X (i := 12) [1, 2, 3, 4, 5, 6, 7, 8, 9, 10, 11, 12, 0, 13] (Nat.le_of_ble_eq_true rfl) hnL rfl dL_sound_209 ?_
                  refine xr_iinc (pc := 211) X (i := 13) (j := 13) [1, 2, 3, 4, 5, 6, 7, 8, 9, 10, 11, 12, 13, 0] (Nat.le_of_ble_eq_true rfl) hnL rfl rfl (fun zz70 => [(0, .ref (ad oo1)), (1, .int zz2), (2, .int zz4), (3, .int zz13), (4, .int zz14), (5, .int zz15), (6, .int zz16), (7, .int 0), (8, .int zz18), (9, .int zz31), (10, .int zz56), (11, .int zz61), (12, .int zz49), (13, .int zz70)]) (fun _ => rfl) dL_sound_211 (fun zz70 => ?_)
                  refine xr_goto (pc := 214) X 86 (by decide) dL_sound_214 ?_
                  exact x_wid (k2 := (kk_32 + 12)) (n2 := 6 * ((kk_32 + 12))) (by omega) (by omega) (ihh41 _ _ _ _ _ _ (kk_32 + 12) (by omega))
                refine xr_icmp_lt (pc := 155) X 204 (by decide) dL_sound_155 (fun _ => ?_) (fun _ => ?_)
                · exact x_sub [0, 1, 2, 3, 4, 5, 6, 7, 8, 9, 10, 12, 13] rfl (x_wid (by omega) (by omega) (hKK64  _))
                refine xr_aload_n (pc := 158) X (i := 0) 0 rfl rfl dL_sound_158 ?_
                refine xr_iconst (pc := 159) X dL_sound_159 (v := 5) (by decide) ?_
                refine xr_iload (pc := 160) X (i := 8) 7 rfl dL_sound_160 ?_
                refine xr_iload (pc := 162) X (i := 13) 12 rfl dL_sound_162 ?_
                refine xr_iconst (pc := 164) X dL_sound_164 (v := 0) (by decide) ?_
                refine xr_callSI (na := 5) (pc := 165) X [.ref (ad oo1), .int 5, .int zz18, .int zz38, .int 0] (c_L_call Γ.2.1 hI hst oo1 hh1 5 zz18 zz38 0 σ58) (wG_S wm_5_23 wm_5_21 wm_5_22 wm_5_14) rfl rfl rfl (by decide +kernel) ⟨Nat.le_of_ble_eq_true rfl, Nat.le_of_ble_eq_true rfl⟩ rfl rfl (Nat.le_of_ble_eq_true rfl) ⟨(show _ ≤ 1029 by omega), (show _ ≤ 6174 by omega)⟩ dL_sound_165 (fun zz66 σ65 => ?_)
                refine xr_if_le (pc := 168) X 204 (by decide) dL_sound_168 (fun _ => ?_) (fun _ => ?_)
                · exact x_sub [0, 1, 2, 3, 4, 5, 6, 7, 8, 9, 10, 12, 13] rfl (x_wid (by omega) (by omega) (hKK64  _))
                refine xr_aload_n (pc := 171) X (i := 0) 0 rfl rfl dL_sound_171 ?_
                refine xr_iconst (pc := 172) X dL_sound_172 (v := 5) (by decide) ?_
                refine xr_iload (pc := 173) X (i := 8) 7 rfl dL_sound_173 ?_
                refine xr_iload (pc := 175) X (i := 13) 12 rfl dL_sound_175 ?_
                refine xr_iconst (pc := 177) X dL_sound_177 (v := 0) (by decide) ?_
                refine xr_callSI (na := 5) (pc := 178) X [.ref (ad oo1), .int 5, .int zz18, .int zz38, .int 0] (c_L_call Γ.2.1 hI hst oo1 hh1 5 zz18 zz38 0 σ65) (wG_S wm_5_23 wm_5_21 wm_5_22 wm_5_14) rfl rfl rfl (by decide +kernel) ⟨Nat.le_of_ble_eq_true rfl, Nat.le_of_ble_eq_true rfl⟩ rfl rfl (Nat.le_of_ble_eq_true rfl) ⟨(show _ ≤ 1029 by omega), (show _ ≤ 6174 by omega)⟩ dL_sound_178 (fun zz68 σ67 => ?_)
                refine xr_bipush (pc := 181) X dL_sound_181 (v := 100) (by decide) ?_
                refine xr_icmp_ge (pc := 183) X 204 (by decide) dL_sound_183 (fun _ => ?_) (fun _ => ?_)
                · exact x_sub [0, 1, 2, 3, 4, 5, 6, 7, 8, 9, 10, 12, 13] rfl (x_wid (by omega) (by omega) (hKK64  _))
                refine xr_iload (pc := 186) X (i := 14) 13 rfl dL_sound_186 ?_
                refine xr_iload_n (pc := 188) X (i := 2) 2 rfl rfl dL_sound_188 ?_
                refine xr_bipush (pc := 189) X dL_sound_189 (v := 9) (by decide) ?_
                refine xr_iadd (pc := 191) X dL_sound_191 ?_
                refine xr_icmp_gt (pc := 192) X 204 (by decide) dL_sound_192 (fun _ => ?_) (fun _ => ?_)
                · exact x_sub [0, 1, 2, 3, 4, 5, 6, 7, 8, 9, 10, 12, 13] rfl (x_wid (by omega) (by omega) (hKK64  _))
                refine xr_iload (pc := 195) X (i := 14) 13 rfl dL_sound_195 ?_
                refine xr_if_le (pc := 197) X 204 (by decide) dL_sound_197 (fun _ => ?_) (fun _ => ?_)
                · exact x_sub [0, 1, 2, 3, 4, 5, 6, 7, 8, 9, 10, 12, 13] rfl (x_wid (by omega) (by omega) (hKK64  _))
                refine xr_iconst (pc := 200) X dL_sound_200 (v := 1) (by decide) ?_
                refine xr_goto (pc := 201) X 205 (by decide) dL_sound_201 ?_
                refine xr_istore (pc := 205) X (i := 7) [1, 2, 3, 4, 5, 6, 7, 0, 8, 9, 10, 11, 13, 14] (Nat.le_of_ble_eq_true rfl) hnL rfl dL_sound_205 ?_
                refine xr_iload (pc := 207) X (i := 14) 13 rfl dL_sound_207 ?_
                refine xr_istore (pc := 209) X (i := 12) [1, 2, 3, 4, 5, 6, 7, 8, 9, 10, 11, 12, 0, 13] (Nat.le_of_ble_eq_true rfl) hnL rfl dL_sound_209 ?_
                refine xr_iinc (pc := 211) X (i := 13) (j := 13) [1, 2, 3, 4, 5, 6, 7, 8, 9, 10, 11, 12, 13, 0] (Nat.le_of_ble_eq_true rfl) hnL rfl rfl (fun zz69 => [(0, .ref (ad oo1)), (1, .int zz2), (2, .int zz4), (3, .int zz13), (4, .int zz14), (5, .int zz15), (6, .int zz16), (7, .int 1), (8, .int zz18), (9, .int zz31), (10, .int zz56), (11, .int zz61), (12, .int zz49), (13, .int zz69)]) (fun _ => rfl) dL_sound_211 (fun zz69 => ?_)
                refine xr_goto (pc := 214) X 86 (by decide) dL_sound_214 ?_
                exact x_wid (k2 := (kk_32 + 12)) (n2 := 6 * ((kk_32 + 12))) (by omega) (by omega) (ihh41 _ _ _ _ _ _ (kk_32 + 12) (by omega))
              refine xr_icmp_le (pc := 140) X 147 (by decide) dL_sound_140 (fun _ => ?_) (fun _ => ?_)
              · refine xr_iconst (pc := 147) X dL_sound_147 (v := 0) (by decide) ?_
                exact x_sub [0, 1, 2, 3, 4, 5, 6, 7, 8, 9, 11, 12, 13] rfl (x_wid (by omega) (by omega) (hKK60 _ _))
              refine xr_iconst (pc := 143) X dL_sound_143 (v := 1) (by decide) ?_
              refine xr_goto (pc := 144) X 148 (by decide) dL_sound_144 ?_
              exact x_sub [0, 1, 2, 3, 4, 5, 6, 7, 8, 9, 11, 12, 13] rfl (x_wid (by omega) (by omega) (hKK60 _ _))
            refine xr_icmp_le (pc := 115) X 131 (by decide) dL_sound_115 (fun _ => ?_) (fun _ => ?_)
            · refine xr_iconst (pc := 131) X dL_sound_131 (v := 0) (by decide) ?_
              exact x_sub [0, 1, 2, 3, 4, 5, 6, 7, 8, 10, 11, 12, 13] rfl (x_wid (by omega) (by omega) (hKK53 _ _))
            refine xr_aload_n (pc := 118) X (i := 0) 0 rfl rfl dL_sound_118 ?_
            refine xr_iconst (pc := 119) X dL_sound_119 (v := 5) (by decide) ?_
            refine xr_iload (pc := 120) X (i := 8) 7 rfl dL_sound_120 ?_
            refine xr_iload (pc := 122) X (i := 13) 12 rfl dL_sound_122 ?_
            refine xr_iconst (pc := 124) X dL_sound_124 (v := 0) (by decide) ?_
            refine xr_callSI (na := 5) (pc := 125) X [.ref (ad oo1), .int 5, .int zz18, .int zz38, .int 0] (c_L_call Γ.2.1 hI hst oo1 hh1 5 zz18 zz38 0 σ48) (wG_S wm_5_23 wm_5_21 wm_5_22 wm_5_14) rfl rfl rfl (by decide +kernel) ⟨Nat.le_of_ble_eq_true rfl, Nat.le_of_ble_eq_true rfl⟩ rfl rfl (Nat.le_of_ble_eq_true rfl) ⟨(show _ ≤ 1029 by omega), (show _ ≤ 6174 by omega)⟩ dL_sound_125 (fun zz55 σ54 => ?_)
            refine xr_goto (pc := 128) X 132 (by decide) dL_sound_128 ?_
            exact x_sub [0, 1, 2, 3, 4, 5, 6, 7, 8, 10, 11, 12, 13] rfl (x_wid (by omega) (by omega) (hKK53 _ _))
        refine x_wid (k2 := (kk_11 + 3)) (n2 := 6 * ((kk_11 + 3))) (by omega) (by omega) (hLL141 _ (fun zz42 zz43 zz44 σ47 => ?_) _ _ _ _ _ _ _ (kk_11 + 3) (by omega))
        refine xr_aload_n (pc := 217) X (i := 0) 0 rfl rfl dL_sound_217 ?_
        refine xr_iconst (pc := 218) X dL_sound_218 (v := 4) (by decide) ?_
        refine xr_iload (pc := 219) X (i := 8) 8 rfl dL_sound_219 ?_
        refine xr_iconst (pc := 221) X dL_sound_221 (v := 2) (by decide) ?_
        refine xr_iconst (pc := 222) X dL_sound_222 (v := 0) (by decide) ?_
        refine xr_callSI (na := 5) (pc := 223) X [.ref (ad oo1), .int 4, .int zz18, .int 2, .int 0] (c_L_call Γ.2.1 hI hst oo1 hh1 4 zz18 2 0 σ47) (wG_S wm_5_23 wm_5_21 wm_5_22 wm_5_14) rfl rfl rfl (by decide +kernel) ⟨Nat.le_of_ble_eq_true rfl, Nat.le_of_ble_eq_true rfl⟩ rfl rfl (Nat.le_of_ble_eq_true rfl) ⟨(show _ ≤ 1029 by omega), (show _ ≤ 6174 by omega)⟩ dL_sound_223 (fun zz72 σ71 => ?_)
        refine xr_istore (pc := 226) X (i := 13) [1, 2, 3, 4, 5, 6, 7, 8, 9, 10, 11, 12, 0] (Nat.le_of_ble_eq_true rfl) hnL rfl dL_sound_226 ?_
        refine xr_aload_n (pc := 228) X (i := 0) 0 rfl rfl dL_sound_228 ?_
        refine xr_iconst (pc := 229) X dL_sound_229 (v := 4) (by decide) ?_
        refine xr_iload (pc := 230) X (i := 8) 8 rfl dL_sound_230 ?_
        refine xr_iconst (pc := 232) X dL_sound_232 (v := 3) (by decide) ?_
        refine xr_iconst (pc := 233) X dL_sound_233 (v := 0) (by decide) ?_
        refine xr_callSI (na := 5) (pc := 234) X [.ref (ad oo1), .int 4, .int zz18, .int 3, .int 0] (c_L_call Γ.2.1 hI hst oo1 hh1 4 zz18 3 0 σ71) (wG_S wm_5_23 wm_5_21 wm_5_22 wm_5_14) rfl rfl rfl (by decide +kernel) ⟨Nat.le_of_ble_eq_true rfl, Nat.le_of_ble_eq_true rfl⟩ rfl rfl (Nat.le_of_ble_eq_true rfl) ⟨(show _ ≤ 1029 by omega), (show _ ≤ 6174 by omega)⟩ dL_sound_234 (fun zz74 σ73 => ?_)
        refine xr_istore (pc := 237) X (i := 14) [1, 2, 3, 4, 5, 6, 7, 8, 9, 10, 11, 12, 13, 0] (Nat.le_of_ble_eq_true rfl) hnL rfl dL_sound_237 ?_
        refine xr_iload_n (pc := 239) X (i := 3) 3 rfl rfl dL_sound_239 ?_
        refine xr_aload_n (pc := 240) X (i := 0) 0 rfl rfl dL_sound_240 ?_
        refine xr_iconst (pc := 241) X dL_sound_241 (v := 3) (by decide) ?_
        refine xr_iload (pc := 242) X (i := 8) 8 rfl dL_sound_242 ?_
        refine xr_iconst (pc := 244) X dL_sound_244 (v := 0) (by decide) ?_
        refine xr_iconst (pc := 245) X dL_sound_245 (v := 0) (by decide) ?_
        refine xr_callSI (na := 5) (pc := 246) X [.ref (ad oo1), .int 3, .int zz18, .int 0, .int 0] (c_L_call Γ.2.1 hI hst oo1 hh1 3 zz18 0 0 σ73) (wG_S wm_5_23 wm_5_21 wm_5_22 wm_5_14) rfl rfl rfl (by decide +kernel) ⟨Nat.le_of_ble_eq_true rfl, Nat.le_of_ble_eq_true rfl⟩ rfl rfl (Nat.le_of_ble_eq_true rfl) ⟨(show _ ≤ 1029 by omega), (show _ ≤ 6174 by omega)⟩ dL_sound_246 (fun zz76 σ75 => ?_)
        refine xr_iadd (pc := 249) X dL_sound_249 ?_
        refine x_leti (fun zz77 => ?_)
        refine xr_istore_n (pc := 250) X (hf := rfl) (i := 3) [1, 2, 3, 0, 4, 5, 6, 7, 8, 9, 10, 11, 12, 13] (Nat.le_of_ble_eq_true rfl) hnL rfl dL_sound_250 ?_
        refine xr_iload (pc := 251) X (i := 4) 4 rfl dL_sound_251 ?_
        refine xr_iload (pc := 253) X (i := 9) 9 rfl dL_sound_253 ?_
        refine xr_iadd (pc := 255) X dL_sound_255 ?_
        refine x_leti (fun zz78 => ?_)
        refine xr_istore (pc := 256) X (i := 4) [1, 2, 3, 4, 0, 5, 6, 7, 8, 9, 10, 11, 12, 13] (Nat.le_of_ble_eq_true rfl) hnL rfl dL_sound_256 ?_
        refine xr_iload (pc := 258) X (i := 5) 5 rfl dL_sound_258 ?_
        refine xr_aload_n (pc := 260) X (i := 0) 0 rfl rfl dL_sound_260 ?_
        refine xr_iconst (pc := 261) X dL_sound_261 (v := 3) (by decide) ?_
        refine xr_iload (pc := 262) X (i := 8) 8 rfl dL_sound_262 ?_
        refine xr_iconst (pc := 264) X dL_sound_264 (v := 4) (by decide) ?_
        refine xr_iconst (pc := 265) X dL_sound_265 (v := 0) (by decide) ?_
        refine xr_callSI (na := 5) (pc := 266) X [.ref (ad oo1), .int 3, .int zz18, .int 4, .int 0] (c_L_call Γ.2.1 hI hst oo1 hh1 3 zz18 4 0 σ75) (wG_S wm_5_23 wm_5_21 wm_5_22 wm_5_14) rfl rfl rfl (by decide +kernel) ⟨Nat.le_of_ble_eq_true rfl, Nat.le_of_ble_eq_true rfl⟩ rfl rfl (Nat.le_of_ble_eq_true rfl) ⟨(show _ ≤ 1029 by omega), (show _ ≤ 6174 by omega)⟩ dL_sound_266 (fun zz80 σ79 => ?_)
        refine xr_iadd (pc := 269) X dL_sound_269 ?_
        refine x_leti (fun zz81 => ?_)
        refine xr_istore (pc := 270) X (i := 5) [1, 2, 3, 4, 5, 0, 6, 7, 8, 9, 10, 11, 12, 13] (Nat.le_of_ble_eq_true rfl) hnL rfl dL_sound_270 ?_
        refine xr_iload (pc := 272) X (i := 6) 6 rfl dL_sound_272 ?_
        refine xr_aload_n (pc := 274) X (i := 0) 0 rfl rfl dL_sound_274 ?_
        refine xr_iconst (pc := 275) X dL_sound_275 (v := 4) (by decide) ?_
        refine xr_iload (pc := 276) X (i := 8) 8 rfl dL_sound_276 ?_
        refine xr_iconst (pc := 278) X dL_sound_278 (v := 0) (by decide) ?_
        refine xr_iconst (pc := 279) X dL_sound_279 (v := 0) (by decide) ?_
        refine xr_callSI (na := 5) (pc := 280) X [.ref (ad oo1), .int 4, .int zz18, .int 0, .int 0] (c_L_call Γ.2.1 hI hst oo1 hh1 4 zz18 0 0 σ79) (wG_S wm_5_23 wm_5_21 wm_5_22 wm_5_14) rfl rfl rfl (by decide +kernel) ⟨Nat.le_of_ble_eq_true rfl, Nat.le_of_ble_eq_true rfl⟩ rfl rfl (Nat.le_of_ble_eq_true rfl) ⟨(show _ ≤ 1029 by omega), (show _ ≤ 6174 by omega)⟩ dL_sound_280 (fun zz83 σ82 => ?_)
        refine xr_iadd (pc := 283) X dL_sound_283 ?_
        refine x_leti (fun zz84 => ?_)
        refine xr_istore (pc := 284) X (i := 6) [1, 2, 3, 4, 5, 6, 0, 7, 8, 9, 10, 11, 12, 13] (Nat.le_of_ble_eq_true rfl) hnL rfl dL_sound_284 ?_
        refine xr_iload (pc := 286) X (i := 7) 7 rfl dL_sound_286 ?_
        refine xr_if_eq (pc := 288) X 519 (by decide) dL_sound_288 (fun _ => ?_) (fun _ => ?_)
        · refine xr_iconst (pc := 519) X dL_sound_519 (v := 0) (by decide) ?_
          refine xr_istore (pc := 520) X (i := 7) [1, 2, 3, 4, 5, 6, 7, 0, 8] (Nat.le_of_ble_eq_true rfl) hnL rfl dL_sound_520 ?_
          refine xr_iinc (pc := 522) X (i := 8) (j := 8) [1, 2, 3, 4, 5, 6, 7, 8, 0] (Nat.le_of_ble_eq_true rfl) hnL rfl rfl (fun zz85 => [(0, .ref (ad oo1)), (1, .int zz2), (2, .int zz4), (3, .int zz77), (4, .int zz78), (5, .int zz81), (6, .int zz84), (7, .int 0), (8, .int zz85)]) (fun _ => rfl) dL_sound_522 (fun zz85 => ?_)
          refine xr_goto (pc := 525) X 52 (by decide) dL_sound_525 ?_
          exact x_wid (k2 := (kk_11 + 114)) (n2 := 6 * ((kk_11 + 114))) (by omega) (by omega) (ihh21 _ _ _ _ _ _ _ (kk_11 + 114) (by omega))
        refine xr_aload_n (pc := 291) X (i := 0) 0 rfl rfl dL_sound_291 ?_
        refine xr_iconst (pc := 292) X dL_sound_292 (v := 3) (by decide) ?_
        refine xr_iload (pc := 293) X (i := 8) 8 rfl dL_sound_293 ?_
        refine xr_iconst (pc := 295) X dL_sound_295 (v := 3) (by decide) ?_
        refine xr_iconst (pc := 296) X dL_sound_296 (v := 0) (by decide) ?_
        refine xr_callSI (na := 5) (pc := 297) X [.ref (ad oo1), .int 3, .int zz18, .int 3, .int 0] (c_L_call Γ.2.1 hI hst oo1 hh1 3 zz18 3 0 σ82) (wG_S wm_5_23 wm_5_21 wm_5_22 wm_5_14) rfl rfl rfl (by decide +kernel) ⟨Nat.le_of_ble_eq_true rfl, Nat.le_of_ble_eq_true rfl⟩ rfl rfl (Nat.le_of_ble_eq_true rfl) ⟨(show _ ≤ 1029 by omega), (show _ ≤ 6174 by omega)⟩ dL_sound_297 (fun zz87 σ86 => ?_)
        refine xr_aload_n (pc := 300) X (i := 0) 0 rfl rfl dL_sound_300 ?_
        refine xr_iconst (pc := 301) X dL_sound_301 (v := 3) (by decide) ?_
        refine xr_iload (pc := 302) X (i := 8) 8 rfl dL_sound_302 ?_
        refine xr_iconst (pc := 304) X dL_sound_304 (v := 0) (by decide) ?_
        refine xr_iconst (pc := 305) X dL_sound_305 (v := 0) (by decide) ?_
        refine xr_callSI (na := 5) (pc := 306) X [.ref (ad oo1), .int 3, .int zz18, .int 0, .int 0] (c_L_call Γ.2.1 hI hst oo1 hh1 3 zz18 0 0 σ86) (wG_S wm_5_23 wm_5_21 wm_5_22 wm_5_14) rfl rfl rfl (by decide +kernel) ⟨Nat.le_of_ble_eq_true rfl, Nat.le_of_ble_eq_true rfl⟩ rfl rfl (Nat.le_of_ble_eq_true rfl) ⟨(show _ ≤ 1029 by omega), (show _ ≤ 6174 by omega)⟩ dL_sound_306 (fun zz89 σ88 => ?_)
        refine xr_iload (pc := 309) X (i := 10) 10 rfl dL_sound_309 ?_
        refine xr_iadd (pc := 311) X dL_sound_311 ?_
        refine xr_aload_n (pc := 312) X (i := 0) 0 rfl rfl dL_sound_312 ?_
        refine xr_iconst (pc := 313) X dL_sound_313 (v := 4) (by decide) ?_
        refine xr_iload (pc := 314) X (i := 8) 8 rfl dL_sound_314 ?_
        refine xr_iconst (pc := 316) X dL_sound_316 (v := 0) (by decide) ?_
        refine xr_iconst (pc := 317) X dL_sound_317 (v := 0) (by decide) ?_
        refine xr_callSI (na := 5) (pc := 318) X [.ref (ad oo1), .int 4, .int zz18, .int 0, .int 0] (c_L_call Γ.2.1 hI hst oo1 hh1 4 zz18 0 0 σ88) (wG_S wm_5_23 wm_5_21 wm_5_22 wm_5_14) rfl rfl rfl (by decide +kernel) ⟨Nat.le_of_ble_eq_true rfl, Nat.le_of_ble_eq_true rfl⟩ rfl rfl (Nat.le_of_ble_eq_true rfl) ⟨(show _ ≤ 1029 by omega), (show _ ≤ 6174 by omega)⟩ dL_sound_318 (fun zz91 σ90 => ?_)
        refine xr_iadd (pc := 321) X dL_sound_321 ?_
        refine xr_icmp_ne (pc := 322) X 519 (by decide) dL_sound_322 (fun _ => ?_) (fun _ => ?_)
        · refine xr_iconst (pc := 519) X dL_sound_519 (v := 0) (by decide) ?_
          refine xr_istore (pc := 520) X (i := 7) [1, 2, 3, 4, 5, 6, 7, 0, 8] (Nat.le_of_ble_eq_true rfl) hnL rfl dL_sound_520 ?_
          refine xr_iinc (pc := 522) X (i := 8) (j := 8) [1, 2, 3, 4, 5, 6, 7, 8, 0] (Nat.le_of_ble_eq_true rfl) hnL rfl rfl (fun zz92 => [(0, .ref (ad oo1)), (1, .int zz2), (2, .int zz4), (3, .int zz77), (4, .int zz78), (5, .int zz81), (6, .int zz84), (7, .int 0), (8, .int zz92)]) (fun _ => rfl) dL_sound_522 (fun zz92 => ?_)
          refine xr_goto (pc := 525) X 52 (by decide) dL_sound_525 ?_
          exact x_wid (k2 := (kk_11 + 123)) (n2 := 6 * ((kk_11 + 123))) (by omega) (by omega) (ihh21 _ _ _ _ _ _ _ (kk_11 + 123) (by omega))
        refine xr_aload_n (pc := 325) X (i := 0) 0 rfl rfl dL_sound_325 ?_
        refine xr_iconst (pc := 326) X dL_sound_326 (v := 3) (by decide) ?_
        refine xr_iload (pc := 327) X (i := 8) 8 rfl dL_sound_327 ?_
        refine xr_iconst (pc := 329) X dL_sound_329 (v := 4) (by decide) ?_
        refine xr_iconst (pc := 330) X dL_sound_330 (v := 0) (by decide) ?_
        refine xr_callSI (na := 5) (pc := 331) X [.ref (ad oo1), .int 3, .int zz18, .int 4, .int 0] (c_L_call Γ.2.1 hI hst oo1 hh1 3 zz18 4 0 σ90) (wG_S wm_5_23 wm_5_21 wm_5_22 wm_5_14) rfl rfl rfl (by decide +kernel) ⟨Nat.le_of_ble_eq_true rfl, Nat.le_of_ble_eq_true rfl⟩ rfl rfl (Nat.le_of_ble_eq_true rfl) ⟨(show _ ≤ 1029 by omega), (show _ ≤ 6174 by omega)⟩ dL_sound_331 (fun zz94 σ93 => ?_)
        refine xr_aload_n (pc := 334) X (i := 0) 0 rfl rfl dL_sound_334 ?_
        refine xr_iconst (pc := 335) X dL_sound_335 (v := 3) (by decide) ?_
        refine xr_iload (pc := 336) X (i := 8) 8 rfl dL_sound_336 ?_
        refine xr_bipush (pc := 338) X dL_sound_338 (v := 6) (by decide) ?_
        refine xr_iconst (pc := 340) X dL_sound_340 (v := 0) (by decide) ?_
        refine xr_callSI (na := 5) (pc := 341) X [.ref (ad oo1), .int 3, .int zz18, .int 6, .int 0] (c_L_call Γ.2.1 hI hst oo1 hh1 3 zz18 6 0 σ93) (wG_S wm_5_23 wm_5_21 wm_5_22 wm_5_14) rfl rfl rfl (by decide +kernel) ⟨Nat.le_of_ble_eq_true rfl, Nat.le_of_ble_eq_true rfl⟩ rfl rfl (Nat.le_of_ble_eq_true rfl) ⟨(show _ ≤ 1029 by omega), (show _ ≤ 6174 by omega)⟩ dL_sound_341 (fun zz96 σ95 => ?_)
        refine xr_iload (pc := 344) X (i := 9) 9 rfl dL_sound_344 ?_
        refine xr_iadd (pc := 346) X dL_sound_346 ?_
        refine xr_icmp_ne (pc := 347) X 519 (by decide) dL_sound_347 (fun _ => ?_) (fun _ => ?_)
        · refine xr_iconst (pc := 519) X dL_sound_519 (v := 0) (by decide) ?_
          refine xr_istore (pc := 520) X (i := 7) [1, 2, 3, 4, 5, 6, 7, 0, 8] (Nat.le_of_ble_eq_true rfl) hnL rfl dL_sound_520 ?_
          refine xr_iinc (pc := 522) X (i := 8) (j := 8) [1, 2, 3, 4, 5, 6, 7, 8, 0] (Nat.le_of_ble_eq_true rfl) hnL rfl rfl (fun zz97 => [(0, .ref (ad oo1)), (1, .int zz2), (2, .int zz4), (3, .int zz77), (4, .int zz78), (5, .int zz81), (6, .int zz84), (7, .int 0), (8, .int zz97)]) (fun _ => rfl) dL_sound_522 (fun zz97 => ?_)
          refine xr_goto (pc := 525) X 52 (by decide) dL_sound_525 ?_
          exact x_wid (k2 := (kk_11 + 129)) (n2 := 6 * ((kk_11 + 129))) (by omega) (by omega) (ihh21 _ _ _ _ _ _ _ (kk_11 + 129) (by omega))
        refine xr_aload_n (pc := 350) X (i := 0) 0 rfl rfl dL_sound_350 ?_
        refine xr_iconst (pc := 351) X dL_sound_351 (v := 3) (by decide) ?_
        refine xr_iload (pc := 352) X (i := 8) 8 rfl dL_sound_352 ?_
        refine xr_iconst (pc := 354) X dL_sound_354 (v := 4) (by decide) ?_
        refine xr_iconst (pc := 355) X dL_sound_355 (v := 0) (by decide) ?_
        refine xr_callSI (na := 5) (pc := 356) X [.ref (ad oo1), .int 3, .int zz18, .int 4, .int 0] (c_L_call Γ.2.1 hI hst oo1 hh1 3 zz18 4 0 σ95) (wG_S wm_5_23 wm_5_21 wm_5_22 wm_5_14) rfl rfl rfl (by decide +kernel) ⟨Nat.le_of_ble_eq_true rfl, Nat.le_of_ble_eq_true rfl⟩ rfl rfl (Nat.le_of_ble_eq_true rfl) ⟨(show _ ≤ 1029 by omega), (show _ ≤ 6174 by omega)⟩ dL_sound_356 (fun zz99 σ98 => ?_)
        refine xr_aload_n (pc := 359) X (i := 0) 0 rfl rfl dL_sound_359 ?_
        refine xr_iconst (pc := 360) X dL_sound_360 (v := 4) (by decide) ?_
        refine xr_iload (pc := 361) X (i := 8) 8 rfl dL_sound_361 ?_
        refine xr_iconst (pc := 363) X dL_sound_363 (v := 1) (by decide) ?_
        refine xr_iconst (pc := 364) X dL_sound_364 (v := 0) (by decide) ?_
        refine xr_callSI (na := 5) (pc := 365) X [.ref (ad oo1), .int 4, .int zz18, .int 1, .int 0] (c_L_call Γ.2.1 hI hst oo1 hh1 4 zz18 1 0 σ98) (wG_S wm_5_23 wm_5_21 wm_5_22 wm_5_14) rfl rfl rfl (by decide +kernel) ⟨Nat.le_of_ble_eq_true rfl, Nat.le_of_ble_eq_true rfl⟩ rfl rfl (Nat.le_of_ble_eq_true rfl) ⟨(show _ ≤ 1029 by omega), (show _ ≤ 6174 by omega)⟩ dL_sound_365 (fun zz101 σ100 => ?_)
        refine xr_iload (pc := 368) X (i := 11) 11 rfl dL_sound_368 ?_
        refine xr_iadd (pc := 370) X dL_sound_370 ?_
        refine xr_icmp_ne (pc := 371) X 519 (by decide) dL_sound_371 (fun _ => ?_) (fun _ => ?_)
        · refine xr_iconst (pc := 519) X dL_sound_519 (v := 0) (by decide) ?_
          refine xr_istore (pc := 520) X (i := 7) [1, 2, 3, 4, 5, 6, 7, 0, 8] (Nat.le_of_ble_eq_true rfl) hnL rfl dL_sound_520 ?_
          refine xr_iinc (pc := 522) X (i := 8) (j := 8) [1, 2, 3, 4, 5, 6, 7, 8, 0] (Nat.le_of_ble_eq_true rfl) hnL rfl rfl (fun zz102 => [(0, .ref (ad oo1)), (1, .int zz2), (2, .int zz4), (3, .int zz77), (4, .int zz78), (5, .int zz81), (6, .int zz84), (7, .int 0), (8, .int zz102)]) (fun _ => rfl) dL_sound_522 (fun zz102 => ?_)
          refine xr_goto (pc := 525) X 52 (by decide) dL_sound_525 ?_
          exact x_wid (k2 := (kk_11 + 135)) (n2 := 6 * ((kk_11 + 135))) (by omega) (by omega) (ihh21 _ _ _ _ _ _ _ (kk_11 + 135) (by omega))
        refine xr_iload (pc := 374) X (i := 13) 12 rfl dL_sound_374 ?_
        refine xr_if_lt (pc := 376) X 519 (by decide) dL_sound_376 (fun _ => ?_) (fun _ => ?_)
        · refine xr_iconst (pc := 519) X dL_sound_519 (v := 0) (by decide) ?_
          refine xr_istore (pc := 520) X (i := 7) [1, 2, 3, 4, 5, 6, 7, 0, 8] (Nat.le_of_ble_eq_true rfl) hnL rfl dL_sound_520 ?_
          refine xr_iinc (pc := 522) X (i := 8) (j := 8) [1, 2, 3, 4, 5, 6, 7, 8, 0] (Nat.le_of_ble_eq_true rfl) hnL rfl rfl (fun zz103 => [(0, .ref (ad oo1)), (1, .int zz2), (2, .int zz4), (3, .int zz77), (4, .int zz78), (5, .int zz81), (6, .int zz84), (7, .int 0), (8, .int zz103)]) (fun _ => rfl) dL_sound_522 (fun zz103 => ?_)
          refine xr_goto (pc := 525) X 52 (by decide) dL_sound_525 ?_
          exact x_wid (k2 := (kk_11 + 135)) (n2 := 6 * ((kk_11 + 135))) (by omega) (by omega) (ihh21 _ _ _ _ _ _ _ (kk_11 + 135) (by omega))
        refine xr_iload (pc := 379) X (i := 13) 12 rfl dL_sound_379 ?_
        refine xr_iconst (pc := 381) X dL_sound_381 (v := 2) (by decide) ?_
        refine xr_icmp_ge (pc := 382) X 519 (by decide) dL_sound_382 (fun _ => ?_) (fun _ => ?_)
        · refine xr_iconst (pc := 519) X dL_sound_519 (v := 0) (by decide) ?_
          refine xr_istore (pc := 520) X (i := 7) [1, 2, 3, 4, 5, 6, 7, 0, 8] (Nat.le_of_ble_eq_true rfl) hnL rfl dL_sound_520 ?_
          refine xr_iinc (pc := 522) X (i := 8) (j := 8) [1, 2, 3, 4, 5, 6, 7, 8, 0] (Nat.le_of_ble_eq_true rfl) hnL rfl rfl (fun zz104 => [(0, .ref (ad oo1)), (1, .int zz2), (2, .int zz4), (3, .int zz77), (4, .int zz78), (5, .int zz81), (6, .int zz84), (7, .int 0), (8, .int zz104)]) (fun _ => rfl) dL_sound_522 (fun zz104 => ?_)
          refine xr_goto (pc := 525) X 52 (by decide) dL_sound_525 ?_
          exact x_wid (k2 := (kk_11 + 135)) (n2 := 6 * ((kk_11 + 135))) (by omega) (by omega) (ihh21 _ _ _ _ _ _ _ (kk_11 + 135) (by omega))
        refine xr_iload (pc := 385) X (i := 13) 12 rfl dL_sound_385 ?_
        refine x_jn (fun (KK107 : Int32 → xS → Option (Int32 × xS)) => ∀ zz105 σ106, xM Γ D ad N Sh (xQI Γ D ad N Sh 1029 6174) (kk_11 + 135) (6 * kk_11 + 810) (KK107 zz105 σ106) σ106 395 [(0, .ref (ad oo1)), (1, .int zz2), (2, .int zz4), (3, .int zz77), (4, .int zz78), (5, .int zz81), (6, .int zz84), (8, .int zz18), (9, .int zz31), (14, .int zz74)] [.int zz105]) (fun zz105 σ106 => ?_) (fun KK107 hKK108 => ?_)
        · refine xr_iload (pc := 395) X (i := 14) 9 rfl dL_sound_395 ?_
          refine xr_iconst (pc := 397) X dL_sound_397 (v := (-1)) (by decide) ?_
          refine x_jn (fun (KK111 : Int32 → xS → Option (Int32 × xS)) => ∀ zz109 σ110, xM Γ D ad N Sh (xQI Γ D ad N Sh 1029 6174) (kk_11 + 135) (6 * kk_11 + 810) (KK111 zz109 σ110) σ110 406 [(0, .ref (ad oo1)), (1, .int zz2), (2, .int zz4), (3, .int zz77), (4, .int zz78), (5, .int zz81), (6, .int zz84), (8, .int zz18), (9, .int zz31), (14, .int zz74)] [.int zz109, .int zz105]) (fun zz109 σ110 => ?_) (fun KK111 hKK112 => ?_)
          · refine xr_icmp_ne (pc := 406) X 519 (by decide) dL_sound_406 (fun _ => ?_) (fun _ => ?_)
            · refine xr_iconst (pc := 519) X dL_sound_519 (v := 0) (by decide) ?_
              refine xr_istore (pc := 520) X (i := 7) [1, 2, 3, 4, 5, 6, 7, 0, 8] (Nat.le_of_ble_eq_true rfl) hnL rfl dL_sound_520 ?_
              refine xr_iinc (pc := 522) X (i := 8) (j := 8) [1, 2, 3, 4, 5, 6, 7, 8, 0] (Nat.le_of_ble_eq_true rfl) hnL rfl rfl (fun zz113 => [(0, .ref (ad oo1)), (1, .int zz2), (2, .int zz4), (3, .int zz77), (4, .int zz78), (5, .int zz81), (6, .int zz84), (7, .int 0), (8, .int zz113)]) (fun _ => rfl) dL_sound_522 (fun zz113 => ?_)
              refine xr_goto (pc := 525) X 52 (by decide) dL_sound_525 ?_
              exact x_wid (k2 := (kk_11 + 135)) (n2 := 6 * ((kk_11 + 135))) (by omega) (by omega) (ihh21 _ _ _ _ _ _ _ (kk_11 + 135) (by omega))
            refine xr_iload (pc := 409) X (i := 14) 9 rfl dL_sound_409 ?_
            refine xr_iconst (pc := 411) X dL_sound_411 (v := (-1)) (by decide) ?_
            refine x_jn (fun (KK115 : xS → Option (Int32 × xS)) => ∀ σ114, xM Γ D ad N Sh (xQI Γ D ad N Sh 1029 6174) (kk_11 + 135) (6 * kk_11 + 810) (KK115 σ114) σ114 430 [(0, .ref (ad oo1)), (1, .int zz2), (2, .int zz4), (3, .int zz77), (4, .int zz78), (5, .int zz81), (6, .int zz84), (8, .int zz18), (9, .int zz31)] []) (fun σ114 => ?_) (fun KK115 hKK116 => ?_)
            · refine xr_iload (pc := 430) X (i := 9) 8 rfl dL_sound_430 ?_
              refine xr_bipush (pc := 432) X dL_sound_432 (v := 6) (by decide) ?_
              refine xr_icmp_gt (pc := 434) X 519 (by decide) dL_sound_434 (fun _ => ?_) (fun _ => ?_)
              · refine xr_iconst (pc := 519) X dL_sound_519 (v := 0) (by decide) ?_
                refine xr_istore (pc := 520) X (i := 7) [1, 2, 3, 4, 5, 6, 7, 0, 8] (Nat.le_of_ble_eq_true rfl) hnL rfl dL_sound_520 ?_
                refine xr_iinc (pc := 522) X (i := 8) (j := 8) [1, 2, 3, 4, 5, 6, 7, 8, 0] (Nat.le_of_ble_eq_true rfl) hnL rfl rfl (fun zz119 => [(0, .ref (ad oo1)), (1, .int zz2), (2, .int zz4), (3, .int zz77), (4, .int zz78), (5, .int zz81), (6, .int zz84), (7, .int 0), (8, .int zz119)]) (fun _ => rfl) dL_sound_522 (fun zz119 => ?_)
                refine xr_goto (pc := 525) X 52 (by decide) dL_sound_525 ?_
                exact x_wid (k2 := (kk_11 + 135)) (n2 := 6 * ((kk_11 + 135))) (by omega) (by omega) (ihh21 _ _ _ _ _ _ _ (kk_11 + 135) (by omega))
              refine xr_aload_n (pc := 437) X (i := 0) 0 rfl rfl dL_sound_437 ?_
              refine xr_iconst (pc := 438) X dL_sound_438 (v := 4) (by decide) ?_
              refine xr_iload (pc := 439) X (i := 8) 7 rfl dL_sound_439 ?_
              refine xr_iconst (pc := 441) X dL_sound_441 (v := 5) (by decide) ?_
              refine xr_iconst (pc := 442) X dL_sound_442 (v := 0) (by decide) ?_
              refine xr_callSI (na := 5) (pc := 443) X [.ref (ad oo1), .int 4, .int zz18, .int 5, .int 0] (c_L_call Γ.2.1 hI hst oo1 hh1 4 zz18 5 0 σ114) (wG_S wm_5_23 wm_5_21 wm_5_22 wm_5_14) rfl rfl rfl (by decide +kernel) ⟨Nat.le_of_ble_eq_true rfl, Nat.le_of_ble_eq_true rfl⟩ rfl rfl (Nat.le_of_ble_eq_true rfl) ⟨(show _ ≤ 1029 by omega), (show _ ≤ 6174 by omega)⟩ dL_sound_443 (fun zz121 σ120 => ?_)
              refine xr_iload (pc := 446) X (i := 9) 8 rfl dL_sound_446 ?_
              refine xr_icmp_gt (pc := 448) X 519 (by decide) dL_sound_448 (fun _ => ?_) (fun _ => ?_)
              · refine xr_iconst (pc := 519) X dL_sound_519 (v := 0) (by decide) ?_
                refine xr_istore (pc := 520) X (i := 7) [1, 2, 3, 4, 5, 6, 7, 0, 8] (Nat.le_of_ble_eq_true rfl) hnL rfl dL_sound_520 ?_
                refine xr_iinc (pc := 522) X (i := 8) (j := 8) [1, 2, 3, 4, 5, 6, 7, 8, 0] (Nat.le_of_ble_eq_true rfl) hnL rfl rfl (fun zz122 => [(0, .ref (ad oo1)), (1, .int zz2), (2, .int zz4), (3, .int zz77), (4, .int zz78), (5, .int zz81), (6, .int zz84), (7, .int 0), (8, .int zz122)]) (fun _ => rfl) dL_sound_522 (fun zz122 => ?_)
                refine xr_goto (pc := 525) X 52 (by decide) dL_sound_525 ?_
                exact x_wid (k2 := (kk_11 + 138)) (n2 := 6 * ((kk_11 + 138))) (by omega) (by omega) (ihh21 _ _ _ _ _ _ _ (kk_11 + 138) (by omega))
              refine xr_aload_n (pc := 451) X (i := 0) 0 rfl rfl dL_sound_451 ?_
              refine xr_iconst (pc := 452) X dL_sound_452 (v := 4) (by decide) ?_
              refine xr_iload (pc := 453) X (i := 8) 7 rfl dL_sound_453 ?_
              refine xr_iconst (pc := 455) X dL_sound_455 (v := 4) (by decide) ?_
              refine xr_iconst (pc := 456) X dL_sound_456 (v := 0) (by decide) ?_
              refine xr_callSI (na := 5) (pc := 457) X [.ref (ad oo1), .int 4, .int zz18, .int 4, .int 0] (c_L_call Γ.2.1 hI hst oo1 hh1 4 zz18 4 0 σ120) (wG_S wm_5_23 wm_5_21 wm_5_22 wm_5_14) rfl rfl rfl (by decide +kernel) ⟨Nat.le_of_ble_eq_true rfl, Nat.le_of_ble_eq_true rfl⟩ rfl rfl (Nat.le_of_ble_eq_true rfl) ⟨(show _ ≤ 1029 by omega), (show _ ≤ 6174 by omega)⟩ dL_sound_457 (fun zz124 σ123 => ?_)
              refine xr_aload_n (pc := 460) X (i := 0) 0 rfl rfl dL_sound_460 ?_
              refine xr_iconst (pc := 461) X dL_sound_461 (v := 4) (by decide) ?_
              refine xr_iload (pc := 462) X (i := 8) 7 rfl dL_sound_462 ?_
              refine xr_iconst (pc := 464) X dL_sound_464 (v := 1) (by decide) ?_
              refine xr_iconst (pc := 465) X dL_sound_465 (v := 0) (by decide) ?_
              refine xr_callSI (na := 5) (pc := 466) X [.ref (ad oo1), .int 4, .int zz18, .int 1, .int 0] (c_L_call Γ.2.1 hI hst oo1 hh1 4 zz18 1 0 σ123) (wG_S wm_5_23 wm_5_21 wm_5_22 wm_5_14) rfl rfl rfl (by decide +kernel) ⟨Nat.le_of_ble_eq_true rfl, Nat.le_of_ble_eq_true rfl⟩ rfl rfl (Nat.le_of_ble_eq_true rfl) ⟨(show _ ≤ 1029 by omega), (show _ ≤ 6174 by omega)⟩ dL_sound_466 (fun zz126 σ125 => ?_)
              refine xr_icmp_gt (pc := 469) X 519 (by decide) dL_sound_469 (fun _ => ?_) (fun _ => ?_)
              · refine xr_iconst (pc := 519) X dL_sound_519 (v := 0) (by decide) ?_
                refine xr_istore (pc := 520) X (i := 7) [1, 2, 3, 4, 5, 6, 7, 0, 8] (Nat.le_of_ble_eq_true rfl) hnL rfl dL_sound_520 ?_
                refine xr_iinc (pc := 522) X (i := 8) (j := 8) [1, 2, 3, 4, 5, 6, 7, 8, 0] (Nat.le_of_ble_eq_true rfl) hnL rfl rfl (fun zz127 => [(0, .ref (ad oo1)), (1, .int zz2), (2, .int zz4), (3, .int zz77), (4, .int zz78), (5, .int zz81), (6, .int zz84), (7, .int 0), (8, .int zz127)]) (fun _ => rfl) dL_sound_522 (fun zz127 => ?_)
                refine xr_goto (pc := 525) X 52 (by decide) dL_sound_525 ?_
                exact x_wid (k2 := (kk_11 + 144)) (n2 := 6 * ((kk_11 + 144))) (by omega) (by omega) (ihh21 _ _ _ _ _ _ _ (kk_11 + 144) (by omega))
              refine xr_aload_n (pc := 472) X (i := 0) 0 rfl rfl dL_sound_472 ?_
              refine xr_bipush (pc := 473) X dL_sound_473 (v := 15) (by decide) ?_
              refine xr_iload (pc := 475) X (i := 8) 7 rfl dL_sound_475 ?_
              refine xr_iconst (pc := 477) X dL_sound_477 (v := 0) (by decide) ?_
              refine xr_iconst (pc := 478) X dL_sound_478 (v := 0) (by decide) ?_
              refine xr_callSI (na := 5) (pc := 479) X [.ref (ad oo1), .int 15, .int zz18, .int 0, .int 0] (c_L_call Γ.2.1 hI hst oo1 hh1 15 zz18 0 0 σ125) (wG_S wm_5_23 wm_5_21 wm_5_22 wm_5_14) rfl rfl rfl (by decide +kernel) ⟨Nat.le_of_ble_eq_true rfl, Nat.le_of_ble_eq_true rfl⟩ rfl rfl (Nat.le_of_ble_eq_true rfl) ⟨(show _ ≤ 1029 by omega), (show _ ≤ 6174 by omega)⟩ dL_sound_479 (fun zz129 σ128 => ?_)
              refine x_jn (fun (KK131 : xS → Option (Int32 × xS)) => ∀ σ130, xM Γ D ad N Sh (xQI Γ D ad N Sh 1029 6174) (kk_11 + 150) (6 * kk_11 + 900) (KK131 σ130) σ130 502 [(0, .ref (ad oo1)), (1, .int zz2), (2, .int zz4), (3, .int zz77), (4, .int zz78), (5, .int zz81), (6, .int zz84), (8, .int zz18)] []) (fun σ130 => ?_) (fun KK131 hKK132 => ?_)
              · refine xr_aload_n (pc := 502) X (i := 0) 0 rfl rfl dL_sound_502 ?_
                refine xr_iconst (pc := 503) X dL_sound_503 (v := 3) (by decide) ?_
                refine xr_iload (pc := 504) X (i := 8) 7 rfl dL_sound_504 ?_
                refine xr_iconst (pc := 506) X dL_sound_506 (v := 5) (by decide) ?_
                refine xr_iconst (pc := 507) X dL_sound_507 (v := 0) (by decide) ?_
                refine xr_callSI (na := 5) (pc := 508) X [.ref (ad oo1), .int 3, .int zz18, .int 5, .int 0] (c_L_call Γ.2.1 hI hst oo1 hh1 3 zz18 5 0 σ130) (wG_S wm_5_23 wm_5_21 wm_5_22 wm_5_14) rfl rfl rfl (by decide +kernel) ⟨Nat.le_of_ble_eq_true rfl, Nat.le_of_ble_eq_true rfl⟩ rfl rfl (Nat.le_of_ble_eq_true rfl) ⟨(show _ ≤ 1029 by omega), (show _ ≤ 6174 by omega)⟩ dL_sound_508 (fun zz138 σ137 => ?_)
                refine xr_iload_n (pc := 511) X (i := 2) 2 rfl rfl dL_sound_511 ?_
                refine xr_icmp_gt (pc := 512) X 519 (by decide) dL_sound_512 (fun _ => ?_) (fun _ => ?_)
                · refine xr_iconst (pc := 519) X dL_sound_519 (v := 0) (by decide) ?_
                  refine xr_istore (pc := 520) X (i := 7) [1, 2, 3, 4, 5, 6, 7, 0, 8] (Nat.le_of_ble_eq_true rfl) hnL rfl dL_sound_520 ?_
                  refine xr_iinc (pc := 522) X (i := 8) (j := 8) [1, 2, 3, 4, 5, 6, 7, 8, 0] (Nat.le_of_ble_eq_true rfl) hnL rfl rfl (fun zz139 => [(0, .ref (ad oo1)), (1, .int zz2), (2, .int zz4), (3, .int zz77), (4, .int zz78), (5, .int zz81), (6, .int zz84), (7, .int 0), (8, .int zz139)]) (fun _ => rfl) dL_sound_522 (fun zz139 => ?_)
                  refine xr_goto (pc := 525) X 52 (by decide) dL_sound_525 ?_
                  exact x_wid (k2 := (kk_11 + 153)) (n2 := 6 * ((kk_11 + 153))) (by omega) (by omega) (ihh21 _ _ _ _ _ _ _ (kk_11 + 153) (by omega))
                refine xr_iconst (pc := 515) X dL_sound_515 (v := 1) (by decide) ?_
                refine xr_goto (pc := 516) X 520 (by decide) dL_sound_516 ?_
                refine xr_istore (pc := 520) X (i := 7) [1, 2, 3, 4, 5, 6, 7, 0, 8] (Nat.le_of_ble_eq_true rfl) hnL rfl dL_sound_520 ?_
                refine xr_iinc (pc := 522) X (i := 8) (j := 8) [1, 2, 3, 4, 5, 6, 7, 8, 0] (Nat.le_of_ble_eq_true rfl) hnL rfl rfl (fun zz140 => [(0, .ref (ad oo1)), (1, .int zz2), (2, .int zz4), (3, .int zz77), (4, .int zz78), (5, .int zz81), (6, .int zz84), (7, .int 1), (8, .int zz140)]) (fun _ => rfl) dL_sound_522 (fun zz140 => ?_)
                refine xr_goto (pc := 525) X 52 (by decide) dL_sound_525 ?_
                exact x_wid (k2 := (kk_11 + 153)) (n2 := 6 * ((kk_11 + 153))) (by omega) (by omega) (ihh21 _ _ _ _ _ _ _ (kk_11 + 153) (by omega))
              refine xr_if_ne (pc := 482) X 502 (by decide) dL_sound_482 (fun _ => ?_) (fun _ => ?_)
              · exact x_sub [0, 1, 2, 3, 4, 5, 6, 7] rfl (x_wid (by omega) (by omega) (hKK132  _))
              refine xr_iload (pc := 485) X (i := 9) 8 rfl dL_sound_485 ?_
              refine xr_if_ne (pc := 487) X 519 (by decide) dL_sound_487 (fun _ => ?_) (fun _ => ?_)
              · refine xr_iconst (pc := 519) X dL_sound_519 (v := 0) (by decide) ?_
                refine xr_istore (pc := 520) X (i := 7) [1, 2, 3, 4, 5, 6, 7, 0, 8] (Nat.le_of_ble_eq_true rfl) hnL rfl dL_sound_520 ?_
                refine xr_iinc (pc := 522) X (i := 8) (j := 8) [1, 2, 3, 4, 5, 6, 7, 8, 0] (Nat.le_of_ble_eq_true rfl) hnL rfl rfl (fun zz133 => [(0, .ref (ad oo1)), (1, .int zz2), (2, .int zz4), (3, .int zz77), (4, .int zz78), (5, .int zz81), (6, .int zz84), (7, .int 0), (8, .int zz133)]) (fun _ => rfl) dL_sound_522 (fun zz133 => ?_)
                refine xr_goto (pc := 525) X 52 (by decide) dL_sound_525 ?_
                exact x_wid (k2 := (kk_11 + 147)) (n2 := 6 * ((kk_11 + 147))) (by omega) (by omega) (ihh21 _ _ _ _ _ _ _ (kk_11 + 147) (by omega))
              refine xr_aload_n (pc := 490) X (i := 0) 0 rfl rfl dL_sound_490 ?_
              refine xr_iconst (pc := 491) X dL_sound_491 (v := 3) (by decide) ?_
              refine xr_iload (pc := 492) X (i := 8) 7 rfl dL_sound_492 ?_
              refine xr_iconst (pc := 494) X dL_sound_494 (v := 0) (by decide) ?_
              refine xr_iconst (pc := 495) X dL_sound_495 (v := 0) (by decide) ?_
              refine xr_callSI (na := 5) (pc := 496) X [.ref (ad oo1), .int 3, .int zz18, .int 0, .int 0] (c_L_call Γ.2.1 hI hst oo1 hh1 3 zz18 0 0 σ128) (wG_S wm_5_23 wm_5_21 wm_5_22 wm_5_14) rfl rfl rfl (by decide +kernel) ⟨Nat.le_of_ble_eq_true rfl, Nat.le_of_ble_eq_true rfl⟩ rfl rfl (Nat.le_of_ble_eq_true rfl) ⟨(show _ ≤ 1029 by omega), (show _ ≤ 6174 by omega)⟩ dL_sound_496 (fun zz135 σ134 => ?_)
              refine xr_if_ne (pc := 499) X 519 (by decide) dL_sound_499 (fun _ => ?_) (fun _ => ?_)
              · refine xr_iconst (pc := 519) X dL_sound_519 (v := 0) (by decide) ?_
                refine xr_istore (pc := 520) X (i := 7) [1, 2, 3, 4, 5, 6, 7, 0, 8] (Nat.le_of_ble_eq_true rfl) hnL rfl dL_sound_520 ?_
                refine xr_iinc (pc := 522) X (i := 8) (j := 8) [1, 2, 3, 4, 5, 6, 7, 8, 0] (Nat.le_of_ble_eq_true rfl) hnL rfl rfl (fun zz136 => [(0, .ref (ad oo1)), (1, .int zz2), (2, .int zz4), (3, .int zz77), (4, .int zz78), (5, .int zz81), (6, .int zz84), (7, .int 0), (8, .int zz136)]) (fun _ => rfl) dL_sound_522 (fun zz136 => ?_)
                refine xr_goto (pc := 525) X 52 (by decide) dL_sound_525 ?_
                exact x_wid (k2 := (kk_11 + 150)) (n2 := 6 * ((kk_11 + 150))) (by omega) (by omega) (ihh21 _ _ _ _ _ _ _ (kk_11 + 150) (by omega))
              exact x_sub [0, 1, 2, 3, 4, 5, 6, 7] rfl (x_wid (by omega) (by omega) (hKK132  _))
            refine xr_icmp_eq (pc := 412) X 430 (by decide) dL_sound_412 (fun _ => ?_) (fun _ => ?_)
            · exact x_sub [0, 1, 2, 3, 4, 5, 6, 7, 8] rfl (x_wid (by omega) (by omega) (hKK116  _))
            refine xr_iload (pc := 415) X (i := 14) 9 rfl dL_sound_415 ?_
            refine xr_iload_n (pc := 417) X (i := 2) 2 rfl rfl dL_sound_417 ?_
            refine xr_icmp_le (pc := 418) X 519 (by decide) dL_sound_418 (fun _ => ?_) (fun _ => ?_)
            · refine xr_iconst (pc := 519) X dL_sound_519 (v := 0) (by decide) ?_
              refine xr_istore (pc := 520) X (i := 7) [1, 2, 3, 4, 5, 6, 7, 0, 8] (Nat.le_of_ble_eq_true rfl) hnL rfl dL_sound_520 ?_
              refine xr_iinc (pc := 522) X (i := 8) (j := 8) [1, 2, 3, 4, 5, 6, 7, 8, 0] (Nat.le_of_ble_eq_true rfl) hnL rfl rfl (fun zz117 => [(0, .ref (ad oo1)), (1, .int zz2), (2, .int zz4), (3, .int zz77), (4, .int zz78), (5, .int zz81), (6, .int zz84), (7, .int 0), (8, .int zz117)]) (fun _ => rfl) dL_sound_522 (fun zz117 => ?_)
              refine xr_goto (pc := 525) X 52 (by decide) dL_sound_525 ?_
              exact x_wid (k2 := (kk_11 + 135)) (n2 := 6 * ((kk_11 + 135))) (by omega) (by omega) (ihh21 _ _ _ _ _ _ _ (kk_11 + 135) (by omega))
            refine xr_iload (pc := 421) X (i := 14) 9 rfl dL_sound_421 ?_
            refine xr_iload_n (pc := 423) X (i := 2) 2 rfl rfl dL_sound_423 ?_
            refine xr_bipush (pc := 424) X dL_sound_424 (v := 20) (by decide) ?_
            refine xr_iadd (pc := 426) X dL_sound_426 ?_
            refine xr_icmp_gt (pc := 427) X 519 (by decide) dL_sound_427 (fun _ => ?_) (fun _ => ?_)
            · refine xr_iconst (pc := 519) X dL_sound_519 (v := 0) (by decide) ?_
              refine xr_istore (pc := 520) X (i := 7) [1, 2, 3, 4, 5, 6, 7, 0, 8] (Nat.le_of_ble_eq_true rfl) hnL rfl dL_sound_520 ?_
              refine xr_iinc (pc := 522) X (i := 8) (j := 8) [1, 2, 3, 4, 5, 6, 7, 8, 0] (Nat.le_of_ble_eq_true rfl) hnL rfl rfl (fun zz118 => [(0, .ref (ad oo1)), (1, .int zz2), (2, .int zz4), (3, .int zz77), (4, .int zz78), (5, .int zz81), (6, .int zz84), (7, .int 0), (8, .int zz118)]) (fun _ => rfl) dL_sound_522 (fun zz118 => ?_)
              refine xr_goto (pc := 525) X 52 (by decide) dL_sound_525 ?_
              exact x_wid (k2 := (kk_11 + 135)) (n2 := 6 * ((kk_11 + 135))) (by omega) (by omega) (ihh21 _ _ _ _ _ _ _ (kk_11 + 135) (by omega))
            exact x_sub [0, 1, 2, 3, 4, 5, 6, 7, 8] rfl (x_wid (by omega) (by omega) (hKK116  _))
          refine xr_icmp_ne (pc := 398) X 405 (by decide) dL_sound_398 (fun _ => ?_) (fun _ => ?_)
          · refine xr_iconst (pc := 405) X dL_sound_405 (v := 0) (by decide) ?_
            exact x_wid (by omega) (by omega) (hKK112 _ _)
          refine xr_iconst (pc := 401) X dL_sound_401 (v := 1) (by decide) ?_
          refine xr_goto (pc := 402) X 406 (by decide) dL_sound_402 ?_
          exact x_wid (by omega) (by omega) (hKK112 _ _)
        refine xr_if_ne (pc := 387) X 394 (by decide) dL_sound_387 (fun _ => ?_) (fun _ => ?_)
        · refine xr_iconst (pc := 394) X dL_sound_394 (v := 0) (by decide) ?_
          exact x_sub [0, 1, 2, 3, 4, 5, 6, 8, 9, 13] rfl (x_wid (by omega) (by omega) (hKK108 _ _))
        refine xr_iconst (pc := 390) X dL_sound_390 (v := 1) (by decide) ?_
        refine xr_goto (pc := 391) X 395 (by decide) dL_sound_391 ?_
        exact x_sub [0, 1, 2, 3, 4, 5, 6, 8, 9, 13] rfl (x_wid (by omega) (by omega) (hKK108 _ _))
    refine x_wid (k2 := 9) (n2 := 6 * (9)) (by omega) (by omega) (hLL172 _ (fun zz22 zz23 zz24 zz25 zz26 σ29 => ?_) _ _ _ _ _ _ _ _ 9 (by omega))
    refine xr_iload_n (pc := 528) X (i := 2) 2 rfl rfl dL_sound_528 ?_
    refine xr_istore (pc := 529) X (i := 8) [1, 2, 3, 4, 5, 6, 7, 8, 0] (Nat.le_of_ble_eq_true rfl) hnL rfl dL_sound_529 ?_
    refine xr_iconst (pc := 531) X dL_sound_531 (v := 0) (by decide) ?_
    refine xr_istore (pc := 532) X (i := 9) [1, 2, 3, 4, 5, 6, 7, 8, 0] (Nat.le_of_ble_eq_true rfl) hnL rfl dL_sound_532 ?_
    have hLL171 : ∀ (KK150 : Int32 → xS → Option (Int32 × xS)) (hKK151 : ∀ zz149 σ152, xM Γ D ad N Sh (xQI Γ D ad N Sh 1029 6174) 1017 6102 (KK150 zz149 σ152) σ152 606 [(0, .ref (ad oo1)), (3, .int zz22), (4, .int zz23), (5, .int zz24), (6, .int zz25), (7, .int zz149)] []), ∀ (nn_147 : Nat) zz144 zz145 σ146 (kk_142 : Nat), kk_142 + 9 * (nn_147 + 1) ≤ 1017 → xM Γ D ad N Sh (xQI Γ D ad N Sh 1029 6174) (kk_142 + 0) (6 * kk_142 + 0) (L_L_sound_534 oo1 zz2 zz4 KK150 nn_147 zz144 zz145 σ146) σ146 534 [(0, .ref (ad oo1)), (1, .int zz2), (2, .int zz4), (3, .int zz22), (4, .int zz23), (5, .int zz24), (6, .int zz25), (7, .int zz144), (9, .int zz145)] [] := by
      intro KK150 hKK151 nn_147
      induction nn_147 with
      | zero => intro zz144 zz145 σ146 kk_142 _; exact xM_none
      | succ nn_147 ihh148 =>
        intro zz144 zz145 σ146 kk_142 hk_143
        rw [L_L_sound_534]
        refine xr_iload (pc := 534) X (i := 9) 8 rfl dL_sound_534 ?_
        refine xr_aload_n (pc := 536) X (i := 0) 0 rfl rfl dL_sound_536 ?_
        refine xr_iconst (pc := 537) X dL_sound_537 (v := 2) (by decide) ?_
        refine xr_iconst (pc := 538) X dL_sound_538 (v := 2) (by decide) ?_
        refine xr_iconst (pc := 539) X dL_sound_539 (v := 0) (by decide) ?_
        refine xr_iconst (pc := 540) X dL_sound_540 (v := 0) (by decide) ?_
        refine xr_callSI (na := 5) (pc := 541) X [.ref (ad oo1), .int 2, .int 2, .int 0, .int 0] (c_L_call Γ.2.1 hI hst oo1 hh1 2 2 0 0 σ146) (wG_S wm_5_23 wm_5_21 wm_5_22 wm_5_14) rfl rfl rfl (by decide +kernel) ⟨Nat.le_of_ble_eq_true rfl, Nat.le_of_ble_eq_true rfl⟩ rfl rfl (Nat.le_of_ble_eq_true rfl) ⟨(show _ ≤ 1029 by omega), (show _ ≤ 6174 by omega)⟩ dL_sound_541 (fun zz154 σ153 => ?_)
        refine xr_icmp_ge (pc := 544) X 606 (by decide) dL_sound_544 (fun _ => ?_) (fun _ => ?_)
        · exact x_sub [0, 3, 4, 5, 6, 7] rfl (x_wid (by omega) (by omega) (hKK151 _ _))
        refine xr_iload (pc := 547) X (i := 7) 7 rfl dL_sound_547 ?_
        refine xr_if_eq (pc := 549) X 606 (by decide) dL_sound_549 (fun _ => ?_) (fun _ => ?_)
        · exact x_sub [0, 3, 4, 5, 6, 7] rfl (x_wid (by omega) (by omega) (hKK151 _ _))
        refine xr_aload_n (pc := 552) X (i := 0) 0 rfl rfl dL_sound_552 ?_
        refine xr_bipush (pc := 553) X dL_sound_553 (v := 6) (by decide) ?_
        refine xr_iload (pc := 555) X (i := 9) 8 rfl dL_sound_555 ?_
        refine xr_iconst (pc := 557) X dL_sound_557 (v := 0) (by decide) ?_
        refine xr_iconst (pc := 558) X dL_sound_558 (v := 0) (by decide) ?_
        refine xr_callSI (na := 5) (pc := 559) X [.ref (ad oo1), .int 6, .int zz145, .int 0, .int 0] (c_L_call Γ.2.1 hI hst oo1 hh1 6 zz145 0 0 σ153) (wG_S wm_5_23 wm_5_21 wm_5_22 wm_5_14) rfl rfl rfl (by decide +kernel) ⟨Nat.le_of_ble_eq_true rfl, Nat.le_of_ble_eq_true rfl⟩ rfl rfl (Nat.le_of_ble_eq_true rfl) ⟨(show _ ≤ 1029 by omega), (show _ ≤ 6174 by omega)⟩ dL_sound_559 (fun zz156 σ155 => ?_)
        refine xr_istore (pc := 562) X (i := 8) [1, 2, 3, 4, 5, 6, 7, 0, 9] (Nat.le_of_ble_eq_true rfl) hnL rfl dL_sound_562 ?_
        refine xr_iload (pc := 564) X (i := 8) 7 rfl dL_sound_564 ?_
        refine xr_iload_n (pc := 566) X (i := 2) 2 rfl rfl dL_sound_566 ?_
        refine xr_icmp_le (pc := 567) X 597 (by decide) dL_sound_567 (fun _ => ?_) (fun _ => ?_)
        · refine xr_iconst (pc := 597) X dL_sound_597 (v := 0) (by decide) ?_
          refine xr_istore (pc := 598) X (i := 7) [1, 2, 3, 4, 5, 6, 7, 0, 9] (Nat.le_of_ble_eq_true rfl) hnL rfl dL_sound_598 ?_
          refine xr_iinc (pc := 600) X (i := 9) (j := 8) [1, 2, 3, 4, 5, 6, 7, 8, 0] (Nat.le_of_ble_eq_true rfl) hnL rfl rfl (fun zz157 => [(0, .ref (ad oo1)), (1, .int zz2), (2, .int zz4), (3, .int zz22), (4, .int zz23), (5, .int zz24), (6, .int zz25), (7, .int 0), (9, .int zz157)]) (fun _ => rfl) dL_sound_600 (fun zz157 => ?_)
          refine xr_goto (pc := 603) X 534 (by decide) dL_sound_603 ?_
          exact x_wid (k2 := (kk_142 + 6)) (n2 := 6 * ((kk_142 + 6))) (by omega) (by omega) (ihh148 _ _ _ (kk_142 + 6) (by omega))
        refine xr_iload (pc := 570) X (i := 8) 7 rfl dL_sound_570 ?_
        refine xr_iload_n (pc := 572) X (i := 2) 2 rfl rfl dL_sound_572 ?_
        refine xr_bipush (pc := 573) X dL_sound_573 (v := 99) (by decide) ?_
        refine xr_iadd (pc := 575) X dL_sound_575 ?_
        refine xr_icmp_gt (pc := 576) X 597 (by decide) dL_sound_576 (fun _ => ?_) (fun _ => ?_)
        · refine xr_iconst (pc := 597) X dL_sound_597 (v := 0) (by decide) ?_
          refine xr_istore (pc := 598) X (i := 7) [1, 2, 3, 4, 5, 6, 7, 0, 9] (Nat.le_of_ble_eq_true rfl) hnL rfl dL_sound_598 ?_
          refine xr_iinc (pc := 600) X (i := 9) (j := 8) [1, 2, 3, 4, 5, 6, 7, 8, 0] (Nat.le_of_ble_eq_true rfl) hnL rfl rfl (fun zz158 => [(0, .ref (ad oo1)), (1, .int zz2), (2, .int zz4), (3, .int zz22), (4, .int zz23), (5, .int zz24), (6, .int zz25), (7, .int 0), (9, .int zz158)]) (fun _ => rfl) dL_sound_600 (fun zz158 => ?_)
          refine xr_goto (pc := 603) X 534 (by decide) dL_sound_603 ?_
          exact x_wid (k2 := (kk_142 + 6)) (n2 := 6 * ((kk_142 + 6))) (by omega) (by omega) (ihh148 _ _ _ (kk_142 + 6) (by omega))
        refine xr_aload_n (pc := 579) X (i := 0) 0 rfl rfl dL_sound_579 ?_
        refine xr_bipush (pc := 580) X dL_sound_580 (v := 6) (by decide) ?_
        refine xr_iload (pc := 582) X (i := 9) 8 rfl dL_sound_582 ?_
        refine xr_iconst (pc := 584) X dL_sound_584 (v := 1) (by decide) ?_
        refine xr_iconst (pc := 585) X dL_sound_585 (v := 0) (by decide) ?_
        refine xr_callSI (na := 5) (pc := 586) X [.ref (ad oo1), .int 6, .int zz145, .int 1, .int 0] (c_L_call Γ.2.1 hI hst oo1 hh1 6 zz145 1 0 σ155) (wG_S wm_5_23 wm_5_21 wm_5_22 wm_5_14) rfl rfl rfl (by decide +kernel) ⟨Nat.le_of_ble_eq_true rfl, Nat.le_of_ble_eq_true rfl⟩ rfl rfl (Nat.le_of_ble_eq_true rfl) ⟨(show _ ≤ 1029 by omega), (show _ ≤ 6174 by omega)⟩ dL_sound_586 (fun zz160 σ159 => ?_)
        refine xr_iload_n (pc := 589) X (i := 1) 1 rfl rfl dL_sound_589 ?_
        refine xr_icmp_ge (pc := 590) X 597 (by decide) dL_sound_590 (fun _ => ?_) (fun _ => ?_)
        · refine xr_iconst (pc := 597) X dL_sound_597 (v := 0) (by decide) ?_
          refine xr_istore (pc := 598) X (i := 7) [1, 2, 3, 4, 5, 6, 7, 0, 9] (Nat.le_of_ble_eq_true rfl) hnL rfl dL_sound_598 ?_
          refine xr_iinc (pc := 600) X (i := 9) (j := 8) [1, 2, 3, 4, 5, 6, 7, 8, 0] (Nat.le_of_ble_eq_true rfl) hnL rfl rfl (fun zz161 => [(0, .ref (ad oo1)), (1, .int zz2), (2, .int zz4), (3, .int zz22), (4, .int zz23), (5, .int zz24), (6, .int zz25), (7, .int 0), (9, .int zz161)]) (fun _ => rfl) dL_sound_600 (fun zz161 => ?_)
          refine xr_goto (pc := 603) X 534 (by decide) dL_sound_603 ?_
          exact x_wid (k2 := (kk_142 + 9)) (n2 := 6 * ((kk_142 + 9))) (by omega) (by omega) (ihh148 _ _ _ (kk_142 + 9) (by omega))
        refine xr_iconst (pc := 593) X dL_sound_593 (v := 1) (by decide) ?_
        refine xr_goto (pc := 594) X 598 (by decide) dL_sound_594 ?_
        refine xr_istore (pc := 598) X (i := 7) [1, 2, 3, 4, 5, 6, 7, 0, 9] (Nat.le_of_ble_eq_true rfl) hnL rfl dL_sound_598 ?_
        refine xr_iinc (pc := 600) X (i := 9) (j := 8) [1, 2, 3, 4, 5, 6, 7, 8, 0] (Nat.le_of_ble_eq_true rfl) hnL rfl rfl (fun zz162 => [(0, .ref (ad oo1)), (1, .int zz2), (2, .int zz4), (3, .int zz22), (4, .int zz23), (5, .int zz24), (6, .int zz25), (7, .int 1), (9, .int zz162)]) (fun _ => rfl) dL_sound_600 (fun zz162 => ?_)
        refine xr_goto (pc := 603) X 534 (by decide) dL_sound_603 ?_
        exact x_wid (k2 := (kk_142 + 9)) (n2 := 6 * ((kk_142 + 9))) (by omega) (by omega) (ihh148 _ _ _ (kk_142 + 9) (by omega))
    refine x_wid (k2 := 927) (n2 := 6 * (927)) (by omega) (by omega) (hLL171 _ (fun zz149 σ152 => ?_) _ _ _ _ 927 (by omega))
    refine xr_iload (pc := 606) X (i := 7) 5 rfl dL_sound_606 ?_
    refine xr_if_eq (pc := 608) X 667 (by decide) dL_sound_608 (fun _ => ?_) (fun _ => ?_)
    · refine xr_iconst (pc := 667) X dL_sound_667 (v := 0) (by decide) ?_
      exact xr_zret (pc := 668) X rfl (Nat.le_of_ble_eq_true rfl) (Nat.le_of_ble_eq_true rfl) dL_sound_668
    refine xr_aload_n (pc := 611) X (i := 0) 0 rfl rfl dL_sound_611 ?_
    refine xr_iconst (pc := 612) X dL_sound_612 (v := 2) (by decide) ?_
    refine xr_iconst (pc := 613) X dL_sound_613 (v := 3) (by decide) ?_
    refine xr_iconst (pc := 614) X dL_sound_614 (v := 0) (by decide) ?_
    refine xr_iconst (pc := 615) X dL_sound_615 (v := 0) (by decide) ?_
    refine xr_callSI (na := 5) (pc := 616) X [.ref (ad oo1), .int 2, .int 3, .int 0, .int 0] (c_L_call Γ.2.1 hI hst oo1 hh1 2 3 0 0 σ152) (wG_S wm_5_23 wm_5_21 wm_5_22 wm_5_14) rfl rfl rfl (by decide +kernel) ⟨Nat.le_of_ble_eq_true rfl, Nat.le_of_ble_eq_true rfl⟩ rfl rfl (Nat.le_of_ble_eq_true rfl) ⟨(show _ ≤ 1029 by omega), (show _ ≤ 6174 by omega)⟩ dL_sound_616 (fun zz164 σ163 => ?_)
    refine xr_iload_n (pc := 619) X (i := 3) 1 rfl rfl dL_sound_619 ?_
    refine xr_icmp_ne (pc := 620) X 667 (by decide) dL_sound_620 (fun _ => ?_) (fun _ => ?_)
    · refine xr_iconst (pc := 667) X dL_sound_667 (v := 0) (by decide) ?_
      exact xr_zret (pc := 668) X rfl (Nat.le_of_ble_eq_true rfl) (Nat.le_of_ble_eq_true rfl) dL_sound_668
    refine xr_aload_n (pc := 623) X (i := 0) 0 rfl rfl dL_sound_623 ?_
    refine xr_iconst (pc := 624) X dL_sound_624 (v := 2) (by decide) ?_
    refine xr_iconst (pc := 625) X dL_sound_625 (v := 4) (by decide) ?_
    refine xr_iconst (pc := 626) X dL_sound_626 (v := 0) (by decide) ?_
    refine xr_iconst (pc := 627) X dL_sound_627 (v := 0) (by decide) ?_
    refine xr_callSI (na := 5) (pc := 628) X [.ref (ad oo1), .int 2, .int 4, .int 0, .int 0] (c_L_call Γ.2.1 hI hst oo1 hh1 2 4 0 0 σ163) (wG_S wm_5_23 wm_5_21 wm_5_22 wm_5_14) rfl rfl rfl (by decide +kernel) ⟨Nat.le_of_ble_eq_true rfl, Nat.le_of_ble_eq_true rfl⟩ rfl rfl (Nat.le_of_ble_eq_true rfl) ⟨(show _ ≤ 1029 by omega), (show _ ≤ 6174 by omega)⟩ dL_sound_628 (fun zz166 σ165 => ?_)
    refine xr_iload (pc := 631) X (i := 4) 2 rfl dL_sound_631 ?_
    refine xr_icmp_ne (pc := 633) X 667 (by decide) dL_sound_633 (fun _ => ?_) (fun _ => ?_)
    · refine xr_iconst (pc := 667) X dL_sound_667 (v := 0) (by decide) ?_
      exact xr_zret (pc := 668) X rfl (Nat.le_of_ble_eq_true rfl) (Nat.le_of_ble_eq_true rfl) dL_sound_668
    refine xr_aload_n (pc := 636) X (i := 0) 0 rfl rfl dL_sound_636 ?_
    refine xr_iconst (pc := 637) X dL_sound_637 (v := 2) (by decide) ?_
    refine xr_iconst (pc := 638) X dL_sound_638 (v := 5) (by decide) ?_
    refine xr_iconst (pc := 639) X dL_sound_639 (v := 0) (by decide) ?_
    refine xr_iconst (pc := 640) X dL_sound_640 (v := 0) (by decide) ?_
    refine xr_callSI (na := 5) (pc := 641) X [.ref (ad oo1), .int 2, .int 5, .int 0, .int 0] (c_L_call Γ.2.1 hI hst oo1 hh1 2 5 0 0 σ165) (wG_S wm_5_23 wm_5_21 wm_5_22 wm_5_14) rfl rfl rfl (by decide +kernel) ⟨Nat.le_of_ble_eq_true rfl, Nat.le_of_ble_eq_true rfl⟩ rfl rfl (Nat.le_of_ble_eq_true rfl) ⟨(show _ ≤ 1029 by omega), (show _ ≤ 6174 by omega)⟩ dL_sound_641 (fun zz168 σ167 => ?_)
    refine xr_iload (pc := 644) X (i := 5) 3 rfl dL_sound_644 ?_
    refine xr_icmp_ne (pc := 646) X 667 (by decide) dL_sound_646 (fun _ => ?_) (fun _ => ?_)
    · refine xr_iconst (pc := 667) X dL_sound_667 (v := 0) (by decide) ?_
      exact xr_zret (pc := 668) X rfl (Nat.le_of_ble_eq_true rfl) (Nat.le_of_ble_eq_true rfl) dL_sound_668
    refine xr_aload_n (pc := 649) X (i := 0) 0 rfl rfl dL_sound_649 ?_
    refine xr_iconst (pc := 650) X dL_sound_650 (v := 2) (by decide) ?_
    refine xr_bipush (pc := 651) X dL_sound_651 (v := 7) (by decide) ?_
    refine xr_iconst (pc := 653) X dL_sound_653 (v := 0) (by decide) ?_
    refine xr_iconst (pc := 654) X dL_sound_654 (v := 0) (by decide) ?_
    refine xr_callSI (na := 5) (pc := 655) X [.ref (ad oo1), .int 2, .int 7, .int 0, .int 0] (c_L_call Γ.2.1 hI hst oo1 hh1 2 7 0 0 σ167) (wG_S wm_5_23 wm_5_21 wm_5_22 wm_5_14) rfl rfl rfl (by decide +kernel) ⟨Nat.le_of_ble_eq_true rfl, Nat.le_of_ble_eq_true rfl⟩ rfl rfl (Nat.le_of_ble_eq_true rfl) ⟨(show _ ≤ 1029 by omega), (show _ ≤ 6174 by omega)⟩ dL_sound_655 (fun zz170 σ169 => ?_)
    refine xr_iload (pc := 658) X (i := 6) 4 rfl dL_sound_658 ?_
    refine xr_icmp_ne (pc := 660) X 667 (by decide) dL_sound_660 (fun _ => ?_) (fun _ => ?_)
    · refine xr_iconst (pc := 667) X dL_sound_667 (v := 0) (by decide) ?_
      exact xr_zret (pc := 668) X rfl (Nat.le_of_ble_eq_true rfl) (Nat.le_of_ble_eq_true rfl) dL_sound_668
    refine xr_iconst (pc := 663) X dL_sound_663 (v := 1) (by decide) ?_
    refine xr_goto (pc := 664) X 668 (by decide) dL_sound_664 ?_
    exact xr_zret (pc := 668) X rfl (Nat.le_of_ble_eq_true rfl) (Nat.le_of_ble_eq_true rfl) dL_sound_668
  refine xr_icmp_gt (pc := 39) X 46 (by decide) dL_sound_39 (fun _ => ?_) (fun _ => ?_)
  · refine xr_iconst (pc := 46) X dL_sound_46 (v := 0) (by decide) ?_
    exact x_wid (by omega) (by omega) (hKK10 _ _)
  refine xr_iconst (pc := 42) X dL_sound_42 (v := 1) (by decide) ?_
  refine xr_goto (pc := 43) X 47 (by decide) dL_sound_43 ?_
  exact x_wid (by omega) (by omega) (hKK10 _ _)
def F_L_act (oo1 : Nat) (pp2 : Int32) (σ : xS) : Option (Int32 × xS) :=
  xlet (pp2 / 16) (fun (zz1 : Int32) => xbI (F_L_call oo1 2 0 0 0 σ) (fun (zz3 : Int32) (σ2 : xS) => if ¬ zz3 = 0 then (xlet (zz1 - zz1 / zz3 * zz3) (fun (zz5 : Int32) => if (pp2 - pp2 / 16 * 16) = 0 then (if ¬ (zz1 - zz1 / 5 * 5) = 0 then (xbI (F_L_call oo1 9 zz5 (1 + ((zz1 / 4) - (zz1 / 4) / 300 * 300)) 0 σ2) (fun (zz7 : Int32) (σ6 : xS) => some (zz7, σ6)))
 else (xbI (F_L_call oo1 8 (1 + ((zz1 / 5) - (zz1 / 5) / 4 * 4)) 0 0 σ2) (fun (zz9 : Int32) (σ8 : xS) => some (zz9, σ8))))
 else (if (pp2 - pp2 / 16 * 16) = 1 ∨ (pp2 - pp2 / 16 * 16) = 2 ∨ (pp2 - pp2 / 16 * 16) = 3 ∨ (pp2 - pp2 / 16 * 16) = 4 then (xbI (F_L_call oo1 9 zz5 (1 + ((zz1 / 4) - (zz1 / 4) / 50 * 50)) 0 σ2) (fun (zz12 : Int32) (σ11 : xS) => some (zz12, σ11)))
 else (if (pp2 - pp2 / 16 * 16) = 5 ∨ (pp2 - pp2 / 16 * 16) = 6 then (xbI (F_L_call oo1 10 (1 + ((zz1 / 4) - (zz1 / 4) / 25 * 25)) zz5 (1 + ((zz1 / 100) - (zz1 / 100) / 60 * 60)) σ2) (fun (zz15 : Int32) (σ14 : xS) => some (zz15, σ14)))
 else (if (pp2 - pp2 / 16 * 16) = 7 then (if ¬ ((zz1 / 4) - (zz1 / 4) / 2 * 2) = 1 then (xbI (F_L_holds oo1 zz5 0 σ2) (fun (zz18 : Int32) (σ17 : xS) => some (zz18, σ17)))
 else (xbI (F_L_holds oo1 zz5 1 σ2) (fun (zz20 : Int32) (σ19 : xS) => some (zz20, σ19))))
 else (if (pp2 - pp2 / 16 * 16) = 8 then (xbI (F_L_call oo1 11 zz5 0 0 σ2) (fun (zz23 : Int32) (σ22 : xS) => some (zz23, σ22)))
 else (if (pp2 - pp2 / 16 * 16) = 9 ∨ (pp2 - pp2 / 16 * 16) = 10 then (xbI (F_L_call oo1 13 (zz1 - zz1 / 4 * 4) ((zz1 / 4) - (zz1 / 4) / 22 * 22) 0 σ2) (fun (zz26 : Int32) (σ25 : xS) => some (zz26, σ25)))
 else (if (pp2 - pp2 / 16 * 16) = 11 then (xbI (F_L_call oo1 2 1 0 0 σ2) (fun (zz29 : Int32) (σ28 : xS) => if 3 ≤ zz29 then (xbI (F_L_call oo1 14 0 0 0 σ28) (fun (zz31 : Int32) (σ30 : xS) => some (zz31, σ30)))
 else (some ((-1 : Int32), σ28))))
 else (if (pp2 - pp2 / 16 * 16) = 12 then (if ¬ (zz1 - zz1 / 2 * 2) = 0 then (xbI (F_L_call oo1 20 ((zz1 / 2) - (zz1 / 2) / 2 * 2) 0 0 σ2) (fun (zz34 : Int32) (σ33 : xS) => some (zz34, σ33)))
 else (xbI (F_L_call oo1 19 ((zz1 / 2) - (zz1 / 2) / 2 * 2) 0 0 σ2) (fun (zz36 : Int32) (σ35 : xS) => some (zz36, σ35))))
 else (xbI (F_L_call oo1 12 (1 + (zz1 - zz1 / 12 * 12)) 0 0 σ2) (fun (zz39 : Int32) (σ38 : xS) => some (zz39, σ38)))))))))))) else none))
abbrev rm_L_act : Room := { frames := 11, cells := 9, slots := 54, locals := 220 }
set_option maxHeartbeats 4000000 in
set_option maxRecDepth 100000 in
theorem c_L_act (l : Launch) {D : va_G} {ad : Nat → Nat} {N : Nat} {Sh : xSh} (hI : ∀ i j, i < N → j < N → ad i = ad j → i = j) (hst : l.stackTraces = false) (oo1 : Nat) (hh1 : xIs5 D ad N Sh oo1) (pp2 : Int32) (σ : xS) : xKI l yL_act (Cond.code yL_act cL_act 5 (some .int) :: wG) rm_L_act 9 54 D ad N Sh [.ref (ad oo1), .int pp2] σ (F_L_act oo1 pp2 σ) := by
  refine x_startI (own := RL) (maxL := 5) (by decide) rfl rfl (Nat.le_of_ble_eq_true rfl) rfl hI (fun Γ hl hnL X => ?_)
  subst hl
  unfold F_L_act
  refine xr_iload_n (pc := 0) X (i := 1) 1 rfl rfl dL_act_0 ?_
  refine xr_bipush (pc := 1) X dL_act_1 (v := 16) (by decide) ?_
  refine xr_idiv (pc := 3) X (by decide) dL_act_3 ?_
  refine x_leti (fun zz1 => ?_)
  refine xr_istore_n (pc := 4) X (hf := rfl) (i := 2) [1, 2, 0] (Nat.le_of_ble_eq_true rfl) hnL rfl dL_act_4 ?_
  refine xr_aload_n (pc := 5) X (i := 0) 0 rfl rfl dL_act_5 ?_
  refine xr_iconst (pc := 6) X dL_act_6 (v := 2) (by decide) ?_
  refine xr_iconst (pc := 7) X dL_act_7 (v := 0) (by decide) ?_
  refine xr_iconst (pc := 8) X dL_act_8 (v := 0) (by decide) ?_
  refine xr_iconst (pc := 9) X dL_act_9 (v := 0) (by decide) ?_
  refine xr_callSI (na := 5) (pc := 10) X [.ref (ad oo1), .int 2, .int 0, .int 0, .int 0] (c_L_call Γ.2.1 hI hst oo1 hh1 2 0 0 0 σ) (wG_S wm_5_23 wm_5_21 wm_5_22 wm_5_14) rfl rfl rfl (by decide +kernel) ⟨Nat.le_of_ble_eq_true rfl, Nat.le_of_ble_eq_true rfl⟩ rfl rfl (Nat.le_of_ble_eq_true rfl) ⟨(show _ ≤ 9 by omega), (show _ ≤ 54 by omega)⟩ dL_act_10 (fun zz3 σ2 => ?_)
  refine xr_istore_n (pc := 13) X (hf := rfl) (i := 3) [1, 2, 3, 0] (Nat.le_of_ble_eq_true rfl) hnL rfl dL_act_13 ?_
  refine xr_iload_n (pc := 14) X (i := 2) 2 rfl rfl dL_act_14 ?_
  refine xr_iload_n (pc := 15) X (i := 3) 3 rfl rfl dL_act_15 ?_
  refine x_gd (fun hzz4 => ?_)
  refine xr_irem (pc := 16) X hzz4 dL_act_16 ?_
  refine x_leti (fun zz5 => ?_)
  refine xr_istore (pc := 17) X (i := 4) [1, 2, 3, 0] (Nat.le_of_ble_eq_true rfl) hnL rfl dL_act_17 ?_
  refine xr_iload_n (pc := 19) X (i := 1) 1 rfl rfl dL_act_19 ?_
  refine xr_bipush (pc := 20) X dL_act_20 (v := 16) (by decide) ?_
  refine xr_irem (pc := 22) X (by decide) dL_act_22 ?_
  refine x_if (fun hcc10 => ?_) (fun hcc10 => ?_)
  · refine xr_tin (off := 65) (pc := 23) X 88 dL_act_23 (by rw [hcc10]; decide) (by rw [hcc10]; decide) (by rw [hcc10]; rfl) (by decide) ?_
    refine xr_iload_n (pc := 88) X (i := 2) 2 rfl rfl dL_act_88 ?_
    refine xr_iconst (pc := 89) X dL_act_89 (v := 5) (by decide) ?_
    refine xr_irem (pc := 90) X (by decide) dL_act_90 ?_
    refine xr_if_ne (pc := 91) X 112 (by decide) dL_act_91 (fun _ => ?_) (fun _ => ?_)
    · refine xr_aload_n (pc := 112) X (i := 0) 0 rfl rfl dL_act_112 ?_
      refine xr_bipush (pc := 113) X dL_act_113 (v := 9) (by decide) ?_
      refine xr_iload (pc := 115) X (i := 4) 3 rfl dL_act_115 ?_
      refine xr_iconst (pc := 117) X dL_act_117 (v := 1) (by decide) ?_
      refine xr_iload_n (pc := 118) X (i := 2) 2 rfl rfl dL_act_118 ?_
      refine xr_iconst (pc := 119) X dL_act_119 (v := 4) (by decide) ?_
      refine xr_idiv (pc := 120) X (by decide) dL_act_120 ?_
      refine xr_sipush (pc := 121) X dL_act_121 (v := 300) (by decide) ?_
      refine xr_irem (pc := 124) X (by decide) dL_act_124 ?_
      refine xr_iadd (pc := 125) X dL_act_125 ?_
      refine xr_iconst (pc := 126) X dL_act_126 (v := 0) (by decide) ?_
      refine xr_callSI (na := 5) (pc := 127) X [.ref (ad oo1), .int 9, .int zz5, .int (1 + ((zz1 / 4) - (zz1 / 4) / 300 * 300)), .int 0] (c_L_call Γ.2.1 hI hst oo1 hh1 9 zz5 (1 + ((zz1 / 4) - (zz1 / 4) / 300 * 300)) 0 σ2) (wG_S wm_5_23 wm_5_21 wm_5_22 wm_5_14) rfl rfl rfl (by decide +kernel) ⟨Nat.le_of_ble_eq_true rfl, Nat.le_of_ble_eq_true rfl⟩ rfl rfl (Nat.le_of_ble_eq_true rfl) ⟨(show _ ≤ 9 by omega), (show _ ≤ 54 by omega)⟩ dL_act_127 (fun zz7 σ6 => ?_)
      exact xr_iret (pc := 130) X (Nat.le_of_ble_eq_true rfl) (Nat.le_of_ble_eq_true rfl) dL_act_130
    refine xr_aload_n (pc := 94) X (i := 0) 0 rfl rfl dL_act_94 ?_
    refine xr_bipush (pc := 95) X dL_act_95 (v := 8) (by decide) ?_
    refine xr_iconst (pc := 97) X dL_act_97 (v := 1) (by decide) ?_
    refine xr_iload_n (pc := 98) X (i := 2) 2 rfl rfl dL_act_98 ?_
    refine xr_iconst (pc := 99) X dL_act_99 (v := 5) (by decide) ?_
    refine xr_idiv (pc := 100) X (by decide) dL_act_100 ?_
    refine xr_iconst (pc := 101) X dL_act_101 (v := 4) (by decide) ?_
    refine xr_irem (pc := 102) X (by decide) dL_act_102 ?_
    refine xr_iadd (pc := 103) X dL_act_103 ?_
    refine xr_iconst (pc := 104) X dL_act_104 (v := 0) (by decide) ?_
    refine xr_iconst (pc := 105) X dL_act_105 (v := 0) (by decide) ?_
    refine xr_callSI (na := 5) (pc := 106) X [.ref (ad oo1), .int 8, .int (1 + ((zz1 / 5) - (zz1 / 5) / 4 * 4)), .int 0, .int 0] (c_L_call Γ.2.1 hI hst oo1 hh1 8 (1 + ((zz1 / 5) - (zz1 / 5) / 4 * 4)) 0 0 σ2) (wG_S wm_5_23 wm_5_21 wm_5_22 wm_5_14) rfl rfl rfl (by decide +kernel) ⟨Nat.le_of_ble_eq_true rfl, Nat.le_of_ble_eq_true rfl⟩ rfl rfl (Nat.le_of_ble_eq_true rfl) ⟨(show _ ≤ 9 by omega), (show _ ≤ 54 by omega)⟩ dL_act_106 (fun zz9 σ8 => ?_)
    refine xr_goto (pc := 109) X 130 (by decide) dL_act_109 ?_
    exact xr_iret (pc := 130) X (Nat.le_of_ble_eq_true rfl) (Nat.le_of_ble_eq_true rfl) dL_act_130
  refine x_if (fun hcc13 => ?_) (fun hcc13 => ?_)
  · refine xr_tin (off := 108) (pc := 23) X 131 dL_act_23 (by rcases hcc13 with hq9 | hq9 | hq9 | hq9 <;> (rw [hq9]; decide)) (by rcases hcc13 with hq9 | hq9 | hq9 | hq9 <;> (rw [hq9]; decide)) (by rcases hcc13 with hq9 | hq9 | hq9 | hq9 <;> (rw [hq9]; rfl)) (by decide) ?_
    refine xr_aload_n (pc := 131) X (i := 0) 0 rfl rfl dL_act_131 ?_
    refine xr_bipush (pc := 132) X dL_act_132 (v := 9) (by decide) ?_
    refine xr_iload (pc := 134) X (i := 4) 3 rfl dL_act_134 ?_
    refine xr_iconst (pc := 136) X dL_act_136 (v := 1) (by decide) ?_
    refine xr_iload_n (pc := 137) X (i := 2) 2 rfl rfl dL_act_137 ?_
    refine xr_iconst (pc := 138) X dL_act_138 (v := 4) (by decide) ?_
    refine xr_idiv (pc := 139) X (by decide) dL_act_139 ?_
    refine xr_bipush (pc := 140) X dL_act_140 (v := 50) (by decide) ?_
    refine xr_irem (pc := 142) X (by decide) dL_act_142 ?_
    refine xr_iadd (pc := 143) X dL_act_143 ?_
    refine xr_iconst (pc := 144) X dL_act_144 (v := 0) (by decide) ?_
    refine xr_callSI (na := 5) (pc := 145) X [.ref (ad oo1), .int 9, .int zz5, .int (1 + ((zz1 / 4) - (zz1 / 4) / 50 * 50)), .int 0] (c_L_call Γ.2.1 hI hst oo1 hh1 9 zz5 (1 + ((zz1 / 4) - (zz1 / 4) / 50 * 50)) 0 σ2) (wG_S wm_5_23 wm_5_21 wm_5_22 wm_5_14) rfl rfl rfl (by decide +kernel) ⟨Nat.le_of_ble_eq_true rfl, Nat.le_of_ble_eq_true rfl⟩ rfl rfl (Nat.le_of_ble_eq_true rfl) ⟨(show _ ≤ 9 by omega), (show _ ≤ 54 by omega)⟩ dL_act_145 (fun zz12 σ11 => ?_)
    exact xr_iret (pc := 148) X (Nat.le_of_ble_eq_true rfl) (Nat.le_of_ble_eq_true rfl) dL_act_148
  refine x_if (fun hcc16 => ?_) (fun hcc16 => ?_)
  · refine xr_tin (off := 126) (pc := 23) X 149 dL_act_23 (by rcases hcc16 with hq9 | hq9 <;> (rw [hq9]; decide)) (by rcases hcc16 with hq9 | hq9 <;> (rw [hq9]; decide)) (by rcases hcc16 with hq9 | hq9 <;> (rw [hq9]; rfl)) (by decide) ?_
    refine xr_aload_n (pc := 149) X (i := 0) 0 rfl rfl dL_act_149 ?_
    refine xr_bipush (pc := 150) X dL_act_150 (v := 10) (by decide) ?_
    refine xr_iconst (pc := 152) X dL_act_152 (v := 1) (by decide) ?_
    refine xr_iload_n (pc := 153) X (i := 2) 2 rfl rfl dL_act_153 ?_
    refine xr_iconst (pc := 154) X dL_act_154 (v := 4) (by decide) ?_
    refine xr_idiv (pc := 155) X (by decide) dL_act_155 ?_
    refine xr_bipush (pc := 156) X dL_act_156 (v := 25) (by decide) ?_
    refine xr_irem (pc := 158) X (by decide) dL_act_158 ?_
    refine xr_iadd (pc := 159) X dL_act_159 ?_
    refine xr_iload (pc := 160) X (i := 4) 3 rfl dL_act_160 ?_
    refine xr_iconst (pc := 162) X dL_act_162 (v := 1) (by decide) ?_
    refine xr_iload_n (pc := 163) X (i := 2) 2 rfl rfl dL_act_163 ?_
    refine xr_bipush (pc := 164) X dL_act_164 (v := 100) (by decide) ?_
    refine xr_idiv (pc := 166) X (by decide) dL_act_166 ?_
    refine xr_bipush (pc := 167) X dL_act_167 (v := 60) (by decide) ?_
    refine xr_irem (pc := 169) X (by decide) dL_act_169 ?_
    refine xr_iadd (pc := 170) X dL_act_170 ?_
    refine xr_callSI (na := 5) (pc := 171) X [.ref (ad oo1), .int 10, .int (1 + ((zz1 / 4) - (zz1 / 4) / 25 * 25)), .int zz5, .int (1 + ((zz1 / 100) - (zz1 / 100) / 60 * 60))] (c_L_call Γ.2.1 hI hst oo1 hh1 10 (1 + ((zz1 / 4) - (zz1 / 4) / 25 * 25)) zz5 (1 + ((zz1 / 100) - (zz1 / 100) / 60 * 60)) σ2) (wG_S wm_5_23 wm_5_21 wm_5_22 wm_5_14) rfl rfl rfl (by decide +kernel) ⟨Nat.le_of_ble_eq_true rfl, Nat.le_of_ble_eq_true rfl⟩ rfl rfl (Nat.le_of_ble_eq_true rfl) ⟨(show _ ≤ 9 by omega), (show _ ≤ 54 by omega)⟩ dL_act_171 (fun zz15 σ14 => ?_)
    exact xr_iret (pc := 174) X (Nat.le_of_ble_eq_true rfl) (Nat.le_of_ble_eq_true rfl) dL_act_174
  refine x_if (fun hcc21 => ?_) (fun hcc21 => ?_)
  · refine xr_tin (off := 152) (pc := 23) X 175 dL_act_23 (by rw [hcc21]; decide) (by rw [hcc21]; decide) (by rw [hcc21]; rfl) (by decide) ?_
    refine xr_aload_n (pc := 175) X (i := 0) 0 rfl rfl dL_act_175 ?_
    refine xr_iload (pc := 176) X (i := 4) 3 rfl dL_act_176 ?_
    refine xr_iload_n (pc := 178) X (i := 2) 2 rfl rfl dL_act_178 ?_
    refine xr_iconst (pc := 179) X dL_act_179 (v := 4) (by decide) ?_
    refine xr_idiv (pc := 180) X (by decide) dL_act_180 ?_
    refine xr_iconst (pc := 181) X dL_act_181 (v := 2) (by decide) ?_
    refine xr_irem (pc := 182) X (by decide) dL_act_182 ?_
    refine xr_iconst (pc := 183) X dL_act_183 (v := 1) (by decide) ?_
    refine xr_icmp_ne (pc := 184) X 191 (by decide) dL_act_184 (fun _ => ?_) (fun _ => ?_)
    · refine xr_iconst (pc := 191) X dL_act_191 (v := 0) (by decide) ?_
      refine xr_callSWI (na := 3) (pc := 192) X [.ref (ad oo1), .int zz5, .int 0] (c_L_holds Γ.2.1 hI hst oo1 hh1 zz5 0 σ2) (wG_SW wm_21_22 wm_21_20 wm_21_21 wm_5_14) rfl rfl rfl (by decide +kernel) ⟨Nat.le_of_ble_eq_true rfl, Nat.le_of_ble_eq_true rfl⟩ rfl rfl (Nat.le_of_ble_eq_true rfl) ⟨(show _ ≤ 9 by omega), (show _ ≤ 54 by omega)⟩ dL_act_192 (fun zz18 σ17 => ?_)
      exact xr_iret (pc := 195) X (Nat.le_of_ble_eq_true rfl) (Nat.le_of_ble_eq_true rfl) dL_act_195
    refine xr_iconst (pc := 187) X dL_act_187 (v := 1) (by decide) ?_
    refine xr_goto (pc := 188) X 192 (by decide) dL_act_188 ?_
    refine xr_callSWI (na := 3) (pc := 192) X [.ref (ad oo1), .int zz5, .int 1] (c_L_holds Γ.2.1 hI hst oo1 hh1 zz5 1 σ2) (wG_SW wm_21_22 wm_21_20 wm_21_21 wm_5_14) rfl rfl rfl (by decide +kernel) ⟨Nat.le_of_ble_eq_true rfl, Nat.le_of_ble_eq_true rfl⟩ rfl rfl (Nat.le_of_ble_eq_true rfl) ⟨(show _ ≤ 9 by omega), (show _ ≤ 54 by omega)⟩ dL_act_192 (fun zz20 σ19 => ?_)
    exact xr_iret (pc := 195) X (Nat.le_of_ble_eq_true rfl) (Nat.le_of_ble_eq_true rfl) dL_act_195
  refine x_if (fun hcc24 => ?_) (fun hcc24 => ?_)
  · refine xr_tin (off := 173) (pc := 23) X 196 dL_act_23 (by rw [hcc24]; decide) (by rw [hcc24]; decide) (by rw [hcc24]; rfl) (by decide) ?_
    refine xr_aload_n (pc := 196) X (i := 0) 0 rfl rfl dL_act_196 ?_
    refine xr_bipush (pc := 197) X dL_act_197 (v := 11) (by decide) ?_
    refine xr_iload (pc := 199) X (i := 4) 3 rfl dL_act_199 ?_
    refine xr_iconst (pc := 201) X dL_act_201 (v := 0) (by decide) ?_
    refine xr_iconst (pc := 202) X dL_act_202 (v := 0) (by decide) ?_
    refine xr_callSI (na := 5) (pc := 203) X [.ref (ad oo1), .int 11, .int zz5, .int 0, .int 0] (c_L_call Γ.2.1 hI hst oo1 hh1 11 zz5 0 0 σ2) (wG_S wm_5_23 wm_5_21 wm_5_22 wm_5_14) rfl rfl rfl (by decide +kernel) ⟨Nat.le_of_ble_eq_true rfl, Nat.le_of_ble_eq_true rfl⟩ rfl rfl (Nat.le_of_ble_eq_true rfl) ⟨(show _ ≤ 9 by omega), (show _ ≤ 54 by omega)⟩ dL_act_203 (fun zz23 σ22 => ?_)
    exact xr_iret (pc := 206) X (Nat.le_of_ble_eq_true rfl) (Nat.le_of_ble_eq_true rfl) dL_act_206
  refine x_if (fun hcc27 => ?_) (fun hcc27 => ?_)
  · refine xr_tin (off := 184) (pc := 23) X 207 dL_act_23 (by rcases hcc27 with hq9 | hq9 <;> (rw [hq9]; decide)) (by rcases hcc27 with hq9 | hq9 <;> (rw [hq9]; decide)) (by rcases hcc27 with hq9 | hq9 <;> (rw [hq9]; rfl)) (by decide) ?_
    refine xr_aload_n (pc := 207) X (i := 0) 0 rfl rfl dL_act_207 ?_
    refine xr_bipush (pc := 208) X dL_act_208 (v := 13) (by decide) ?_
    refine xr_iload_n (pc := 210) X (i := 2) 2 rfl rfl dL_act_210 ?_
    refine xr_iconst (pc := 211) X dL_act_211 (v := 4) (by decide) ?_
    refine xr_irem (pc := 212) X (by decide) dL_act_212 ?_
    refine xr_iload_n (pc := 213) X (i := 2) 2 rfl rfl dL_act_213 ?_
    refine xr_iconst (pc := 214) X dL_act_214 (v := 4) (by decide) ?_
    refine xr_idiv (pc := 215) X (by decide) dL_act_215 ?_
    refine xr_bipush (pc := 216) X dL_act_216 (v := 22) (by decide) ?_
    refine xr_irem (pc := 218) X (by decide) dL_act_218 ?_
    refine xr_iconst (pc := 219) X dL_act_219 (v := 0) (by decide) ?_
    refine xr_callSI (na := 5) (pc := 220) X [.ref (ad oo1), .int 13, .int (zz1 - zz1 / 4 * 4), .int ((zz1 / 4) - (zz1 / 4) / 22 * 22), .int 0] (c_L_call Γ.2.1 hI hst oo1 hh1 13 (zz1 - zz1 / 4 * 4) ((zz1 / 4) - (zz1 / 4) / 22 * 22) 0 σ2) (wG_S wm_5_23 wm_5_21 wm_5_22 wm_5_14) rfl rfl rfl (by decide +kernel) ⟨Nat.le_of_ble_eq_true rfl, Nat.le_of_ble_eq_true rfl⟩ rfl rfl (Nat.le_of_ble_eq_true rfl) ⟨(show _ ≤ 9 by omega), (show _ ≤ 54 by omega)⟩ dL_act_220 (fun zz26 σ25 => ?_)
    exact xr_iret (pc := 223) X (Nat.le_of_ble_eq_true rfl) (Nat.le_of_ble_eq_true rfl) dL_act_223
  refine x_if (fun hcc32 => ?_) (fun hcc32 => ?_)
  · refine xr_tin (off := 201) (pc := 23) X 224 dL_act_23 (by rw [hcc32]; decide) (by rw [hcc32]; decide) (by rw [hcc32]; rfl) (by decide) ?_
    refine xr_aload_n (pc := 224) X (i := 0) 0 rfl rfl dL_act_224 ?_
    refine xr_iconst (pc := 225) X dL_act_225 (v := 2) (by decide) ?_
    refine xr_iconst (pc := 226) X dL_act_226 (v := 1) (by decide) ?_
    refine xr_iconst (pc := 227) X dL_act_227 (v := 0) (by decide) ?_
    refine xr_iconst (pc := 228) X dL_act_228 (v := 0) (by decide) ?_
    refine xr_callSI (na := 5) (pc := 229) X [.ref (ad oo1), .int 2, .int 1, .int 0, .int 0] (c_L_call Γ.2.1 hI hst oo1 hh1 2 1 0 0 σ2) (wG_S wm_5_23 wm_5_21 wm_5_22 wm_5_14) rfl rfl rfl (by decide +kernel) ⟨Nat.le_of_ble_eq_true rfl, Nat.le_of_ble_eq_true rfl⟩ rfl rfl (Nat.le_of_ble_eq_true rfl) ⟨(show _ ≤ 9 by omega), (show _ ≤ 54 by omega)⟩ dL_act_229 (fun zz29 σ28 => ?_)
    refine xr_iconst (pc := 232) X dL_act_232 (v := 3) (by decide) ?_
    refine xr_icmp_ge (pc := 233) X 240 (by decide) dL_act_233 (fun _ => ?_) (fun _ => ?_)
    · refine xr_aload_n (pc := 240) X (i := 0) 0 rfl rfl dL_act_240 ?_
      refine xr_bipush (pc := 241) X dL_act_241 (v := 14) (by decide) ?_
      refine xr_iconst (pc := 243) X dL_act_243 (v := 0) (by decide) ?_
      refine xr_iconst (pc := 244) X dL_act_244 (v := 0) (by decide) ?_
      refine xr_iconst (pc := 245) X dL_act_245 (v := 0) (by decide) ?_
      refine xr_callSI (na := 5) (pc := 246) X [.ref (ad oo1), .int 14, .int 0, .int 0, .int 0] (c_L_call Γ.2.1 hI hst oo1 hh1 14 0 0 0 σ28) (wG_S wm_5_23 wm_5_21 wm_5_22 wm_5_14) rfl rfl rfl (by decide +kernel) ⟨Nat.le_of_ble_eq_true rfl, Nat.le_of_ble_eq_true rfl⟩ rfl rfl (Nat.le_of_ble_eq_true rfl) ⟨(show _ ≤ 9 by omega), (show _ ≤ 54 by omega)⟩ dL_act_246 (fun zz31 σ30 => ?_)
      exact xr_iret (pc := 249) X (Nat.le_of_ble_eq_true rfl) (Nat.le_of_ble_eq_true rfl) dL_act_249
    refine xr_iconst (pc := 236) X dL_act_236 (v := (-1)) (by decide) ?_
    refine xr_goto (pc := 237) X 249 (by decide) dL_act_237 ?_
    exact xr_iret (pc := 249) X (Nat.le_of_ble_eq_true rfl) (Nat.le_of_ble_eq_true rfl) dL_act_249
  refine x_if (fun hcc37 => ?_) (fun hcc37 => ?_)
  · refine xr_tin (off := 227) (pc := 23) X 250 dL_act_23 (by rw [hcc37]; decide) (by rw [hcc37]; decide) (by rw [hcc37]; rfl) (by decide) ?_
    refine xr_iload_n (pc := 250) X (i := 2) 2 rfl rfl dL_act_250 ?_
    refine xr_iconst (pc := 251) X dL_act_251 (v := 2) (by decide) ?_
    refine xr_irem (pc := 252) X (by decide) dL_act_252 ?_
    refine xr_if_ne (pc := 253) X 272 (by decide) dL_act_253 (fun _ => ?_) (fun _ => ?_)
    · refine xr_aload_n (pc := 272) X (i := 0) 0 rfl rfl dL_act_272 ?_
      refine xr_bipush (pc := 273) X dL_act_273 (v := 20) (by decide) ?_
      refine xr_iload_n (pc := 275) X (i := 2) 2 rfl rfl dL_act_275 ?_
      refine xr_iconst (pc := 276) X dL_act_276 (v := 2) (by decide) ?_
      refine xr_idiv (pc := 277) X (by decide) dL_act_277 ?_
      refine xr_iconst (pc := 278) X dL_act_278 (v := 2) (by decide) ?_
      refine xr_irem (pc := 279) X (by decide) dL_act_279 ?_
      refine xr_iconst (pc := 280) X dL_act_280 (v := 0) (by decide) ?_
      refine xr_iconst (pc := 281) X dL_act_281 (v := 0) (by decide) ?_
      refine xr_callSI (na := 5) (pc := 282) X [.ref (ad oo1), .int 20, .int ((zz1 / 2) - (zz1 / 2) / 2 * 2), .int 0, .int 0] (c_L_call Γ.2.1 hI hst oo1 hh1 20 ((zz1 / 2) - (zz1 / 2) / 2 * 2) 0 0 σ2) (wG_S wm_5_23 wm_5_21 wm_5_22 wm_5_14) rfl rfl rfl (by decide +kernel) ⟨Nat.le_of_ble_eq_true rfl, Nat.le_of_ble_eq_true rfl⟩ rfl rfl (Nat.le_of_ble_eq_true rfl) ⟨(show _ ≤ 9 by omega), (show _ ≤ 54 by omega)⟩ dL_act_282 (fun zz34 σ33 => ?_)
      exact xr_iret (pc := 285) X (Nat.le_of_ble_eq_true rfl) (Nat.le_of_ble_eq_true rfl) dL_act_285
    refine xr_aload_n (pc := 256) X (i := 0) 0 rfl rfl dL_act_256 ?_
    refine xr_bipush (pc := 257) X dL_act_257 (v := 19) (by decide) ?_
    refine xr_iload_n (pc := 259) X (i := 2) 2 rfl rfl dL_act_259 ?_
    refine xr_iconst (pc := 260) X dL_act_260 (v := 2) (by decide) ?_
    refine xr_idiv (pc := 261) X (by decide) dL_act_261 ?_
    refine xr_iconst (pc := 262) X dL_act_262 (v := 2) (by decide) ?_
    refine xr_irem (pc := 263) X (by decide) dL_act_263 ?_
    refine xr_iconst (pc := 264) X dL_act_264 (v := 0) (by decide) ?_
    refine xr_iconst (pc := 265) X dL_act_265 (v := 0) (by decide) ?_
    refine xr_callSI (na := 5) (pc := 266) X [.ref (ad oo1), .int 19, .int ((zz1 / 2) - (zz1 / 2) / 2 * 2), .int 0, .int 0] (c_L_call Γ.2.1 hI hst oo1 hh1 19 ((zz1 / 2) - (zz1 / 2) / 2 * 2) 0 0 σ2) (wG_S wm_5_23 wm_5_21 wm_5_22 wm_5_14) rfl rfl rfl (by decide +kernel) ⟨Nat.le_of_ble_eq_true rfl, Nat.le_of_ble_eq_true rfl⟩ rfl rfl (Nat.le_of_ble_eq_true rfl) ⟨(show _ ≤ 9 by omega), (show _ ≤ 54 by omega)⟩ dL_act_266 (fun zz36 σ35 => ?_)
    refine xr_goto (pc := 269) X 285 (by decide) dL_act_269 ?_
    exact xr_iret (pc := 285) X (Nat.le_of_ble_eq_true rfl) (Nat.le_of_ble_eq_true rfl) dL_act_285
  refine xr_tout (pc := 23) X 286 dL_act_23 (by have g0 := xne hcc10 (j := 0) (by decide); have g1 := xne (fun e => hcc13 (Or.inl e)) (j := 1) (by decide); have g2 := xne (fun e => hcc13 (Or.inr (Or.inl e))) (j := 2) (by decide); have g3 := xne (fun e => hcc13 (Or.inr (Or.inr (Or.inl e)))) (j := 3) (by decide); have g4 := xne (fun e => hcc13 (Or.inr (Or.inr (Or.inr (e))))) (j := 4) (by decide); have g5 := xne (fun e => hcc16 (Or.inl e)) (j := 5) (by decide); have g6 := xne (fun e => hcc16 (Or.inr (e))) (j := 6) (by decide); have g7 := xne hcc21 (j := 7) (by decide); have g8 := xne hcc24 (j := 8) (by decide); have g9 := xne (fun e => hcc27 (Or.inl e)) (j := 9) (by decide); have g10 := xne (fun e => hcc27 (Or.inr (e))) (j := 10) (by decide); have g11 := xne hcc32 (j := 11) (by decide); have g12 := xne hcc37 (j := 12) (by decide); omega) (by decide) ?_
  refine xr_aload_n (pc := 286) X (i := 0) 0 rfl rfl dL_act_286 ?_
  refine xr_bipush (pc := 287) X dL_act_287 (v := 12) (by decide) ?_
  refine xr_iconst (pc := 289) X dL_act_289 (v := 1) (by decide) ?_
  refine xr_iload_n (pc := 290) X (i := 2) 2 rfl rfl dL_act_290 ?_
  refine xr_bipush (pc := 291) X dL_act_291 (v := 12) (by decide) ?_
  refine xr_irem (pc := 293) X (by decide) dL_act_293 ?_
  refine xr_iadd (pc := 294) X dL_act_294 ?_
  refine xr_iconst (pc := 295) X dL_act_295 (v := 0) (by decide) ?_
  refine xr_iconst (pc := 296) X dL_act_296 (v := 0) (by decide) ?_
  refine xr_callSI (na := 5) (pc := 297) X [.ref (ad oo1), .int 12, .int (1 + (zz1 - zz1 / 12 * 12)), .int 0, .int 0] (c_L_call Γ.2.1 hI hst oo1 hh1 12 (1 + (zz1 - zz1 / 12 * 12)) 0 0 σ2) (wG_S wm_5_23 wm_5_21 wm_5_22 wm_5_14) rfl rfl rfl (by decide +kernel) ⟨Nat.le_of_ble_eq_true rfl, Nat.le_of_ble_eq_true rfl⟩ rfl rfl (Nat.le_of_ble_eq_true rfl) ⟨(show _ ≤ 9 by omega), (show _ ≤ 54 by omega)⟩ dL_act_297 (fun zz39 σ38 => ?_)
  exact xr_iret (pc := 300) X (Nat.le_of_ble_eq_true rfl) (Nat.le_of_ble_eq_true rfl) dL_act_300
def L_L_alike_36 (oo1 : Nat) (oo2 : Nat) (pp3 : Int32) (KK17 : Int32 → xS → Option (Int32 × xS)) : Nat → Int32 → Int32 → xS → Option (Int32 × xS)
  | 0, _, _, _ => none
  | nn_14 + 1, zz11, zz12, σ13 => if 9 ≤ zz12 then (KK17 zz11 σ13)
 else (if zz11 = 0 then (KK17 zz11 σ13)
 else (xbI (F_L_call oo1 2 zz12 0 0 σ13) (fun (zz21 : Int32) (σ20 : xS) => xbI (F_L_call oo2 2 zz12 0 0 σ20) (fun (zz23 : Int32) (σ22 : xS) => if ¬ zz21 = zz23 then (xlet (zz12 + 1) (fun (zz24 : Int32) => L_L_alike_36 oo1 oo2 pp3 KK17 nn_14 0 zz24 σ22))
 else (xbI (F_L_call oo1 7 zz12 0 0 σ22) (fun (zz26 : Int32) (σ25 : xS) => xbI (F_L_call oo2 7 zz12 0 0 σ25) (fun (zz28 : Int32) (σ27 : xS) => if ¬ zz26 = zz28 then (xlet (zz12 + 1) (fun (zz29 : Int32) => L_L_alike_36 oo1 oo2 pp3 KK17 nn_14 0 zz29 σ27))
 else (xbI (F_L_call oo1 3 (zz12 - zz12 / 4 * 4) (pp3 - pp3 / 7 * 7) 0 σ27) (fun (zz31 : Int32) (σ30 : xS) => xbI (F_L_call oo2 3 (zz12 - zz12 / 4 * 4) (pp3 - pp3 / 7 * 7) 0 σ30) (fun (zz33 : Int32) (σ32 : xS) => if ¬ zz31 = zz33 then (xlet (zz12 + 1) (fun (zz34 : Int32) => L_L_alike_36 oo1 oo2 pp3 KK17 nn_14 0 zz34 σ32))
 else (xbI (F_L_call oo1 4 (zz12 - zz12 / 4 * 4) (pp3 - pp3 / 6 * 6) 0 σ32) (fun (zz36 : Int32) (σ35 : xS) => xbI (F_L_call oo2 4 (zz12 - zz12 / 4 * 4) (pp3 - pp3 / 6 * 6) 0 σ35) (fun (zz38 : Int32) (σ37 : xS) => if ¬ zz36 = zz38 then (xlet (zz12 + 1) (fun (zz39 : Int32) => L_L_alike_36 oo1 oo2 pp3 KK17 nn_14 0 zz39 σ37))
 else (xbI (F_L_call oo1 5 (pp3 - pp3 / 4 * 4) zz12 (pp3 - pp3 / 2 * 2) σ37) (fun (zz41 : Int32) (σ40 : xS) => xbI (F_L_call oo2 5 (pp3 - pp3 / 4 * 4) zz12 (pp3 - pp3 / 2 * 2) σ40) (fun (zz43 : Int32) (σ42 : xS) => if ¬ zz41 = zz43 then (xlet (zz12 + 1) (fun (zz44 : Int32) => L_L_alike_36 oo1 oo2 pp3 KK17 nn_14 0 zz44 σ42))
 else (xbI (F_L_call oo1 6 zz12 (pp3 - pp3 / 3 * 3) 0 σ42) (fun (zz46 : Int32) (σ45 : xS) => xbI (F_L_call oo2 6 zz12 (pp3 - pp3 / 3 * 3) 0 σ45) (fun (zz48 : Int32) (σ47 : xS) => if ¬ zz46 = zz48 then (xlet (zz12 + 1) (fun (zz49 : Int32) => L_L_alike_36 oo1 oo2 pp3 KK17 nn_14 0 zz49 σ47))
 else (xlet (zz12 + 1) (fun (zz50 : Int32) => L_L_alike_36 oo1 oo2 pp3 KK17 nn_14 1 zz50 σ47)))))))))))))))))))))
def F_L_alike (oo1 : Nat) (oo2 : Nat) (pp3 : Int32) (σ : xS) : Option (Int32 × xS) :=
  xbI (F_L_doSimulate oo1 pp3.toInt64 (1 + (pp3 - pp3 / 20 * 20)) σ) (fun (zz2 : Int32) (σ1 : xS) => xbI (F_L_doSimulate oo2 pp3.toInt64 (1 + (pp3 - pp3 / 20 * 20)) σ1) (fun (zz4 : Int32) (σ3 : xS) => xjn (fun (zz5 : Int32) (σ6 : xS) => L_L_alike_36 oo1 oo2 pp3 (fun (zz16 : Int32) (σ19 : xS) => if vp_nar .boolean zz16 = zz16 then some (zz16, σ19) else none) 10 zz5 0 σ6)
 (fun (KK7 : Int32 → xS → Option (Int32 × xS)) => if ¬ zz2 = zz4 then (KK7 0 σ3)
 else (KK7 1 σ3))))
abbrev rm_L_alike : Room := { frames := 11, cells := 398, slots := 2388, locals := 220 }
set_option maxHeartbeats 4000000 in
set_option maxRecDepth 100000 in
theorem c_L_alike (l : Launch) {D : va_G} {ad : Nat → Nat} {N : Nat} {Sh : xSh} (hI : ∀ i j, i < N → j < N → ad i = ad j → i = j) (hst : l.stackTraces = false) (oo1 : Nat) (hh1 : xIs5 D ad N Sh oo1) (oo2 : Nat) (hh2 : xIs5 D ad N Sh oo2) (pp3 : Int32) (σ : xS) : xKI l yL_alike (Cond.code yL_alike cL_alike 5 (some .boolean) :: wG) rm_L_alike 398 2388 D ad N Sh [.ref (ad oo1), .ref (ad oo2), .int pp3] σ (F_L_alike oo1 oo2 pp3 σ) := by
  refine x_startI (own := RL) (maxL := 5) (by decide) rfl rfl (Nat.le_of_ble_eq_true rfl) rfl hI (fun Γ hl hnL X => ?_)
  subst hl
  unfold F_L_alike
  refine xr_aload_n (pc := 0) X (i := 0) 0 rfl rfl dL_alike_0 ?_
  refine xr_iload_n (pc := 1) X (i := 2) 2 rfl rfl dL_alike_1 ?_
  refine xr_i2l (pc := 2) X dL_alike_2 ?_
  refine xr_iconst (pc := 3) X dL_alike_3 (v := 1) (by decide) ?_
  refine xr_iload_n (pc := 4) X (i := 2) 2 rfl rfl dL_alike_4 ?_
  refine xr_bipush (pc := 5) X dL_alike_5 (v := 20) (by decide) ?_
  refine xr_irem (pc := 7) X (by decide) dL_alike_7 ?_
  refine xr_iadd (pc := 8) X dL_alike_8 ?_
  refine xr_callSWI (na := 3) (pc := 9) X [.ref (ad oo1), .long pp3.toInt64, .int (1 + (pp3 - pp3 / 20 * 20))] (c_L_doSimulate Γ.2.1 hI hst oo1 hh1 pp3.toInt64 (1 + (pp3 - pp3 / 20 * 20)) σ) (wG_SW wm_22_22 wm_22_20 wm_22_21 wm_5_14) rfl rfl rfl (by decide +kernel) ⟨Nat.le_of_ble_eq_true rfl, Nat.le_of_ble_eq_true rfl⟩ rfl rfl (Nat.le_of_ble_eq_true rfl) ⟨(show _ ≤ 398 by omega), (show _ ≤ 2388 by omega)⟩ dL_alike_9 (fun zz2 σ1 => ?_)
  refine xr_aload_n (pc := 12) X (i := 1) 1 rfl rfl dL_alike_12 ?_
  refine xr_iload_n (pc := 13) X (i := 2) 2 rfl rfl dL_alike_13 ?_
  refine xr_i2l (pc := 14) X dL_alike_14 ?_
  refine xr_iconst (pc := 15) X dL_alike_15 (v := 1) (by decide) ?_
  refine xr_iload_n (pc := 16) X (i := 2) 2 rfl rfl dL_alike_16 ?_
  refine xr_bipush (pc := 17) X dL_alike_17 (v := 20) (by decide) ?_
  refine xr_irem (pc := 19) X (by decide) dL_alike_19 ?_
  refine xr_iadd (pc := 20) X dL_alike_20 ?_
  refine xr_callSWI (na := 3) (pc := 21) X [.ref (ad oo2), .long pp3.toInt64, .int (1 + (pp3 - pp3 / 20 * 20))] (c_L_doSimulate Γ.2.1 hI hst oo2 hh2 pp3.toInt64 (1 + (pp3 - pp3 / 20 * 20)) σ1) (wG_SW wm_22_22 wm_22_20 wm_22_21 wm_5_14) rfl rfl rfl (by decide +kernel) ⟨Nat.le_of_ble_eq_true rfl, Nat.le_of_ble_eq_true rfl⟩ rfl rfl (Nat.le_of_ble_eq_true rfl) ⟨(show _ ≤ 398 by omega), (show _ ≤ 2388 by omega)⟩ dL_alike_21 (fun zz4 σ3 => ?_)
  refine x_jn (fun (KK7 : Int32 → xS → Option (Int32 × xS)) => ∀ zz5 σ6, xM Γ D ad N Sh (xQI Γ D ad N Sh 398 2388) 2 12 (KK7 zz5 σ6) σ6 32 [(0, .ref (ad oo1)), (1, .ref (ad oo2)), (2, .int pp3)] [.int zz5]) (fun zz5 σ6 => ?_) (fun KK7 hKK8 => ?_)
  · refine xr_istore_n (pc := 32) X (hf := rfl) (i := 3) [1, 2, 3, 0] (Nat.le_of_ble_eq_true rfl) hnL rfl dL_alike_32 ?_
    refine xr_iconst (pc := 33) X dL_alike_33 (v := 0) (by decide) ?_
    refine xr_istore (pc := 34) X (i := 4) [1, 2, 3, 4, 0] (Nat.le_of_ble_eq_true rfl) hnL rfl dL_alike_34 ?_
    have hLL51 : ∀ (KK17 : Int32 → xS → Option (Int32 × xS)) (hKK18 : ∀ zz16 σ19, xM Γ D ad N Sh (xQI Γ D ad N Sh 398 2388) 398 2388 (KK17 zz16 σ19) σ19 221 [(3, .int zz16)] []), ∀ (nn_14 : Nat) zz11 zz12 σ13 (kk_9 : Nat), kk_9 + 36 * (nn_14 + 1) ≤ 398 → xM Γ D ad N Sh (xQI Γ D ad N Sh 398 2388) (kk_9 + 0) (6 * kk_9 + 0) (L_L_alike_36 oo1 oo2 pp3 KK17 nn_14 zz11 zz12 σ13) σ13 36 [(0, .ref (ad oo1)), (1, .ref (ad oo2)), (2, .int pp3), (3, .int zz11), (4, .int zz12)] [] := by
      intro KK17 hKK18 nn_14
      induction nn_14 with
      | zero => intro zz11 zz12 σ13 kk_9 _; exact xM_none
      | succ nn_14 ihh15 =>
        intro zz11 zz12 σ13 kk_9 hk_10
        rw [L_L_alike_36]
        refine xr_iload (pc := 36) X (i := 4) 4 rfl dL_alike_36 ?_
        refine xr_bipush (pc := 38) X dL_alike_38 (v := 9) (by decide) ?_
        refine xr_icmp_ge (pc := 40) X 221 (by decide) dL_alike_40 (fun _ => ?_) (fun _ => ?_)
        · exact x_sub [3] rfl (x_wid (by omega) (by omega) (hKK18 _ _))
        refine xr_iload_n (pc := 43) X (i := 3) 3 rfl rfl dL_alike_43 ?_
        refine xr_if_eq (pc := 44) X 221 (by decide) dL_alike_44 (fun _ => ?_) (fun _ => ?_)
        · exact x_sub [3] rfl (x_wid (by omega) (by omega) (hKK18 _ _))
        refine xr_aload_n (pc := 47) X (i := 0) 0 rfl rfl dL_alike_47 ?_
        refine xr_iconst (pc := 48) X dL_alike_48 (v := 2) (by decide) ?_
        refine xr_iload (pc := 49) X (i := 4) 4 rfl dL_alike_49 ?_
        refine xr_iconst (pc := 51) X dL_alike_51 (v := 0) (by decide) ?_
        refine xr_iconst (pc := 52) X dL_alike_52 (v := 0) (by decide) ?_
        refine xr_callSI (na := 5) (pc := 53) X [.ref (ad oo1), .int 2, .int zz12, .int 0, .int 0] (c_L_call Γ.2.1 hI hst oo1 hh1 2 zz12 0 0 σ13) (wG_S wm_5_23 wm_5_21 wm_5_22 wm_5_14) rfl rfl rfl (by decide +kernel) ⟨Nat.le_of_ble_eq_true rfl, Nat.le_of_ble_eq_true rfl⟩ rfl rfl (Nat.le_of_ble_eq_true rfl) ⟨(show _ ≤ 398 by omega), (show _ ≤ 2388 by omega)⟩ dL_alike_53 (fun zz21 σ20 => ?_)
        refine xr_aload_n (pc := 56) X (i := 1) 1 rfl rfl dL_alike_56 ?_
        refine xr_iconst (pc := 57) X dL_alike_57 (v := 2) (by decide) ?_
        refine xr_iload (pc := 58) X (i := 4) 4 rfl dL_alike_58 ?_
        refine xr_iconst (pc := 60) X dL_alike_60 (v := 0) (by decide) ?_
        refine xr_iconst (pc := 61) X dL_alike_61 (v := 0) (by decide) ?_
        refine xr_callSI (na := 5) (pc := 62) X [.ref (ad oo2), .int 2, .int zz12, .int 0, .int 0] (c_L_call Γ.2.1 hI hst oo2 hh2 2 zz12 0 0 σ20) (wG_S wm_5_23 wm_5_21 wm_5_22 wm_5_14) rfl rfl rfl (by decide +kernel) ⟨Nat.le_of_ble_eq_true rfl, Nat.le_of_ble_eq_true rfl⟩ rfl rfl (Nat.le_of_ble_eq_true rfl) ⟨(show _ ≤ 398 by omega), (show _ ≤ 2388 by omega)⟩ dL_alike_62 (fun zz23 σ22 => ?_)
        refine xr_icmp_ne (pc := 65) X 213 (by decide) dL_alike_65 (fun _ => ?_) (fun _ => ?_)
        · refine xr_iconst (pc := 213) X dL_alike_213 (v := 0) (by decide) ?_
          refine xr_istore_n (pc := 214) X (hf := rfl) (i := 3) [1, 2, 3, 0, 4] (Nat.le_of_ble_eq_true rfl) hnL rfl dL_alike_214 ?_
          refine xr_iinc (pc := 215) X (i := 4) (j := 4) [1, 2, 3, 4, 0] (Nat.le_of_ble_eq_true rfl) hnL rfl rfl (fun zz24 => [(0, .ref (ad oo1)), (1, .ref (ad oo2)), (2, .int pp3), (3, .int 0), (4, .int zz24)]) (fun _ => rfl) dL_alike_215 (fun zz24 => ?_)
          refine xr_goto (pc := 218) X 36 (by decide) dL_alike_218 ?_
          exact x_wid (k2 := (kk_9 + 6)) (n2 := 6 * ((kk_9 + 6))) (by omega) (by omega) (ihh15 _ _ _ (kk_9 + 6) (by omega))
        refine xr_aload_n (pc := 68) X (i := 0) 0 rfl rfl dL_alike_68 ?_
        refine xr_bipush (pc := 69) X dL_alike_69 (v := 7) (by decide) ?_
        refine xr_iload (pc := 71) X (i := 4) 4 rfl dL_alike_71 ?_
        refine xr_iconst (pc := 73) X dL_alike_73 (v := 0) (by decide) ?_
        refine xr_iconst (pc := 74) X dL_alike_74 (v := 0) (by decide) ?_
        refine xr_callSI (na := 5) (pc := 75) X [.ref (ad oo1), .int 7, .int zz12, .int 0, .int 0] (c_L_call Γ.2.1 hI hst oo1 hh1 7 zz12 0 0 σ22) (wG_S wm_5_23 wm_5_21 wm_5_22 wm_5_14) rfl rfl rfl (by decide +kernel) ⟨Nat.le_of_ble_eq_true rfl, Nat.le_of_ble_eq_true rfl⟩ rfl rfl (Nat.le_of_ble_eq_true rfl) ⟨(show _ ≤ 398 by omega), (show _ ≤ 2388 by omega)⟩ dL_alike_75 (fun zz26 σ25 => ?_)
        refine xr_aload_n (pc := 78) X (i := 1) 1 rfl rfl dL_alike_78 ?_
        refine xr_bipush (pc := 79) X dL_alike_79 (v := 7) (by decide) ?_
        refine xr_iload (pc := 81) X (i := 4) 4 rfl dL_alike_81 ?_
        refine xr_iconst (pc := 83) X dL_alike_83 (v := 0) (by decide) ?_
        refine xr_iconst (pc := 84) X dL_alike_84 (v := 0) (by decide) ?_
        refine xr_callSI (na := 5) (pc := 85) X [.ref (ad oo2), .int 7, .int zz12, .int 0, .int 0] (c_L_call Γ.2.1 hI hst oo2 hh2 7 zz12 0 0 σ25) (wG_S wm_5_23 wm_5_21 wm_5_22 wm_5_14) rfl rfl rfl (by decide +kernel) ⟨Nat.le_of_ble_eq_true rfl, Nat.le_of_ble_eq_true rfl⟩ rfl rfl (Nat.le_of_ble_eq_true rfl) ⟨(show _ ≤ 398 by omega), (show _ ≤ 2388 by omega)⟩ dL_alike_85 (fun zz28 σ27 => ?_)
        refine xr_icmp_ne (pc := 88) X 213 (by decide) dL_alike_88 (fun _ => ?_) (fun _ => ?_)
        · refine xr_iconst (pc := 213) X dL_alike_213 (v := 0) (by decide) ?_
          refine xr_istore_n (pc := 214) X (hf := rfl) (i := 3) [1, 2, 3, 0, 4] (Nat.le_of_ble_eq_true rfl) hnL rfl dL_alike_214 ?_
          refine xr_iinc (pc := 215) X (i := 4) (j := 4) [1, 2, 3, 4, 0] (Nat.le_of_ble_eq_true rfl) hnL rfl rfl (fun zz29 => [(0, .ref (ad oo1)), (1, .ref (ad oo2)), (2, .int pp3), (3, .int 0), (4, .int zz29)]) (fun _ => rfl) dL_alike_215 (fun zz29 => ?_)
          refine xr_goto (pc := 218) X 36 (by decide) dL_alike_218 ?_
          exact x_wid (k2 := (kk_9 + 12)) (n2 := 6 * ((kk_9 + 12))) (by omega) (by omega) (ihh15 _ _ _ (kk_9 + 12) (by omega))
        refine xr_aload_n (pc := 91) X (i := 0) 0 rfl rfl dL_alike_91 ?_
        refine xr_iconst (pc := 92) X dL_alike_92 (v := 3) (by decide) ?_
        refine xr_iload (pc := 93) X (i := 4) 4 rfl dL_alike_93 ?_
        refine xr_iconst (pc := 95) X dL_alike_95 (v := 4) (by decide) ?_
        refine xr_irem (pc := 96) X (by decide) dL_alike_96 ?_
        refine xr_iload_n (pc := 97) X (i := 2) 2 rfl rfl dL_alike_97 ?_
        refine xr_bipush (pc := 98) X dL_alike_98 (v := 7) (by decide) ?_
        refine xr_irem (pc := 100) X (by decide) dL_alike_100 ?_
        refine xr_iconst (pc := 101) X dL_alike_101 (v := 0) (by decide) ?_
        refine xr_callSI (na := 5) (pc := 102) X [.ref (ad oo1), .int 3, .int (zz12 - zz12 / 4 * 4), .int (pp3 - pp3 / 7 * 7), .int 0] (c_L_call Γ.2.1 hI hst oo1 hh1 3 (zz12 - zz12 / 4 * 4) (pp3 - pp3 / 7 * 7) 0 σ27) (wG_S wm_5_23 wm_5_21 wm_5_22 wm_5_14) rfl rfl rfl (by decide +kernel) ⟨Nat.le_of_ble_eq_true rfl, Nat.le_of_ble_eq_true rfl⟩ rfl rfl (Nat.le_of_ble_eq_true rfl) ⟨(show _ ≤ 398 by omega), (show _ ≤ 2388 by omega)⟩ dL_alike_102 (fun zz31 σ30 => ?_)
        refine xr_aload_n (pc := 105) X (i := 1) 1 rfl rfl dL_alike_105 ?_
        refine xr_iconst (pc := 106) X dL_alike_106 (v := 3) (by decide) ?_
        refine xr_iload (pc := 107) X (i := 4) 4 rfl dL_alike_107 ?_
        refine xr_iconst (pc := 109) X dL_alike_109 (v := 4) (by decide) ?_
        refine xr_irem (pc := 110) X (by decide) dL_alike_110 ?_
        refine xr_iload_n (pc := 111) X (i := 2) 2 rfl rfl dL_alike_111 ?_
        refine xr_bipush (pc := 112) X dL_alike_112 (v := 7) (by decide) ?_
        refine xr_irem (pc := 114) X (by decide) dL_alike_114 ?_
        refine xr_iconst (pc := 115) X dL_alike_115 (v := 0) (by decide) ?_
        refine xr_callSI (na := 5) (pc := 116) X [.ref (ad oo2), .int 3, .int (zz12 - zz12 / 4 * 4), .int (pp3 - pp3 / 7 * 7), .int 0] (c_L_call Γ.2.1 hI hst oo2 hh2 3 (zz12 - zz12 / 4 * 4) (pp3 - pp3 / 7 * 7) 0 σ30) (wG_S wm_5_23 wm_5_21 wm_5_22 wm_5_14) rfl rfl rfl (by decide +kernel) ⟨Nat.le_of_ble_eq_true rfl, Nat.le_of_ble_eq_true rfl⟩ rfl rfl (Nat.le_of_ble_eq_true rfl) ⟨(show _ ≤ 398 by omega), (show _ ≤ 2388 by omega)⟩ dL_alike_116 (fun zz33 σ32 => ?_)
        refine xr_icmp_ne (pc := 119) X 213 (by decide) dL_alike_119 (fun _ => ?_) (fun _ => ?_)
        · refine xr_iconst (pc := 213) X dL_alike_213 (v := 0) (by decide) ?_
          refine xr_istore_n (pc := 214) X (hf := rfl) (i := 3) [1, 2, 3, 0, 4] (Nat.le_of_ble_eq_true rfl) hnL rfl dL_alike_214 ?_
          refine xr_iinc (pc := 215) X (i := 4) (j := 4) [1, 2, 3, 4, 0] (Nat.le_of_ble_eq_true rfl) hnL rfl rfl (fun zz34 => [(0, .ref (ad oo1)), (1, .ref (ad oo2)), (2, .int pp3), (3, .int 0), (4, .int zz34)]) (fun _ => rfl) dL_alike_215 (fun zz34 => ?_)
          refine xr_goto (pc := 218) X 36 (by decide) dL_alike_218 ?_
          exact x_wid (k2 := (kk_9 + 18)) (n2 := 6 * ((kk_9 + 18))) (by omega) (by omega) (ihh15 _ _ _ (kk_9 + 18) (by omega))
        refine xr_aload_n (pc := 122) X (i := 0) 0 rfl rfl dL_alike_122 ?_
        refine xr_iconst (pc := 123) X dL_alike_123 (v := 4) (by decide) ?_
        refine xr_iload (pc := 124) X (i := 4) 4 rfl dL_alike_124 ?_
        refine xr_iconst (pc := 126) X dL_alike_126 (v := 4) (by decide) ?_
        refine xr_irem (pc := 127) X (by decide) dL_alike_127 ?_
        refine xr_iload_n (pc := 128) X (i := 2) 2 rfl rfl dL_alike_128 ?_
        refine xr_bipush (pc := 129) X dL_alike_129 (v := 6) (by decide) ?_
        refine xr_irem (pc := 131) X (by decide) dL_alike_131 ?_
        refine xr_iconst (pc := 132) X dL_alike_132 (v := 0) (by decide) ?_
        refine xr_callSI (na := 5) (pc := 133) X [.ref (ad oo1), .int 4, .int (zz12 - zz12 / 4 * 4), .int (pp3 - pp3 / 6 * 6), .int 0] (c_L_call Γ.2.1 hI hst oo1 hh1 4 (zz12 - zz12 / 4 * 4) (pp3 - pp3 / 6 * 6) 0 σ32) (wG_S wm_5_23 wm_5_21 wm_5_22 wm_5_14) rfl rfl rfl (by decide +kernel) ⟨Nat.le_of_ble_eq_true rfl, Nat.le_of_ble_eq_true rfl⟩ rfl rfl (Nat.le_of_ble_eq_true rfl) ⟨(show _ ≤ 398 by omega), (show _ ≤ 2388 by omega)⟩ dL_alike_133 (fun zz36 σ35 => ?_)
        refine xr_aload_n (pc := 136) X (i := 1) 1 rfl rfl dL_alike_136 ?_
        refine xr_iconst (pc := 137) X dL_alike_137 (v := 4) (by decide) ?_
        refine xr_iload (pc := 138) X (i := 4) 4 rfl dL_alike_138 ?_
        refine xr_iconst (pc := 140) X dL_alike_140 (v := 4) (by decide) ?_
        refine xr_irem (pc := 141) X (by decide) dL_alike_141 ?_
        refine xr_iload_n (pc := 142) X (i := 2) 2 rfl rfl dL_alike_142 ?_
        refine xr_bipush (pc := 143) X dL_alike_143 (v := 6) (by decide) ?_
        refine xr_irem (pc := 145) X (by decide) dL_alike_145 ?_
        refine xr_iconst (pc := 146) X dL_alike_146 (v := 0) (by decide) ?_
        refine xr_callSI (na := 5) (pc := 147) X [.ref (ad oo2), .int 4, .int (zz12 - zz12 / 4 * 4), .int (pp3 - pp3 / 6 * 6), .int 0] (c_L_call Γ.2.1 hI hst oo2 hh2 4 (zz12 - zz12 / 4 * 4) (pp3 - pp3 / 6 * 6) 0 σ35) (wG_S wm_5_23 wm_5_21 wm_5_22 wm_5_14) rfl rfl rfl (by decide +kernel) ⟨Nat.le_of_ble_eq_true rfl, Nat.le_of_ble_eq_true rfl⟩ rfl rfl (Nat.le_of_ble_eq_true rfl) ⟨(show _ ≤ 398 by omega), (show _ ≤ 2388 by omega)⟩ dL_alike_147 (fun zz38 σ37 => ?_)
        refine xr_icmp_ne (pc := 150) X 213 (by decide) dL_alike_150 (fun _ => ?_) (fun _ => ?_)
        · refine xr_iconst (pc := 213) X dL_alike_213 (v := 0) (by decide) ?_
          refine xr_istore_n (pc := 214) X (hf := rfl) (i := 3) [1, 2, 3, 0, 4] (Nat.le_of_ble_eq_true rfl) hnL rfl dL_alike_214 ?_
          refine xr_iinc (pc := 215) X (i := 4) (j := 4) [1, 2, 3, 4, 0] (Nat.le_of_ble_eq_true rfl) hnL rfl rfl (fun zz39 => [(0, .ref (ad oo1)), (1, .ref (ad oo2)), (2, .int pp3), (3, .int 0), (4, .int zz39)]) (fun _ => rfl) dL_alike_215 (fun zz39 => ?_)
          refine xr_goto (pc := 218) X 36 (by decide) dL_alike_218 ?_
          exact x_wid (k2 := (kk_9 + 24)) (n2 := 6 * ((kk_9 + 24))) (by omega) (by omega) (ihh15 _ _ _ (kk_9 + 24) (by omega))
        refine xr_aload_n (pc := 153) X (i := 0) 0 rfl rfl dL_alike_153 ?_
        refine xr_iconst (pc := 154) X dL_alike_154 (v := 5) (by decide) ?_
        refine xr_iload_n (pc := 155) X (i := 2) 2 rfl rfl dL_alike_155 ?_
        refine xr_iconst (pc := 156) X dL_alike_156 (v := 4) (by decide) ?_
        refine xr_irem (pc := 157) X (by decide) dL_alike_157 ?_
        refine xr_iload (pc := 158) X (i := 4) 4 rfl dL_alike_158 ?_
        refine xr_iload_n (pc := 160) X (i := 2) 2 rfl rfl dL_alike_160 ?_
        refine xr_iconst (pc := 161) X dL_alike_161 (v := 2) (by decide) ?_
        refine xr_irem (pc := 162) X (by decide) dL_alike_162 ?_
        refine xr_callSI (na := 5) (pc := 163) X [.ref (ad oo1), .int 5, .int (pp3 - pp3 / 4 * 4), .int zz12, .int (pp3 - pp3 / 2 * 2)] (c_L_call Γ.2.1 hI hst oo1 hh1 5 (pp3 - pp3 / 4 * 4) zz12 (pp3 - pp3 / 2 * 2) σ37) (wG_S wm_5_23 wm_5_21 wm_5_22 wm_5_14) rfl rfl rfl (by decide +kernel) ⟨Nat.le_of_ble_eq_true rfl, Nat.le_of_ble_eq_true rfl⟩ rfl rfl (Nat.le_of_ble_eq_true rfl) ⟨(show _ ≤ 398 by omega), (show _ ≤ 2388 by omega)⟩ dL_alike_163 (fun zz41 σ40 => ?_)
        refine xr_aload_n (pc := 166) X (i := 1) 1 rfl rfl dL_alike_166 ?_
        refine xr_iconst (pc := 167) X dL_alike_167 (v := 5) (by decide) ?_
        refine xr_iload_n (pc := 168) X (i := 2) 2 rfl rfl dL_alike_168 ?_
        refine xr_iconst (pc := 169) X dL_alike_169 (v := 4) (by decide) ?_
        refine xr_irem (pc := 170) X (by decide) dL_alike_170 ?_
        refine xr_iload (pc := 171) X (i := 4) 4 rfl dL_alike_171 ?_
        refine xr_iload_n (pc := 173) X (i := 2) 2 rfl rfl dL_alike_173 ?_
        refine xr_iconst (pc := 174) X dL_alike_174 (v := 2) (by decide) ?_
        refine xr_irem (pc := 175) X (by decide) dL_alike_175 ?_
        refine xr_callSI (na := 5) (pc := 176) X [.ref (ad oo2), .int 5, .int (pp3 - pp3 / 4 * 4), .int zz12, .int (pp3 - pp3 / 2 * 2)] (c_L_call Γ.2.1 hI hst oo2 hh2 5 (pp3 - pp3 / 4 * 4) zz12 (pp3 - pp3 / 2 * 2) σ40) (wG_S wm_5_23 wm_5_21 wm_5_22 wm_5_14) rfl rfl rfl (by decide +kernel) ⟨Nat.le_of_ble_eq_true rfl, Nat.le_of_ble_eq_true rfl⟩ rfl rfl (Nat.le_of_ble_eq_true rfl) ⟨(show _ ≤ 398 by omega), (show _ ≤ 2388 by omega)⟩ dL_alike_176 (fun zz43 σ42 => ?_)
        refine xr_icmp_ne (pc := 179) X 213 (by decide) dL_alike_179 (fun _ => ?_) (fun _ => ?_)
        · refine xr_iconst (pc := 213) X dL_alike_213 (v := 0) (by decide) ?_
          refine xr_istore_n (pc := 214) X (hf := rfl) (i := 3) [1, 2, 3, 0, 4] (Nat.le_of_ble_eq_true rfl) hnL rfl dL_alike_214 ?_
          refine xr_iinc (pc := 215) X (i := 4) (j := 4) [1, 2, 3, 4, 0] (Nat.le_of_ble_eq_true rfl) hnL rfl rfl (fun zz44 => [(0, .ref (ad oo1)), (1, .ref (ad oo2)), (2, .int pp3), (3, .int 0), (4, .int zz44)]) (fun _ => rfl) dL_alike_215 (fun zz44 => ?_)
          refine xr_goto (pc := 218) X 36 (by decide) dL_alike_218 ?_
          exact x_wid (k2 := (kk_9 + 30)) (n2 := 6 * ((kk_9 + 30))) (by omega) (by omega) (ihh15 _ _ _ (kk_9 + 30) (by omega))
        refine xr_aload_n (pc := 182) X (i := 0) 0 rfl rfl dL_alike_182 ?_
        refine xr_bipush (pc := 183) X dL_alike_183 (v := 6) (by decide) ?_
        refine xr_iload (pc := 185) X (i := 4) 4 rfl dL_alike_185 ?_
        refine xr_iload_n (pc := 187) X (i := 2) 2 rfl rfl dL_alike_187 ?_
        refine xr_iconst (pc := 188) X dL_alike_188 (v := 3) (by decide) ?_
        refine xr_irem (pc := 189) X (by decide) dL_alike_189 ?_
        refine xr_iconst (pc := 190) X dL_alike_190 (v := 0) (by decide) ?_
        refine xr_callSI (na := 5) (pc := 191) X [.ref (ad oo1), .int 6, .int zz12, .int (pp3 - pp3 / 3 * 3), .int 0] (c_L_call Γ.2.1 hI hst oo1 hh1 6 zz12 (pp3 - pp3 / 3 * 3) 0 σ42) (wG_S wm_5_23 wm_5_21 wm_5_22 wm_5_14) rfl rfl rfl (by decide +kernel) ⟨Nat.le_of_ble_eq_true rfl, Nat.le_of_ble_eq_true rfl⟩ rfl rfl (Nat.le_of_ble_eq_true rfl) ⟨(show _ ≤ 398 by omega), (show _ ≤ 2388 by omega)⟩ dL_alike_191 (fun zz46 σ45 => ?_)
        refine xr_aload_n (pc := 194) X (i := 1) 1 rfl rfl dL_alike_194 ?_
        refine xr_bipush (pc := 195) X dL_alike_195 (v := 6) (by decide) ?_
        refine xr_iload (pc := 197) X (i := 4) 4 rfl dL_alike_197 ?_
        refine xr_iload_n (pc := 199) X (i := 2) 2 rfl rfl dL_alike_199 ?_
        refine xr_iconst (pc := 200) X dL_alike_200 (v := 3) (by decide) ?_
        refine xr_irem (pc := 201) X (by decide) dL_alike_201 ?_
        refine xr_iconst (pc := 202) X dL_alike_202 (v := 0) (by decide) ?_
        refine xr_callSI (na := 5) (pc := 203) X [.ref (ad oo2), .int 6, .int zz12, .int (pp3 - pp3 / 3 * 3), .int 0] (c_L_call Γ.2.1 hI hst oo2 hh2 6 zz12 (pp3 - pp3 / 3 * 3) 0 σ45) (wG_S wm_5_23 wm_5_21 wm_5_22 wm_5_14) rfl rfl rfl (by decide +kernel) ⟨Nat.le_of_ble_eq_true rfl, Nat.le_of_ble_eq_true rfl⟩ rfl rfl (Nat.le_of_ble_eq_true rfl) ⟨(show _ ≤ 398 by omega), (show _ ≤ 2388 by omega)⟩ dL_alike_203 (fun zz48 σ47 => ?_)
        refine xr_icmp_ne (pc := 206) X 213 (by decide) dL_alike_206 (fun _ => ?_) (fun _ => ?_)
        · refine xr_iconst (pc := 213) X dL_alike_213 (v := 0) (by decide) ?_
          refine xr_istore_n (pc := 214) X (hf := rfl) (i := 3) [1, 2, 3, 0, 4] (Nat.le_of_ble_eq_true rfl) hnL rfl dL_alike_214 ?_
          refine xr_iinc (pc := 215) X (i := 4) (j := 4) [1, 2, 3, 4, 0] (Nat.le_of_ble_eq_true rfl) hnL rfl rfl (fun zz49 => [(0, .ref (ad oo1)), (1, .ref (ad oo2)), (2, .int pp3), (3, .int 0), (4, .int zz49)]) (fun _ => rfl) dL_alike_215 (fun zz49 => ?_)
          refine xr_goto (pc := 218) X 36 (by decide) dL_alike_218 ?_
          exact x_wid (k2 := (kk_9 + 36)) (n2 := 6 * ((kk_9 + 36))) (by omega) (by omega) (ihh15 _ _ _ (kk_9 + 36) (by omega))
        refine xr_iconst (pc := 209) X dL_alike_209 (v := 1) (by decide) ?_
        refine xr_goto (pc := 210) X 214 (by decide) dL_alike_210 ?_
        refine xr_istore_n (pc := 214) X (hf := rfl) (i := 3) [1, 2, 3, 0, 4] (Nat.le_of_ble_eq_true rfl) hnL rfl dL_alike_214 ?_
        refine xr_iinc (pc := 215) X (i := 4) (j := 4) [1, 2, 3, 4, 0] (Nat.le_of_ble_eq_true rfl) hnL rfl rfl (fun zz50 => [(0, .ref (ad oo1)), (1, .ref (ad oo2)), (2, .int pp3), (3, .int 1), (4, .int zz50)]) (fun _ => rfl) dL_alike_215 (fun zz50 => ?_)
        refine xr_goto (pc := 218) X 36 (by decide) dL_alike_218 ?_
        exact x_wid (k2 := (kk_9 + 36)) (n2 := 6 * ((kk_9 + 36))) (by omega) (by omega) (ihh15 _ _ _ (kk_9 + 36) (by omega))
    refine x_wid (k2 := 2) (n2 := 6 * (2)) (by omega) (by omega) (hLL51 _ (fun zz16 σ19 => ?_) _ _ _ _ 2 (by omega))
    refine xr_iload_n (pc := 221) X (i := 3) 0 rfl rfl dL_alike_221 ?_
    exact xr_zretG (pc := 222) X (Nat.le_of_ble_eq_true rfl) (Nat.le_of_ble_eq_true rfl) dL_alike_222
  refine xr_icmp_ne (pc := 24) X 31 (by decide) dL_alike_24 (fun _ => ?_) (fun _ => ?_)
  · refine xr_iconst (pc := 31) X dL_alike_31 (v := 0) (by decide) ?_
    exact x_wid (by omega) (by omega) (hKK8 _ _)
  refine xr_iconst (pc := 27) X dL_alike_27 (v := 1) (by decide) ?_
  refine xr_goto (pc := 28) X 32 (by decide) dL_alike_28 ?_
  exact x_wid (by omega) (by omega) (hKK8 _ _)
def F_L_done (oo1 : Nat) (oo2 : Nat) (pp3 : Int32) (σ : xS) : Option (Int32 × xS) :=
  xbI (F_L_call oo1 2 0 0 0 σ) (fun (zz2 : Int32) (σ1 : xS) => if ¬ zz2 = 0 then (xlet (pp3 - pp3 / zz2 * zz2) (fun (zz4 : Int32) => xbI (F_L_call oo1 15 zz4 0 0 σ1) (fun (zz6 : Int32) (σ5 : xS) => xbI (F_L_call oo1 2 1 0 0 σ5) (fun (zz8 : Int32) (σ7 : xS) => xbI (F_L_call oo1 2 7 0 0 σ7) (fun (zz10 : Int32) (σ9 : xS) => xjn (fun (zz11 : Int32) (σ12 : xS) => xbI (F_L_call oo1 12 zz11 0 0 σ12) (fun (zz19 : Int32) (σ18 : xS) => xbI (F_L_call oo1 3 zz4 0 0 σ18) (fun (zz21 : Int32) (σ20 : xS) => xjn (fun (zz22 : Int32) (σ23 : xS) => xbI (F_L_call oo2 12 zz11 0 0 σ23) (fun (zz32 : Int32) (σ31 : xS) => xjn (fun (zz33 : Int32) (σ34 : xS) => if zz33 = 0 then (some ((0 : Int32), σ34))
 else (xbI (F_L_call oo1 14 0 0 0 σ34) (fun (zz55 : Int32) (σ54 : xS) => xbI (F_L_thrown zz55 σ54) (fun (zz57 : Int32) (σ56 : xS) => if ¬ zz57 = 0 then (some ((0 : Int32), σ56))
 else (xbI (F_L_call oo2 14 0 0 0 σ56) (fun (zz59 : Int32) (σ58 : xS) => xbI (F_L_thrown zz59 σ58) (fun (zz61 : Int32) (σ60 : xS) => if ¬ zz61 = 0 then (some ((0 : Int32), σ60))
 else (xbI (F_L_call oo1 15 zz4 0 0 σ60) (fun (zz63 : Int32) (σ62 : xS) => if ¬ zz63 = zz6 then (some ((0 : Int32), σ62))
 else (xbI (F_L_call oo1 2 7 0 0 σ62) (fun (zz65 : Int32) (σ64 : xS) => if ¬ zz65 = zz10 then (some ((0 : Int32), σ64))
 else (some ((1 : Int32), σ64)))))))))))))
 (fun (KK35 : Int32 → xS → Option (Int32 × xS)) => xjn (fun (σ37 : xS) => KK35 0 σ37)
 (fun (KK38 : xS → Option (Int32 × xS)) => if ¬ zz32 = zz19 then (KK38 σ31)
 else (xbI (F_L_call oo1 2 7 0 0 σ31) (fun (zz41 : Int32) (σ40 : xS) => if ¬ zz41 = (zz10 + zz19) then (KK38 σ40)
 else (xbI (F_L_call oo1 2 1 0 0 σ40) (fun (zz43 : Int32) (σ42 : xS) => if ¬ zz43 = (zz8 + zz11) then (KK38 σ42)
 else (xjn (fun (σ44 : xS) => xjn (fun (σ49 : xS) => KK35 1 σ49)
 (fun (KK50 : xS → Option (Int32 × xS)) => if zz6 = ((-1)) then (KK50 σ44)
 else (if zz6 ≤ zz11 then (KK50 σ44)
 else (xbI (F_L_call oo1 15 zz4 0 0 σ44) (fun (zz53 : Int32) (σ52 : xS) => if ¬ zz53 = (zz6 - zz11) then (KK38 σ52)
 else (KK50 σ52))))))
 (fun (KK45 : xS → Option (Int32 × xS)) => if zz6 = ((-1)) then (KK45 σ42)
 else (if zz11 < zz6 then (KK45 σ42)
 else (if zz22 = 0 then (KK38 σ42)
 else (xbI (F_L_call oo1 15 zz4 0 0 σ42) (fun (zz48 : Int32) (σ47 : xS) => if ¬ zz48 = 0 then (KK38 σ47)
 else (KK45 σ47)))))))))))))))
 (fun (KK24 : Int32 → xS → Option (Int32 × xS)) => xjn (fun (σ26 : xS) => KK24 0 σ26)
 (fun (KK27 : xS → Option (Int32 × xS)) => if ¬ zz21 = 0 then (KK27 σ20)
 else (xbI (F_L_call oo1 3 zz4 1 0 σ20) (fun (zz30 : Int32) (σ29 : xS) => if ¬ zz30 = 0 then (KK27 σ29)
 else (KK24 1 σ29))))))))
 (fun (KK13 : Int32 → xS → Option (Int32 × xS)) => xjn (fun (σ15 : xS) => KK13 (1 + ((pp3 / 8) - (pp3 / 8) / 99 * 99)) σ15)
 (fun (KK16 : xS → Option (Int32 × xS)) => if zz6 ≤ 0 then (KK16 σ9)
 else (if 100 ≤ zz6 then (KK16 σ9)
 else (if ¬ ((pp3 / 4) - (pp3 / 4) / 2 * 2) = 0 then (KK16 σ9)
 else (KK13 zz6 σ9)))))))))) else none)
abbrev rm_L_done : Room := { frames := 11, cells := 48, slots := 288, locals := 220 }
set_option maxHeartbeats 4000000 in
set_option maxRecDepth 100000 in
theorem c_L_done (l : Launch) {D : va_G} {ad : Nat → Nat} {N : Nat} {Sh : xSh} (hI : ∀ i j, i < N → j < N → ad i = ad j → i = j) (hst : l.stackTraces = false) (oo1 : Nat) (hh1 : xIs5 D ad N Sh oo1) (oo2 : Nat) (hh2 : xIs5 D ad N Sh oo2) (pp3 : Int32) (σ : xS) : xKI l yL_done (Cond.code yL_done cL_done 11 (some .boolean) :: wG) rm_L_done 48 288 D ad N Sh [.ref (ad oo1), .ref (ad oo2), .int pp3] σ (F_L_done oo1 oo2 pp3 σ) := by
  refine x_startI (own := RL) (maxL := 11) (by decide) rfl rfl (Nat.le_of_ble_eq_true rfl) rfl hI (fun Γ hl hnL X => ?_)
  subst hl
  unfold F_L_done
  refine xr_iload_n (pc := 0) X (i := 2) 2 rfl rfl dL_done_0 ?_
  refine xr_aload_n (pc := 1) X (i := 0) 0 rfl rfl dL_done_1 ?_
  refine xr_iconst (pc := 2) X dL_done_2 (v := 2) (by decide) ?_
  refine xr_iconst (pc := 3) X dL_done_3 (v := 0) (by decide) ?_
  refine xr_iconst (pc := 4) X dL_done_4 (v := 0) (by decide) ?_
  refine xr_iconst (pc := 5) X dL_done_5 (v := 0) (by decide) ?_
  refine xr_callSI (na := 5) (pc := 6) X [.ref (ad oo1), .int 2, .int 0, .int 0, .int 0] (c_L_call Γ.2.1 hI hst oo1 hh1 2 0 0 0 σ) (wG_S wm_5_23 wm_5_21 wm_5_22 wm_5_14) rfl rfl rfl (by decide +kernel) ⟨Nat.le_of_ble_eq_true rfl, Nat.le_of_ble_eq_true rfl⟩ rfl rfl (Nat.le_of_ble_eq_true rfl) ⟨(show _ ≤ 48 by omega), (show _ ≤ 288 by omega)⟩ dL_done_6 (fun zz2 σ1 => ?_)
  refine x_gd (fun hzz3 => ?_)
  refine xr_irem (pc := 9) X hzz3 dL_done_9 ?_
  refine x_leti (fun zz4 => ?_)
  refine xr_istore_n (pc := 10) X (hf := rfl) (i := 3) [1, 2, 3, 0] (Nat.le_of_ble_eq_true rfl) hnL rfl dL_done_10 ?_
  refine xr_aload_n (pc := 11) X (i := 0) 0 rfl rfl dL_done_11 ?_
  refine xr_bipush (pc := 12) X dL_done_12 (v := 15) (by decide) ?_
  refine xr_iload_n (pc := 14) X (i := 3) 3 rfl rfl dL_done_14 ?_
  refine xr_iconst (pc := 15) X dL_done_15 (v := 0) (by decide) ?_
  refine xr_iconst (pc := 16) X dL_done_16 (v := 0) (by decide) ?_
  refine xr_callSI (na := 5) (pc := 17) X [.ref (ad oo1), .int 15, .int zz4, .int 0, .int 0] (c_L_call Γ.2.1 hI hst oo1 hh1 15 zz4 0 0 σ1) (wG_S wm_5_23 wm_5_21 wm_5_22 wm_5_14) rfl rfl rfl (by decide +kernel) ⟨Nat.le_of_ble_eq_true rfl, Nat.le_of_ble_eq_true rfl⟩ rfl rfl (Nat.le_of_ble_eq_true rfl) ⟨(show _ ≤ 48 by omega), (show _ ≤ 288 by omega)⟩ dL_done_17 (fun zz6 σ5 => ?_)
  refine xr_istore (pc := 20) X (i := 4) [1, 2, 3, 4, 0] (Nat.le_of_ble_eq_true rfl) hnL rfl dL_done_20 ?_
  refine xr_aload_n (pc := 22) X (i := 0) 0 rfl rfl dL_done_22 ?_
  refine xr_iconst (pc := 23) X dL_done_23 (v := 2) (by decide) ?_
  refine xr_iconst (pc := 24) X dL_done_24 (v := 1) (by decide) ?_
  refine xr_iconst (pc := 25) X dL_done_25 (v := 0) (by decide) ?_
  refine xr_iconst (pc := 26) X dL_done_26 (v := 0) (by decide) ?_
  refine xr_callSI (na := 5) (pc := 27) X [.ref (ad oo1), .int 2, .int 1, .int 0, .int 0] (c_L_call Γ.2.1 hI hst oo1 hh1 2 1 0 0 σ5) (wG_S wm_5_23 wm_5_21 wm_5_22 wm_5_14) rfl rfl rfl (by decide +kernel) ⟨Nat.le_of_ble_eq_true rfl, Nat.le_of_ble_eq_true rfl⟩ rfl rfl (Nat.le_of_ble_eq_true rfl) ⟨(show _ ≤ 48 by omega), (show _ ≤ 288 by omega)⟩ dL_done_27 (fun zz8 σ7 => ?_)
  refine xr_istore (pc := 30) X (i := 5) [1, 2, 3, 4, 5, 0] (Nat.le_of_ble_eq_true rfl) hnL rfl dL_done_30 ?_
  refine xr_aload_n (pc := 32) X (i := 0) 0 rfl rfl dL_done_32 ?_
  refine xr_iconst (pc := 33) X dL_done_33 (v := 2) (by decide) ?_
  refine xr_bipush (pc := 34) X dL_done_34 (v := 7) (by decide) ?_
  refine xr_iconst (pc := 36) X dL_done_36 (v := 0) (by decide) ?_
  refine xr_iconst (pc := 37) X dL_done_37 (v := 0) (by decide) ?_
  refine xr_callSI (na := 5) (pc := 38) X [.ref (ad oo1), .int 2, .int 7, .int 0, .int 0] (c_L_call Γ.2.1 hI hst oo1 hh1 2 7 0 0 σ7) (wG_S wm_5_23 wm_5_21 wm_5_22 wm_5_14) rfl rfl rfl (by decide +kernel) ⟨Nat.le_of_ble_eq_true rfl, Nat.le_of_ble_eq_true rfl⟩ rfl rfl (Nat.le_of_ble_eq_true rfl) ⟨(show _ ≤ 48 by omega), (show _ ≤ 288 by omega)⟩ dL_done_38 (fun zz10 σ9 => ?_)
  refine xr_istore (pc := 41) X (i := 6) [1, 2, 3, 4, 5, 6, 0] (Nat.le_of_ble_eq_true rfl) hnL rfl dL_done_41 ?_
  refine xr_iload (pc := 43) X (i := 4) 4 rfl dL_done_43 ?_
  refine x_jn (fun (KK13 : Int32 → xS → Option (Int32 × xS)) => ∀ zz11 σ12, xM Γ D ad N Sh (xQI Γ D ad N Sh 48 288) 12 72 (KK13 zz11 σ12) σ12 77 [(0, .ref (ad oo1)), (1, .ref (ad oo2)), (3, .int zz4), (4, .int zz6), (5, .int zz8), (6, .int zz10)] [.int zz11]) (fun zz11 σ12 => ?_) (fun KK13 hKK14 => ?_)
  · refine xr_istore (pc := 77) X (i := 7) [1, 2, 3, 4, 5, 6, 0] (Nat.le_of_ble_eq_true rfl) hnL rfl dL_done_77 ?_
    refine xr_aload_n (pc := 79) X (i := 0) 0 rfl rfl dL_done_79 ?_
    refine xr_bipush (pc := 80) X dL_done_80 (v := 12) (by decide) ?_
    refine xr_iload (pc := 82) X (i := 7) 6 rfl dL_done_82 ?_
    refine xr_iconst (pc := 84) X dL_done_84 (v := 0) (by decide) ?_
    refine xr_iconst (pc := 85) X dL_done_85 (v := 0) (by decide) ?_
    refine xr_callSI (na := 5) (pc := 86) X [.ref (ad oo1), .int 12, .int zz11, .int 0, .int 0] (c_L_call Γ.2.1 hI hst oo1 hh1 12 zz11 0 0 σ12) (wG_S wm_5_23 wm_5_21 wm_5_22 wm_5_14) rfl rfl rfl (by decide +kernel) ⟨Nat.le_of_ble_eq_true rfl, Nat.le_of_ble_eq_true rfl⟩ rfl rfl (Nat.le_of_ble_eq_true rfl) ⟨(show _ ≤ 48 by omega), (show _ ≤ 288 by omega)⟩ dL_done_86 (fun zz19 σ18 => ?_)
    refine xr_istore (pc := 89) X (i := 8) [1, 2, 3, 4, 5, 6, 7, 0] (Nat.le_of_ble_eq_true rfl) hnL rfl dL_done_89 ?_
    refine xr_aload_n (pc := 91) X (i := 0) 0 rfl rfl dL_done_91 ?_
    refine xr_iconst (pc := 92) X dL_done_92 (v := 3) (by decide) ?_
    refine xr_iload_n (pc := 93) X (i := 3) 2 rfl rfl dL_done_93 ?_
    refine xr_iconst (pc := 94) X dL_done_94 (v := 0) (by decide) ?_
    refine xr_iconst (pc := 95) X dL_done_95 (v := 0) (by decide) ?_
    refine xr_callSI (na := 5) (pc := 96) X [.ref (ad oo1), .int 3, .int zz4, .int 0, .int 0] (c_L_call Γ.2.1 hI hst oo1 hh1 3 zz4 0 0 σ18) (wG_S wm_5_23 wm_5_21 wm_5_22 wm_5_14) rfl rfl rfl (by decide +kernel) ⟨Nat.le_of_ble_eq_true rfl, Nat.le_of_ble_eq_true rfl⟩ rfl rfl (Nat.le_of_ble_eq_true rfl) ⟨(show _ ≤ 48 by omega), (show _ ≤ 288 by omega)⟩ dL_done_96 (fun zz21 σ20 => ?_)
    refine x_jn (fun (KK24 : Int32 → xS → Option (Int32 × xS)) => ∀ zz22 σ23, xM Γ D ad N Sh (xQI Γ D ad N Sh 48 288) 21 126 (KK24 zz22 σ23) σ23 118 [(0, .ref (ad oo1)), (1, .ref (ad oo2)), (3, .int zz4), (4, .int zz6), (5, .int zz8), (6, .int zz10), (7, .int zz11), (8, .int zz19)] [.int zz22]) (fun zz22 σ23 => ?_) (fun KK24 hKK25 => ?_)
    · refine xr_istore (pc := 118) X (i := 9) [1, 2, 3, 4, 5, 6, 7, 8, 0] (Nat.le_of_ble_eq_true rfl) hnL rfl dL_done_118 ?_
      refine xr_aload_n (pc := 120) X (i := 1) 1 rfl rfl dL_done_120 ?_
      refine xr_bipush (pc := 121) X dL_done_121 (v := 12) (by decide) ?_
      refine xr_iload (pc := 123) X (i := 7) 6 rfl dL_done_123 ?_
      refine xr_iconst (pc := 125) X dL_done_125 (v := 0) (by decide) ?_
      refine xr_iconst (pc := 126) X dL_done_126 (v := 0) (by decide) ?_
      refine xr_callSI (na := 5) (pc := 127) X [.ref (ad oo2), .int 12, .int zz11, .int 0, .int 0] (c_L_call Γ.2.1 hI hst oo2 hh2 12 zz11 0 0 σ23) (wG_S wm_5_23 wm_5_21 wm_5_22 wm_5_14) rfl rfl rfl (by decide +kernel) ⟨Nat.le_of_ble_eq_true rfl, Nat.le_of_ble_eq_true rfl⟩ rfl rfl (Nat.le_of_ble_eq_true rfl) ⟨(show _ ≤ 48 by omega), (show _ ≤ 288 by omega)⟩ dL_done_127 (fun zz32 σ31 => ?_)
      refine xr_iload (pc := 130) X (i := 8) 7 rfl dL_done_130 ?_
      refine x_jn (fun (KK35 : Int32 → xS → Option (Int32 × xS)) => ∀ zz33 σ34, xM Γ D ad N Sh (xQI Γ D ad N Sh 48 288) 36 216 (KK35 zz33 σ34) σ34 233 [(0, .ref (ad oo1)), (1, .ref (ad oo2)), (3, .int zz4), (4, .int zz6), (6, .int zz10)] [.int zz33]) (fun zz33 σ34 => ?_) (fun KK35 hKK36 => ?_)
      · refine xr_istore (pc := 233) X (i := 10) [1, 2, 3, 4, 5, 0] (Nat.le_of_ble_eq_true rfl) hnL rfl dL_done_233 ?_
        refine xr_iload (pc := 235) X (i := 10) 5 rfl dL_done_235 ?_
        refine xr_if_eq (pc := 237) X 302 (by decide) dL_done_237 (fun _ => ?_) (fun _ => ?_)
        · refine xr_iconst (pc := 302) X dL_done_302 (v := 0) (by decide) ?_
          exact xr_zret (pc := 303) X rfl (Nat.le_of_ble_eq_true rfl) (Nat.le_of_ble_eq_true rfl) dL_done_303
        refine xr_aload_n (pc := 240) X (i := 0) 0 rfl rfl dL_done_240 ?_
        refine xr_bipush (pc := 241) X dL_done_241 (v := 14) (by decide) ?_
        refine xr_iconst (pc := 243) X dL_done_243 (v := 0) (by decide) ?_
        refine xr_iconst (pc := 244) X dL_done_244 (v := 0) (by decide) ?_
        refine xr_iconst (pc := 245) X dL_done_245 (v := 0) (by decide) ?_
        refine xr_callSI (na := 5) (pc := 246) X [.ref (ad oo1), .int 14, .int 0, .int 0, .int 0] (c_L_call Γ.2.1 hI hst oo1 hh1 14 0 0 0 σ34) (wG_S wm_5_23 wm_5_21 wm_5_22 wm_5_14) rfl rfl rfl (by decide +kernel) ⟨Nat.le_of_ble_eq_true rfl, Nat.le_of_ble_eq_true rfl⟩ rfl rfl (Nat.le_of_ble_eq_true rfl) ⟨(show _ ≤ 48 by omega), (show _ ≤ 288 by omega)⟩ dL_done_246 (fun zz55 σ54 => ?_)
        refine xr_callSI (na := 1) (pc := 249) X [.int zz55] (c_L_thrown Γ.2.1 hI zz55 σ54) (wG_S wm_23_20 wm_23_18 wm_23_19 wm_5_14) rfl rfl rfl (by decide +kernel) ⟨Nat.le_of_ble_eq_true rfl, Nat.le_of_ble_eq_true rfl⟩ rfl rfl (Nat.le_of_ble_eq_true rfl) ⟨(show _ ≤ 48 by omega), (show _ ≤ 288 by omega)⟩ dL_done_249 (fun zz57 σ56 => ?_)
        refine xr_if_ne (pc := 252) X 302 (by decide) dL_done_252 (fun _ => ?_) (fun _ => ?_)
        · refine xr_iconst (pc := 302) X dL_done_302 (v := 0) (by decide) ?_
          exact xr_zret (pc := 303) X rfl (Nat.le_of_ble_eq_true rfl) (Nat.le_of_ble_eq_true rfl) dL_done_303
        refine xr_aload_n (pc := 255) X (i := 1) 1 rfl rfl dL_done_255 ?_
        refine xr_bipush (pc := 256) X dL_done_256 (v := 14) (by decide) ?_
        refine xr_iconst (pc := 258) X dL_done_258 (v := 0) (by decide) ?_
        refine xr_iconst (pc := 259) X dL_done_259 (v := 0) (by decide) ?_
        refine xr_iconst (pc := 260) X dL_done_260 (v := 0) (by decide) ?_
        refine xr_callSI (na := 5) (pc := 261) X [.ref (ad oo2), .int 14, .int 0, .int 0, .int 0] (c_L_call Γ.2.1 hI hst oo2 hh2 14 0 0 0 σ56) (wG_S wm_5_23 wm_5_21 wm_5_22 wm_5_14) rfl rfl rfl (by decide +kernel) ⟨Nat.le_of_ble_eq_true rfl, Nat.le_of_ble_eq_true rfl⟩ rfl rfl (Nat.le_of_ble_eq_true rfl) ⟨(show _ ≤ 48 by omega), (show _ ≤ 288 by omega)⟩ dL_done_261 (fun zz59 σ58 => ?_)
        refine xr_callSI (na := 1) (pc := 264) X [.int zz59] (c_L_thrown Γ.2.1 hI zz59 σ58) (wG_S wm_23_20 wm_23_18 wm_23_19 wm_5_14) rfl rfl rfl (by decide +kernel) ⟨Nat.le_of_ble_eq_true rfl, Nat.le_of_ble_eq_true rfl⟩ rfl rfl (Nat.le_of_ble_eq_true rfl) ⟨(show _ ≤ 48 by omega), (show _ ≤ 288 by omega)⟩ dL_done_264 (fun zz61 σ60 => ?_)
        refine xr_if_ne (pc := 267) X 302 (by decide) dL_done_267 (fun _ => ?_) (fun _ => ?_)
        · refine xr_iconst (pc := 302) X dL_done_302 (v := 0) (by decide) ?_
          exact xr_zret (pc := 303) X rfl (Nat.le_of_ble_eq_true rfl) (Nat.le_of_ble_eq_true rfl) dL_done_303
        refine xr_aload_n (pc := 270) X (i := 0) 0 rfl rfl dL_done_270 ?_
        refine xr_bipush (pc := 271) X dL_done_271 (v := 15) (by decide) ?_
        refine xr_iload_n (pc := 273) X (i := 3) 2 rfl rfl dL_done_273 ?_
        refine xr_iconst (pc := 274) X dL_done_274 (v := 0) (by decide) ?_
        refine xr_iconst (pc := 275) X dL_done_275 (v := 0) (by decide) ?_
        refine xr_callSI (na := 5) (pc := 276) X [.ref (ad oo1), .int 15, .int zz4, .int 0, .int 0] (c_L_call Γ.2.1 hI hst oo1 hh1 15 zz4 0 0 σ60) (wG_S wm_5_23 wm_5_21 wm_5_22 wm_5_14) rfl rfl rfl (by decide +kernel) ⟨Nat.le_of_ble_eq_true rfl, Nat.le_of_ble_eq_true rfl⟩ rfl rfl (Nat.le_of_ble_eq_true rfl) ⟨(show _ ≤ 48 by omega), (show _ ≤ 288 by omega)⟩ dL_done_276 (fun zz63 σ62 => ?_)
        refine xr_iload (pc := 279) X (i := 4) 3 rfl dL_done_279 ?_
        refine xr_icmp_ne (pc := 281) X 302 (by decide) dL_done_281 (fun _ => ?_) (fun _ => ?_)
        · refine xr_iconst (pc := 302) X dL_done_302 (v := 0) (by decide) ?_
          exact xr_zret (pc := 303) X rfl (Nat.le_of_ble_eq_true rfl) (Nat.le_of_ble_eq_true rfl) dL_done_303
        refine xr_aload_n (pc := 284) X (i := 0) 0 rfl rfl dL_done_284 ?_
        refine xr_iconst (pc := 285) X dL_done_285 (v := 2) (by decide) ?_
        refine xr_bipush (pc := 286) X dL_done_286 (v := 7) (by decide) ?_
        refine xr_iconst (pc := 288) X dL_done_288 (v := 0) (by decide) ?_
        refine xr_iconst (pc := 289) X dL_done_289 (v := 0) (by decide) ?_
        refine xr_callSI (na := 5) (pc := 290) X [.ref (ad oo1), .int 2, .int 7, .int 0, .int 0] (c_L_call Γ.2.1 hI hst oo1 hh1 2 7 0 0 σ62) (wG_S wm_5_23 wm_5_21 wm_5_22 wm_5_14) rfl rfl rfl (by decide +kernel) ⟨Nat.le_of_ble_eq_true rfl, Nat.le_of_ble_eq_true rfl⟩ rfl rfl (Nat.le_of_ble_eq_true rfl) ⟨(show _ ≤ 48 by omega), (show _ ≤ 288 by omega)⟩ dL_done_290 (fun zz65 σ64 => ?_)
        refine xr_iload (pc := 293) X (i := 6) 4 rfl dL_done_293 ?_
        refine xr_icmp_ne (pc := 295) X 302 (by decide) dL_done_295 (fun _ => ?_) (fun _ => ?_)
        · refine xr_iconst (pc := 302) X dL_done_302 (v := 0) (by decide) ?_
          exact xr_zret (pc := 303) X rfl (Nat.le_of_ble_eq_true rfl) (Nat.le_of_ble_eq_true rfl) dL_done_303
        refine xr_iconst (pc := 298) X dL_done_298 (v := 1) (by decide) ?_
        refine xr_goto (pc := 299) X 303 (by decide) dL_done_299 ?_
        exact xr_zret (pc := 303) X rfl (Nat.le_of_ble_eq_true rfl) (Nat.le_of_ble_eq_true rfl) dL_done_303
      refine x_jn (fun (KK38 : xS → Option (Int32 × xS)) => ∀ σ37, xM Γ D ad N Sh (xQI Γ D ad N Sh 48 288) 36 216 (KK38 σ37) σ37 232 [(0, .ref (ad oo1)), (1, .ref (ad oo2)), (3, .int zz4), (4, .int zz6), (6, .int zz10)] []) (fun σ37 => ?_) (fun KK38 hKK39 => ?_)
      · refine xr_iconst (pc := 232) X dL_done_232 (v := 0) (by decide) ?_
        exact x_wid (by omega) (by omega) (hKK36 _ _)
      refine xr_icmp_ne (pc := 132) X 232 (by decide) dL_done_132 (fun _ => ?_) (fun _ => ?_)
      · exact x_sub [0, 1, 2, 3, 5] rfl (x_wid (by omega) (by omega) (hKK39  _))
      refine xr_aload_n (pc := 135) X (i := 0) 0 rfl rfl dL_done_135 ?_
      refine xr_iconst (pc := 136) X dL_done_136 (v := 2) (by decide) ?_
      refine xr_bipush (pc := 137) X dL_done_137 (v := 7) (by decide) ?_
      refine xr_iconst (pc := 139) X dL_done_139 (v := 0) (by decide) ?_
      refine xr_iconst (pc := 140) X dL_done_140 (v := 0) (by decide) ?_
      refine xr_callSI (na := 5) (pc := 141) X [.ref (ad oo1), .int 2, .int 7, .int 0, .int 0] (c_L_call Γ.2.1 hI hst oo1 hh1 2 7 0 0 σ31) (wG_S wm_5_23 wm_5_21 wm_5_22 wm_5_14) rfl rfl rfl (by decide +kernel) ⟨Nat.le_of_ble_eq_true rfl, Nat.le_of_ble_eq_true rfl⟩ rfl rfl (Nat.le_of_ble_eq_true rfl) ⟨(show _ ≤ 48 by omega), (show _ ≤ 288 by omega)⟩ dL_done_141 (fun zz41 σ40 => ?_)
      refine xr_iload (pc := 144) X (i := 6) 5 rfl dL_done_144 ?_
      refine xr_iload (pc := 146) X (i := 8) 7 rfl dL_done_146 ?_
      refine xr_iadd (pc := 148) X dL_done_148 ?_
      refine xr_icmp_ne (pc := 149) X 232 (by decide) dL_done_149 (fun _ => ?_) (fun _ => ?_)
      · exact x_sub [0, 1, 2, 3, 5] rfl (x_wid (by omega) (by omega) (hKK39  _))
      refine xr_aload_n (pc := 152) X (i := 0) 0 rfl rfl dL_done_152 ?_
      refine xr_iconst (pc := 153) X dL_done_153 (v := 2) (by decide) ?_
      refine xr_iconst (pc := 154) X dL_done_154 (v := 1) (by decide) ?_
      refine xr_iconst (pc := 155) X dL_done_155 (v := 0) (by decide) ?_
      refine xr_iconst (pc := 156) X dL_done_156 (v := 0) (by decide) ?_
      refine xr_callSI (na := 5) (pc := 157) X [.ref (ad oo1), .int 2, .int 1, .int 0, .int 0] (c_L_call Γ.2.1 hI hst oo1 hh1 2 1 0 0 σ40) (wG_S wm_5_23 wm_5_21 wm_5_22 wm_5_14) rfl rfl rfl (by decide +kernel) ⟨Nat.le_of_ble_eq_true rfl, Nat.le_of_ble_eq_true rfl⟩ rfl rfl (Nat.le_of_ble_eq_true rfl) ⟨(show _ ≤ 48 by omega), (show _ ≤ 288 by omega)⟩ dL_done_157 (fun zz43 σ42 => ?_)
      refine xr_iload (pc := 160) X (i := 5) 4 rfl dL_done_160 ?_
      refine xr_iload (pc := 162) X (i := 7) 6 rfl dL_done_162 ?_
      refine xr_iadd (pc := 164) X dL_done_164 ?_
      refine xr_icmp_ne (pc := 165) X 232 (by decide) dL_done_165 (fun _ => ?_) (fun _ => ?_)
      · exact x_sub [0, 1, 2, 3, 5] rfl (x_wid (by omega) (by omega) (hKK39  _))
      refine xr_iload (pc := 168) X (i := 4) 3 rfl dL_done_168 ?_
      refine xr_iconst (pc := 170) X dL_done_170 (v := (-1)) (by decide) ?_
      refine x_jn (fun (KK45 : xS → Option (Int32 × xS)) => ∀ σ44, xM Γ D ad N Sh (xQI Γ D ad N Sh 48 288) 33 198 (KK45 σ44) σ44 198 [(0, .ref (ad oo1)), (1, .ref (ad oo2)), (3, .int zz4), (4, .int zz6), (6, .int zz10), (7, .int zz11)] []) (fun σ44 => ?_) (fun KK45 hKK46 => ?_)
      · refine xr_iload (pc := 198) X (i := 4) 3 rfl dL_done_198 ?_
        refine xr_iconst (pc := 200) X dL_done_200 (v := (-1)) (by decide) ?_
        refine x_jn (fun (KK50 : xS → Option (Int32 × xS)) => ∀ σ49, xM Γ D ad N Sh (xQI Γ D ad N Sh 48 288) 36 216 (KK50 σ49) σ49 228 [(0, .ref (ad oo1)), (1, .ref (ad oo2)), (3, .int zz4), (4, .int zz6), (6, .int zz10)] []) (fun σ49 => ?_) (fun KK50 hKK51 => ?_)
        · refine xr_iconst (pc := 228) X dL_done_228 (v := 1) (by decide) ?_
          refine xr_goto (pc := 229) X 233 (by decide) dL_done_229 ?_
          exact x_wid (by omega) (by omega) (hKK36 _ _)
        refine xr_icmp_eq (pc := 201) X 228 (by decide) dL_done_201 (fun _ => ?_) (fun _ => ?_)
        · exact x_sub [0, 1, 2, 3, 4] rfl (x_wid (by omega) (by omega) (hKK51  _))
        refine xr_iload (pc := 204) X (i := 7) 5 rfl dL_done_204 ?_
        refine xr_iload (pc := 206) X (i := 4) 3 rfl dL_done_206 ?_
        refine xr_icmp_ge (pc := 208) X 228 (by decide) dL_done_208 (fun _ => ?_) (fun _ => ?_)
        · exact x_sub [0, 1, 2, 3, 4] rfl (x_wid (by omega) (by omega) (hKK51  _))
        refine xr_aload_n (pc := 211) X (i := 0) 0 rfl rfl dL_done_211 ?_
        refine xr_bipush (pc := 212) X dL_done_212 (v := 15) (by decide) ?_
        refine xr_iload_n (pc := 214) X (i := 3) 2 rfl rfl dL_done_214 ?_
        refine xr_iconst (pc := 215) X dL_done_215 (v := 0) (by decide) ?_
        refine xr_iconst (pc := 216) X dL_done_216 (v := 0) (by decide) ?_
        refine xr_callSI (na := 5) (pc := 217) X [.ref (ad oo1), .int 15, .int zz4, .int 0, .int 0] (c_L_call Γ.2.1 hI hst oo1 hh1 15 zz4 0 0 σ44) (wG_S wm_5_23 wm_5_21 wm_5_22 wm_5_14) rfl rfl rfl (by decide +kernel) ⟨Nat.le_of_ble_eq_true rfl, Nat.le_of_ble_eq_true rfl⟩ rfl rfl (Nat.le_of_ble_eq_true rfl) ⟨(show _ ≤ 48 by omega), (show _ ≤ 288 by omega)⟩ dL_done_217 (fun zz53 σ52 => ?_)
        refine xr_iload (pc := 220) X (i := 4) 3 rfl dL_done_220 ?_
        refine xr_iload (pc := 222) X (i := 7) 5 rfl dL_done_222 ?_
        refine xr_isub (pc := 224) X dL_done_224 ?_
        refine xr_icmp_ne (pc := 225) X 232 (by decide) dL_done_225 (fun _ => ?_) (fun _ => ?_)
        · exact x_sub [0, 1, 2, 3, 4] rfl (x_wid (by omega) (by omega) (hKK39  _))
        exact x_sub [0, 1, 2, 3, 4] rfl (x_wid (by omega) (by omega) (hKK51  _))
      refine xr_icmp_eq (pc := 171) X 198 (by decide) dL_done_171 (fun _ => ?_) (fun _ => ?_)
      · exact x_sub [0, 1, 2, 3, 5, 6] rfl (x_wid (by omega) (by omega) (hKK46  _))
      refine xr_iload (pc := 174) X (i := 7) 6 rfl dL_done_174 ?_
      refine xr_iload (pc := 176) X (i := 4) 3 rfl dL_done_176 ?_
      refine xr_icmp_lt (pc := 178) X 198 (by decide) dL_done_178 (fun _ => ?_) (fun _ => ?_)
      · exact x_sub [0, 1, 2, 3, 5, 6] rfl (x_wid (by omega) (by omega) (hKK46  _))
      refine xr_iload (pc := 181) X (i := 9) 8 rfl dL_done_181 ?_
      refine xr_if_eq (pc := 183) X 232 (by decide) dL_done_183 (fun _ => ?_) (fun _ => ?_)
      · exact x_sub [0, 1, 2, 3, 5] rfl (x_wid (by omega) (by omega) (hKK39  _))
      refine xr_aload_n (pc := 186) X (i := 0) 0 rfl rfl dL_done_186 ?_
      refine xr_bipush (pc := 187) X dL_done_187 (v := 15) (by decide) ?_
      refine xr_iload_n (pc := 189) X (i := 3) 2 rfl rfl dL_done_189 ?_
      refine xr_iconst (pc := 190) X dL_done_190 (v := 0) (by decide) ?_
      refine xr_iconst (pc := 191) X dL_done_191 (v := 0) (by decide) ?_
      refine xr_callSI (na := 5) (pc := 192) X [.ref (ad oo1), .int 15, .int zz4, .int 0, .int 0] (c_L_call Γ.2.1 hI hst oo1 hh1 15 zz4 0 0 σ42) (wG_S wm_5_23 wm_5_21 wm_5_22 wm_5_14) rfl rfl rfl (by decide +kernel) ⟨Nat.le_of_ble_eq_true rfl, Nat.le_of_ble_eq_true rfl⟩ rfl rfl (Nat.le_of_ble_eq_true rfl) ⟨(show _ ≤ 48 by omega), (show _ ≤ 288 by omega)⟩ dL_done_192 (fun zz48 σ47 => ?_)
      refine xr_if_ne (pc := 195) X 232 (by decide) dL_done_195 (fun _ => ?_) (fun _ => ?_)
      · exact x_sub [0, 1, 2, 3, 5] rfl (x_wid (by omega) (by omega) (hKK39  _))
      exact x_sub [0, 1, 2, 3, 5, 6] rfl (x_wid (by omega) (by omega) (hKK46  _))
    refine x_jn (fun (KK27 : xS → Option (Int32 × xS)) => ∀ σ26, xM Γ D ad N Sh (xQI Γ D ad N Sh 48 288) 21 126 (KK27 σ26) σ26 117 [(0, .ref (ad oo1)), (1, .ref (ad oo2)), (3, .int zz4), (4, .int zz6), (5, .int zz8), (6, .int zz10), (7, .int zz11), (8, .int zz19)] []) (fun σ26 => ?_) (fun KK27 hKK28 => ?_)
    · refine xr_iconst (pc := 117) X dL_done_117 (v := 0) (by decide) ?_
      exact x_wid (by omega) (by omega) (hKK25 _ _)
    refine xr_if_ne (pc := 99) X 117 (by decide) dL_done_99 (fun _ => ?_) (fun _ => ?_)
    · exact x_wid (by omega) (by omega) (hKK28  _)
    refine xr_aload_n (pc := 102) X (i := 0) 0 rfl rfl dL_done_102 ?_
    refine xr_iconst (pc := 103) X dL_done_103 (v := 3) (by decide) ?_
    refine xr_iload_n (pc := 104) X (i := 3) 2 rfl rfl dL_done_104 ?_
    refine xr_iconst (pc := 105) X dL_done_105 (v := 1) (by decide) ?_
    refine xr_iconst (pc := 106) X dL_done_106 (v := 0) (by decide) ?_
    refine xr_callSI (na := 5) (pc := 107) X [.ref (ad oo1), .int 3, .int zz4, .int 1, .int 0] (c_L_call Γ.2.1 hI hst oo1 hh1 3 zz4 1 0 σ20) (wG_S wm_5_23 wm_5_21 wm_5_22 wm_5_14) rfl rfl rfl (by decide +kernel) ⟨Nat.le_of_ble_eq_true rfl, Nat.le_of_ble_eq_true rfl⟩ rfl rfl (Nat.le_of_ble_eq_true rfl) ⟨(show _ ≤ 48 by omega), (show _ ≤ 288 by omega)⟩ dL_done_107 (fun zz30 σ29 => ?_)
    refine xr_if_ne (pc := 110) X 117 (by decide) dL_done_110 (fun _ => ?_) (fun _ => ?_)
    · exact x_wid (by omega) (by omega) (hKK28  _)
    refine xr_iconst (pc := 113) X dL_done_113 (v := 1) (by decide) ?_
    refine xr_goto (pc := 114) X 118 (by decide) dL_done_114 ?_
    exact x_wid (by omega) (by omega) (hKK25 _ _)
  refine x_jn (fun (KK16 : xS → Option (Int32 × xS)) => ∀ σ15, xM Γ D ad N Sh (xQI Γ D ad N Sh 48 288) 12 72 (KK16 σ15) σ15 68 [(0, .ref (ad oo1)), (1, .ref (ad oo2)), (2, .int pp3), (3, .int zz4), (4, .int zz6), (5, .int zz8), (6, .int zz10)] []) (fun σ15 => ?_) (fun KK16 hKK17 => ?_)
  · refine xr_iconst (pc := 68) X dL_done_68 (v := 1) (by decide) ?_
    refine xr_iload_n (pc := 69) X (i := 2) 2 rfl rfl dL_done_69 ?_
    refine xr_bipush (pc := 70) X dL_done_70 (v := 8) (by decide) ?_
    refine xr_idiv (pc := 72) X (by decide) dL_done_72 ?_
    refine xr_bipush (pc := 73) X dL_done_73 (v := 99) (by decide) ?_
    refine xr_irem (pc := 75) X (by decide) dL_done_75 ?_
    refine xr_iadd (pc := 76) X dL_done_76 ?_
    exact x_sub [0, 1, 3, 4, 5, 6] rfl (x_wid (by omega) (by omega) (hKK14 _ _))
  refine xr_if_le (pc := 45) X 68 (by decide) dL_done_45 (fun _ => ?_) (fun _ => ?_)
  · exact x_wid (by omega) (by omega) (hKK17  _)
  refine xr_iload (pc := 48) X (i := 4) 4 rfl dL_done_48 ?_
  refine xr_bipush (pc := 50) X dL_done_50 (v := 100) (by decide) ?_
  refine xr_icmp_ge (pc := 52) X 68 (by decide) dL_done_52 (fun _ => ?_) (fun _ => ?_)
  · exact x_wid (by omega) (by omega) (hKK17  _)
  refine xr_iload_n (pc := 55) X (i := 2) 2 rfl rfl dL_done_55 ?_
  refine xr_iconst (pc := 56) X dL_done_56 (v := 4) (by decide) ?_
  refine xr_idiv (pc := 57) X (by decide) dL_done_57 ?_
  refine xr_iconst (pc := 58) X dL_done_58 (v := 2) (by decide) ?_
  refine xr_irem (pc := 59) X (by decide) dL_done_59 ?_
  refine xr_if_ne (pc := 60) X 68 (by decide) dL_done_60 (fun _ => ?_) (fun _ => ?_)
  · exact x_wid (by omega) (by omega) (hKK17  _)
  refine xr_iload (pc := 63) X (i := 4) 4 rfl dL_done_63 ?_
  refine xr_goto (pc := 65) X 77 (by decide) dL_done_65 ?_
  exact x_sub [0, 1, 3, 4, 5, 6] rfl (x_wid (by omega) (by omega) (hKK14 _ _))
def F_L_there (oo1 : Nat) (oo2 : Nat) (pp3 : Int32) (σ : xS) : Option (Int32 × xS) :=
  xbI (F_L_call oo1 2 0 0 0 σ) (fun (zz2 : Int32) (σ1 : xS) => if ¬ zz2 = 0 then (xlet (pp3 - pp3 / zz2 * zz2) (fun (zz4 : Int32) => xlet (1 + ((pp3 / 4) - (pp3 / 4) / 80 * 80)) (fun (zz5 : Int32) => xbI (F_L_call oo1 16 zz4 zz5 0 σ1) (fun (zz7 : Int32) (σ6 : xS) => xbI (F_L_call oo1 9 zz4 zz5 0 σ6) (fun (zz9 : Int32) (σ8 : xS) => xbI (F_L_call oo2 9 zz4 zz5 0 σ8) (fun (zz11 : Int32) (σ10 : xS) => xjn (fun (zz12 : Int32) (σ13 : xS) => if ¬ zz9 = ((-9999003)) then (xbI (F_L_call oo1 3 zz4 3 0 σ13) (fun (zz17 : Int32) (σ16 : xS) => xjn (fun (zz18 : Int32) (σ19 : xS) => xjn (fun (zz25 : Int32) (σ26 : xS) => xjn (fun (zz49 : Int32) (σ50 : xS) => if zz49 = 0 then (some ((0 : Int32), σ50))
 else (xbI (F_L_call oo1 14 0 0 0 σ50) (fun (zz75 : Int32) (σ74 : xS) => xbI (F_L_thrown zz75 σ74) (fun (zz77 : Int32) (σ76 : xS) => if ¬ zz77 = 0 then (some ((0 : Int32), σ76))
 else (xbI (F_L_call oo2 14 0 0 0 σ76) (fun (zz79 : Int32) (σ78 : xS) => xbI (F_L_thrown zz79 σ78) (fun (zz81 : Int32) (σ80 : xS) => if ¬ zz81 = 0 then (some ((0 : Int32), σ80))
 else (xbI (F_L_call oo1 14 0 0 0 σ80) (fun (zz83 : Int32) (σ82 : xS) => xbI (F_L_thrown zz83 σ82) (fun (zz85 : Int32) (σ84 : xS) => if ¬ zz85 = 0 then (some ((0 : Int32), σ84))
 else (xbI (F_L_call oo2 14 0 0 0 σ84) (fun (zz87 : Int32) (σ86 : xS) => xbI (F_L_thrown zz87 σ86) (fun (zz89 : Int32) (σ88 : xS) => if ¬ zz89 = 0 then (some ((0 : Int32), σ88))
 else (xbI (F_L_call oo1 3 zz4 3 0 σ88) (fun (zz91 : Int32) (σ90 : xS) => if ¬ zz91 = (zz17 - zz5) then (some ((0 : Int32), σ90))
 else (some ((1 : Int32), σ90)))))))))))))))))
 (fun (KK51 : Int32 → xS → Option (Int32 × xS)) => if zz25 = 0 then (KK51 zz25 σ26)
 else (if ¬ zz7 = zz18 then (KK51 zz25 σ26)
 else (if zz7 ≤ 1 then (KK51 zz25 σ26)
 else (xbI (F_L_call oo1 14 0 0 0 σ26) (fun (zz54 : Int32) (σ53 : xS) => xbI (F_L_thrown zz54 σ53) (fun (zz56 : Int32) (σ55 : xS) => xjn (fun (zz57 : Int32) (σ58 : xS) => KK51 zz57 σ58)
 (fun (KK59 : Int32 → xS → Option (Int32 × xS)) => xjn (fun (σ61 : xS) => KK59 0 σ61)
 (fun (KK62 : xS → Option (Int32 × xS)) => if ¬ zz56 = 0 then (KK62 σ55)
 else (xbI (F_L_call oo2 14 0 0 0 σ55) (fun (zz65 : Int32) (σ64 : xS) => xbI (F_L_thrown zz65 σ64) (fun (zz67 : Int32) (σ66 : xS) => if ¬ zz67 = 0 then (KK62 σ66)
 else (xbI (F_L_call oo1 12 (zz18 - 1) 0 0 σ66) (fun (zz69 : Int32) (σ68 : xS) => if zz69 < 0 then (KK62 σ68)
 else (xbI (F_L_call oo2 12 (zz18 - 1) 0 0 σ68) (fun (zz71 : Int32) (σ70 : xS) => if zz71 < 0 then (KK62 σ70)
 else (xbI (F_L_call oo1 4 zz4 0 0 σ70) (fun (zz73 : Int32) (σ72 : xS) => if zz17 ≤ zz73 then (KK62 σ72)
 else (KK59 1 σ72)))))))))))))))))))
 (fun (KK27 : Int32 → xS → Option (Int32 × xS)) => xjn (fun (σ29 : xS) => KK27 0 σ29)
 (fun (KK30 : xS → Option (Int32 × xS)) => if zz12 = 0 then (KK30 σ19)
 else (xbI (F_L_call oo1 12 zz18 0 0 σ19) (fun (zz33 : Int32) (σ32 : xS) => xbI (F_L_call oo2 12 zz18 0 0 σ32) (fun (zz35 : Int32) (σ34 : xS) => if ¬ zz33 = zz35 then (KK30 σ34)
 else (xbI (F_L_call oo1 4 zz4 0 0 σ34) (fun (zz37 : Int32) (σ36 : xS) => xjn (fun (zz38 : Int32) (σ39 : xS) => xjn (fun (zz42 : Int32) (σ43 : xS) => if ¬ zz38 = zz42 then (KK30 σ43)
 else (KK27 1 σ43))
 (fun (KK44 : Int32 → xS → Option (Int32 × xS)) => xjn (fun (σ46 : xS) => KK44 0 σ46)
 (fun (KK47 : xS → Option (Int32 × xS)) => if zz7 = ((-1)) then (KK47 σ39)
 else (if zz18 < zz7 then (KK47 σ39)
 else (KK44 1 σ39)))))
 (fun (KK40 : Int32 → xS → Option (Int32 × xS)) => if zz37 < zz17 then (KK40 0 σ36)
 else (KK40 1 σ36))))))))))
 (fun (KK20 : Int32 → xS → Option (Int32 × xS)) => xjn (fun (σ22 : xS) => KK20 99 σ22)
 (fun (KK23 : xS → Option (Int32 × xS)) => if zz7 = ((-1)) then (KK23 σ16)
 else (if 100 ≤ zz7 then (KK23 σ16)
 else (KK20 zz7 σ16))))))
 else (if zz12 = 0 then (some ((0 : Int32), σ13))
 else (if ¬ zz7 = ((-1)) then (some ((0 : Int32), σ13))
 else (some ((1 : Int32), σ13)))))
 (fun (KK14 : Int32 → xS → Option (Int32 × xS)) => if ¬ zz11 = zz9 then (KK14 0 σ10)
 else (KK14 1 σ10)))))))) else none)
abbrev rm_L_there : Room := { frames := 11, cells := 54, slots := 324, locals := 220 }
set_option maxHeartbeats 4000000 in
set_option maxRecDepth 100000 in
theorem c_L_there (l : Launch) {D : va_G} {ad : Nat → Nat} {N : Nat} {Sh : xSh} (hI : ∀ i j, i < N → j < N → ad i = ad j → i = j) (hst : l.stackTraces = false) (oo1 : Nat) (hh1 : xIs5 D ad N Sh oo1) (oo2 : Nat) (hh2 : xIs5 D ad N Sh oo2) (pp3 : Int32) (σ : xS) : xKI l yL_there (Cond.code yL_there cL_there 10 (some .boolean) :: wG) rm_L_there 54 324 D ad N Sh [.ref (ad oo1), .ref (ad oo2), .int pp3] σ (F_L_there oo1 oo2 pp3 σ) := by
  refine x_startI (own := RL) (maxL := 10) (by decide) rfl rfl (Nat.le_of_ble_eq_true rfl) rfl hI (fun Γ hl hnL X => ?_)
  subst hl
  unfold F_L_there
  refine xr_iload_n (pc := 0) X (i := 2) 2 rfl rfl dL_there_0 ?_
  refine xr_aload_n (pc := 1) X (i := 0) 0 rfl rfl dL_there_1 ?_
  refine xr_iconst (pc := 2) X dL_there_2 (v := 2) (by decide) ?_
  refine xr_iconst (pc := 3) X dL_there_3 (v := 0) (by decide) ?_
  refine xr_iconst (pc := 4) X dL_there_4 (v := 0) (by decide) ?_
  refine xr_iconst (pc := 5) X dL_there_5 (v := 0) (by decide) ?_
  refine xr_callSI (na := 5) (pc := 6) X [.ref (ad oo1), .int 2, .int 0, .int 0, .int 0] (c_L_call Γ.2.1 hI hst oo1 hh1 2 0 0 0 σ) (wG_S wm_5_23 wm_5_21 wm_5_22 wm_5_14) rfl rfl rfl (by decide +kernel) ⟨Nat.le_of_ble_eq_true rfl, Nat.le_of_ble_eq_true rfl⟩ rfl rfl (Nat.le_of_ble_eq_true rfl) ⟨(show _ ≤ 54 by omega), (show _ ≤ 324 by omega)⟩ dL_there_6 (fun zz2 σ1 => ?_)
  refine x_gd (fun hzz3 => ?_)
  refine xr_irem (pc := 9) X hzz3 dL_there_9 ?_
  refine x_leti (fun zz4 => ?_)
  refine xr_istore_n (pc := 10) X (hf := rfl) (i := 3) [1, 2, 3, 0] (Nat.le_of_ble_eq_true rfl) hnL rfl dL_there_10 ?_
  refine xr_iconst (pc := 11) X dL_there_11 (v := 1) (by decide) ?_
  refine xr_iload_n (pc := 12) X (i := 2) 2 rfl rfl dL_there_12 ?_
  refine xr_iconst (pc := 13) X dL_there_13 (v := 4) (by decide) ?_
  refine xr_idiv (pc := 14) X (by decide) dL_there_14 ?_
  refine xr_bipush (pc := 15) X dL_there_15 (v := 80) (by decide) ?_
  refine xr_irem (pc := 17) X (by decide) dL_there_17 ?_
  refine xr_iadd (pc := 18) X dL_there_18 ?_
  refine x_leti (fun zz5 => ?_)
  refine xr_istore (pc := 19) X (i := 4) [1, 2, 4, 0] (Nat.le_of_ble_eq_true rfl) hnL rfl dL_there_19 ?_
  refine xr_aload_n (pc := 21) X (i := 0) 0 rfl rfl dL_there_21 ?_
  refine xr_bipush (pc := 22) X dL_there_22 (v := 16) (by decide) ?_
  refine xr_iload_n (pc := 24) X (i := 3) 2 rfl rfl dL_there_24 ?_
  refine xr_iload (pc := 25) X (i := 4) 3 rfl dL_there_25 ?_
  refine xr_iconst (pc := 27) X dL_there_27 (v := 0) (by decide) ?_
  refine xr_callSI (na := 5) (pc := 28) X [.ref (ad oo1), .int 16, .int zz4, .int zz5, .int 0] (c_L_call Γ.2.1 hI hst oo1 hh1 16 zz4 zz5 0 σ1) (wG_S wm_5_23 wm_5_21 wm_5_22 wm_5_14) rfl rfl rfl (by decide +kernel) ⟨Nat.le_of_ble_eq_true rfl, Nat.le_of_ble_eq_true rfl⟩ rfl rfl (Nat.le_of_ble_eq_true rfl) ⟨(show _ ≤ 54 by omega), (show _ ≤ 324 by omega)⟩ dL_there_28 (fun zz7 σ6 => ?_)
  refine xr_istore (pc := 31) X (i := 5) [1, 2, 3, 4, 0] (Nat.le_of_ble_eq_true rfl) hnL rfl dL_there_31 ?_
  refine xr_aload_n (pc := 33) X (i := 0) 0 rfl rfl dL_there_33 ?_
  refine xr_bipush (pc := 34) X dL_there_34 (v := 9) (by decide) ?_
  refine xr_iload_n (pc := 36) X (i := 3) 2 rfl rfl dL_there_36 ?_
  refine xr_iload (pc := 37) X (i := 4) 3 rfl dL_there_37 ?_
  refine xr_iconst (pc := 39) X dL_there_39 (v := 0) (by decide) ?_
  refine xr_callSI (na := 5) (pc := 40) X [.ref (ad oo1), .int 9, .int zz4, .int zz5, .int 0] (c_L_call Γ.2.1 hI hst oo1 hh1 9 zz4 zz5 0 σ6) (wG_S wm_5_23 wm_5_21 wm_5_22 wm_5_14) rfl rfl rfl (by decide +kernel) ⟨Nat.le_of_ble_eq_true rfl, Nat.le_of_ble_eq_true rfl⟩ rfl rfl (Nat.le_of_ble_eq_true rfl) ⟨(show _ ≤ 54 by omega), (show _ ≤ 324 by omega)⟩ dL_there_40 (fun zz9 σ8 => ?_)
  refine xr_istore (pc := 43) X (i := 6) [1, 2, 3, 4, 5, 0] (Nat.le_of_ble_eq_true rfl) hnL rfl dL_there_43 ?_
  refine xr_aload_n (pc := 45) X (i := 1) 1 rfl rfl dL_there_45 ?_
  refine xr_bipush (pc := 46) X dL_there_46 (v := 9) (by decide) ?_
  refine xr_iload_n (pc := 48) X (i := 3) 2 rfl rfl dL_there_48 ?_
  refine xr_iload (pc := 49) X (i := 4) 3 rfl dL_there_49 ?_
  refine xr_iconst (pc := 51) X dL_there_51 (v := 0) (by decide) ?_
  refine xr_callSI (na := 5) (pc := 52) X [.ref (ad oo2), .int 9, .int zz4, .int zz5, .int 0] (c_L_call Γ.2.1 hI hst oo2 hh2 9 zz4 zz5 0 σ8) (wG_S wm_5_23 wm_5_21 wm_5_22 wm_5_14) rfl rfl rfl (by decide +kernel) ⟨Nat.le_of_ble_eq_true rfl, Nat.le_of_ble_eq_true rfl⟩ rfl rfl (Nat.le_of_ble_eq_true rfl) ⟨(show _ ≤ 54 by omega), (show _ ≤ 324 by omega)⟩ dL_there_52 (fun zz11 σ10 => ?_)
  refine xr_iload (pc := 55) X (i := 6) 5 rfl dL_there_55 ?_
  refine x_jn (fun (KK14 : Int32 → xS → Option (Int32 × xS)) => ∀ zz12 σ13, xM Γ D ad N Sh (xQI Γ D ad N Sh 54 324) 12 72 (KK14 zz12 σ13) σ13 65 [(0, .ref (ad oo1)), (1, .ref (ad oo2)), (3, .int zz4), (4, .int zz5), (5, .int zz7), (6, .int zz9)] [.int zz12]) (fun zz12 σ13 => ?_) (fun KK14 hKK15 => ?_)
  · refine xr_istore (pc := 65) X (i := 7) [1, 2, 3, 4, 5, 6, 0] (Nat.le_of_ble_eq_true rfl) hnL rfl dL_there_65 ?_
    refine xr_iload (pc := 67) X (i := 6) 5 rfl dL_there_67 ?_
    refine xr_ldc (pc := 69) X dL_there_69 (List.mem_cons_of_mem _ wm_6_6) ?_
    refine xr_icmp_ne (pc := 71) X 91 (by decide) dL_there_71 (fun _ => ?_) (fun _ => ?_)
    · refine xr_aload_n (pc := 91) X (i := 0) 0 rfl rfl dL_there_91 ?_
      refine xr_iconst (pc := 92) X dL_there_92 (v := 3) (by decide) ?_
      refine xr_iload_n (pc := 93) X (i := 3) 2 rfl rfl dL_there_93 ?_
      refine xr_iconst (pc := 94) X dL_there_94 (v := 3) (by decide) ?_
      refine xr_iconst (pc := 95) X dL_there_95 (v := 0) (by decide) ?_
      refine xr_callSI (na := 5) (pc := 96) X [.ref (ad oo1), .int 3, .int zz4, .int 3, .int 0] (c_L_call Γ.2.1 hI hst oo1 hh1 3 zz4 3 0 σ13) (wG_S wm_5_23 wm_5_21 wm_5_22 wm_5_14) rfl rfl rfl (by decide +kernel) ⟨Nat.le_of_ble_eq_true rfl, Nat.le_of_ble_eq_true rfl⟩ rfl rfl (Nat.le_of_ble_eq_true rfl) ⟨(show _ ≤ 54 by omega), (show _ ≤ 324 by omega)⟩ dL_there_96 (fun zz17 σ16 => ?_)
      refine xr_istore (pc := 99) X (i := 8) [1, 2, 3, 4, 5, 7, 0] (Nat.le_of_ble_eq_true rfl) hnL rfl dL_there_99 ?_
      refine xr_iload (pc := 101) X (i := 5) 4 rfl dL_there_101 ?_
      refine xr_iconst (pc := 103) X dL_there_103 (v := (-1)) (by decide) ?_
      refine x_jn (fun (KK20 : Int32 → xS → Option (Int32 × xS)) => ∀ zz18 σ19, xM Γ D ad N Sh (xQI Γ D ad N Sh 54 324) 15 90 (KK20 zz18 σ19) σ19 121 [(0, .ref (ad oo1)), (1, .ref (ad oo2)), (3, .int zz4), (4, .int zz5), (5, .int zz7), (7, .int zz12), (8, .int zz17)] [.int zz18]) (fun zz18 σ19 => ?_) (fun KK20 hKK21 => ?_)
      · refine xr_istore (pc := 121) X (i := 9) [1, 2, 3, 4, 5, 6, 7, 0] (Nat.le_of_ble_eq_true rfl) hnL rfl dL_there_121 ?_
        refine xr_iload (pc := 123) X (i := 7) 5 rfl dL_there_123 ?_
        refine x_jn (fun (KK27 : Int32 → xS → Option (Int32 × xS)) => ∀ zz25 σ26, xM Γ D ad N Sh (xQI Γ D ad N Sh 54 324) 24 144 (KK27 zz25 σ26) σ26 195 [(0, .ref (ad oo1)), (1, .ref (ad oo2)), (3, .int zz4), (4, .int zz5), (5, .int zz7), (8, .int zz17), (9, .int zz18)] [.int zz25]) (fun zz25 σ26 => ?_) (fun KK27 hKK28 => ?_)
        · refine xr_istore (pc := 195) X (i := 7) [1, 2, 3, 4, 5, 0, 6, 7] (Nat.le_of_ble_eq_true rfl) hnL rfl dL_there_195 ?_
          refine xr_iload (pc := 197) X (i := 7) 5 rfl dL_there_197 ?_
          refine x_jn (fun (KK51 : Int32 → xS → Option (Int32 × xS)) => ∀ zz49 σ50, xM Γ D ad N Sh (xQI Γ D ad N Sh 54 324) 39 234 (KK51 zz49 σ50) σ50 295 [(0, .ref (ad oo1)), (1, .ref (ad oo2)), (3, .int zz4), (4, .int zz5), (7, .int zz49), (8, .int zz17)] []) (fun zz49 σ50 => ?_) (fun KK51 hKK52 => ?_)
          · refine xr_iload (pc := 295) X (i := 7) 4 rfl dL_there_295 ?_
            refine xr_if_eq (pc := 297) X 380 (by decide) dL_there_297 (fun _ => ?_) (fun _ => ?_)
            · refine xr_iconst (pc := 380) X dL_there_380 (v := 0) (by decide) ?_
              exact xr_zret (pc := 381) X rfl (Nat.le_of_ble_eq_true rfl) (Nat.le_of_ble_eq_true rfl) dL_there_381
            refine xr_aload_n (pc := 300) X (i := 0) 0 rfl rfl dL_there_300 ?_
            refine xr_bipush (pc := 301) X dL_there_301 (v := 14) (by decide) ?_
            refine xr_iconst (pc := 303) X dL_there_303 (v := 0) (by decide) ?_
            refine xr_iconst (pc := 304) X dL_there_304 (v := 0) (by decide) ?_
            refine xr_iconst (pc := 305) X dL_there_305 (v := 0) (by decide) ?_
            refine xr_callSI (na := 5) (pc := 306) X [.ref (ad oo1), .int 14, .int 0, .int 0, .int 0] (c_L_call Γ.2.1 hI hst oo1 hh1 14 0 0 0 σ50) (wG_S wm_5_23 wm_5_21 wm_5_22 wm_5_14) rfl rfl rfl (by decide +kernel) ⟨Nat.le_of_ble_eq_true rfl, Nat.le_of_ble_eq_true rfl⟩ rfl rfl (Nat.le_of_ble_eq_true rfl) ⟨(show _ ≤ 54 by omega), (show _ ≤ 324 by omega)⟩ dL_there_306 (fun zz75 σ74 => ?_)
            refine xr_callSI (na := 1) (pc := 309) X [.int zz75] (c_L_thrown Γ.2.1 hI zz75 σ74) (wG_S wm_23_20 wm_23_18 wm_23_19 wm_5_14) rfl rfl rfl (by decide +kernel) ⟨Nat.le_of_ble_eq_true rfl, Nat.le_of_ble_eq_true rfl⟩ rfl rfl (Nat.le_of_ble_eq_true rfl) ⟨(show _ ≤ 54 by omega), (show _ ≤ 324 by omega)⟩ dL_there_309 (fun zz77 σ76 => ?_)
            refine xr_if_ne (pc := 312) X 380 (by decide) dL_there_312 (fun _ => ?_) (fun _ => ?_)
            · refine xr_iconst (pc := 380) X dL_there_380 (v := 0) (by decide) ?_
              exact xr_zret (pc := 381) X rfl (Nat.le_of_ble_eq_true rfl) (Nat.le_of_ble_eq_true rfl) dL_there_381
            refine xr_aload_n (pc := 315) X (i := 1) 1 rfl rfl dL_there_315 ?_
            refine xr_bipush (pc := 316) X dL_there_316 (v := 14) (by decide) ?_
            refine xr_iconst (pc := 318) X dL_there_318 (v := 0) (by decide) ?_
            refine xr_iconst (pc := 319) X dL_there_319 (v := 0) (by decide) ?_
            refine xr_iconst (pc := 320) X dL_there_320 (v := 0) (by decide) ?_
            refine xr_callSI (na := 5) (pc := 321) X [.ref (ad oo2), .int 14, .int 0, .int 0, .int 0] (c_L_call Γ.2.1 hI hst oo2 hh2 14 0 0 0 σ76) (wG_S wm_5_23 wm_5_21 wm_5_22 wm_5_14) rfl rfl rfl (by decide +kernel) ⟨Nat.le_of_ble_eq_true rfl, Nat.le_of_ble_eq_true rfl⟩ rfl rfl (Nat.le_of_ble_eq_true rfl) ⟨(show _ ≤ 54 by omega), (show _ ≤ 324 by omega)⟩ dL_there_321 (fun zz79 σ78 => ?_)
            refine xr_callSI (na := 1) (pc := 324) X [.int zz79] (c_L_thrown Γ.2.1 hI zz79 σ78) (wG_S wm_23_20 wm_23_18 wm_23_19 wm_5_14) rfl rfl rfl (by decide +kernel) ⟨Nat.le_of_ble_eq_true rfl, Nat.le_of_ble_eq_true rfl⟩ rfl rfl (Nat.le_of_ble_eq_true rfl) ⟨(show _ ≤ 54 by omega), (show _ ≤ 324 by omega)⟩ dL_there_324 (fun zz81 σ80 => ?_)
            refine xr_if_ne (pc := 327) X 380 (by decide) dL_there_327 (fun _ => ?_) (fun _ => ?_)
            · refine xr_iconst (pc := 380) X dL_there_380 (v := 0) (by decide) ?_
              exact xr_zret (pc := 381) X rfl (Nat.le_of_ble_eq_true rfl) (Nat.le_of_ble_eq_true rfl) dL_there_381
            refine xr_aload_n (pc := 330) X (i := 0) 0 rfl rfl dL_there_330 ?_
            refine xr_bipush (pc := 331) X dL_there_331 (v := 14) (by decide) ?_
            refine xr_iconst (pc := 333) X dL_there_333 (v := 0) (by decide) ?_
            refine xr_iconst (pc := 334) X dL_there_334 (v := 0) (by decide) ?_
            refine xr_iconst (pc := 335) X dL_there_335 (v := 0) (by decide) ?_
            refine xr_callSI (na := 5) (pc := 336) X [.ref (ad oo1), .int 14, .int 0, .int 0, .int 0] (c_L_call Γ.2.1 hI hst oo1 hh1 14 0 0 0 σ80) (wG_S wm_5_23 wm_5_21 wm_5_22 wm_5_14) rfl rfl rfl (by decide +kernel) ⟨Nat.le_of_ble_eq_true rfl, Nat.le_of_ble_eq_true rfl⟩ rfl rfl (Nat.le_of_ble_eq_true rfl) ⟨(show _ ≤ 54 by omega), (show _ ≤ 324 by omega)⟩ dL_there_336 (fun zz83 σ82 => ?_)
            refine xr_callSI (na := 1) (pc := 339) X [.int zz83] (c_L_thrown Γ.2.1 hI zz83 σ82) (wG_S wm_23_20 wm_23_18 wm_23_19 wm_5_14) rfl rfl rfl (by decide +kernel) ⟨Nat.le_of_ble_eq_true rfl, Nat.le_of_ble_eq_true rfl⟩ rfl rfl (Nat.le_of_ble_eq_true rfl) ⟨(show _ ≤ 54 by omega), (show _ ≤ 324 by omega)⟩ dL_there_339 (fun zz85 σ84 => ?_)
            refine xr_if_ne (pc := 342) X 380 (by decide) dL_there_342 (fun _ => ?_) (fun _ => ?_)
            · refine xr_iconst (pc := 380) X dL_there_380 (v := 0) (by decide) ?_
              exact xr_zret (pc := 381) X rfl (Nat.le_of_ble_eq_true rfl) (Nat.le_of_ble_eq_true rfl) dL_there_381
            refine xr_aload_n (pc := 345) X (i := 1) 1 rfl rfl dL_there_345 ?_
            refine xr_bipush (pc := 346) X dL_there_346 (v := 14) (by decide) ?_
            refine xr_iconst (pc := 348) X dL_there_348 (v := 0) (by decide) ?_
            refine xr_iconst (pc := 349) X dL_there_349 (v := 0) (by decide) ?_
            refine xr_iconst (pc := 350) X dL_there_350 (v := 0) (by decide) ?_
            refine xr_callSI (na := 5) (pc := 351) X [.ref (ad oo2), .int 14, .int 0, .int 0, .int 0] (c_L_call Γ.2.1 hI hst oo2 hh2 14 0 0 0 σ84) (wG_S wm_5_23 wm_5_21 wm_5_22 wm_5_14) rfl rfl rfl (by decide +kernel) ⟨Nat.le_of_ble_eq_true rfl, Nat.le_of_ble_eq_true rfl⟩ rfl rfl (Nat.le_of_ble_eq_true rfl) ⟨(show _ ≤ 54 by omega), (show _ ≤ 324 by omega)⟩ dL_there_351 (fun zz87 σ86 => ?_)
            refine xr_callSI (na := 1) (pc := 354) X [.int zz87] (c_L_thrown Γ.2.1 hI zz87 σ86) (wG_S wm_23_20 wm_23_18 wm_23_19 wm_5_14) rfl rfl rfl (by decide +kernel) ⟨Nat.le_of_ble_eq_true rfl, Nat.le_of_ble_eq_true rfl⟩ rfl rfl (Nat.le_of_ble_eq_true rfl) ⟨(show _ ≤ 54 by omega), (show _ ≤ 324 by omega)⟩ dL_there_354 (fun zz89 σ88 => ?_)
            refine xr_if_ne (pc := 357) X 380 (by decide) dL_there_357 (fun _ => ?_) (fun _ => ?_)
            · refine xr_iconst (pc := 380) X dL_there_380 (v := 0) (by decide) ?_
              exact xr_zret (pc := 381) X rfl (Nat.le_of_ble_eq_true rfl) (Nat.le_of_ble_eq_true rfl) dL_there_381
            refine xr_aload_n (pc := 360) X (i := 0) 0 rfl rfl dL_there_360 ?_
            refine xr_iconst (pc := 361) X dL_there_361 (v := 3) (by decide) ?_
            refine xr_iload_n (pc := 362) X (i := 3) 2 rfl rfl dL_there_362 ?_
            refine xr_iconst (pc := 363) X dL_there_363 (v := 3) (by decide) ?_
            refine xr_iconst (pc := 364) X dL_there_364 (v := 0) (by decide) ?_
            refine xr_callSI (na := 5) (pc := 365) X [.ref (ad oo1), .int 3, .int zz4, .int 3, .int 0] (c_L_call Γ.2.1 hI hst oo1 hh1 3 zz4 3 0 σ88) (wG_S wm_5_23 wm_5_21 wm_5_22 wm_5_14) rfl rfl rfl (by decide +kernel) ⟨Nat.le_of_ble_eq_true rfl, Nat.le_of_ble_eq_true rfl⟩ rfl rfl (Nat.le_of_ble_eq_true rfl) ⟨(show _ ≤ 54 by omega), (show _ ≤ 324 by omega)⟩ dL_there_365 (fun zz91 σ90 => ?_)
            refine xr_iload (pc := 368) X (i := 8) 5 rfl dL_there_368 ?_
            refine xr_iload (pc := 370) X (i := 4) 3 rfl dL_there_370 ?_
            refine xr_isub (pc := 372) X dL_there_372 ?_
            refine xr_icmp_ne (pc := 373) X 380 (by decide) dL_there_373 (fun _ => ?_) (fun _ => ?_)
            · refine xr_iconst (pc := 380) X dL_there_380 (v := 0) (by decide) ?_
              exact xr_zret (pc := 381) X rfl (Nat.le_of_ble_eq_true rfl) (Nat.le_of_ble_eq_true rfl) dL_there_381
            refine xr_iconst (pc := 376) X dL_there_376 (v := 1) (by decide) ?_
            refine xr_goto (pc := 377) X 381 (by decide) dL_there_377 ?_
            exact xr_zret (pc := 381) X rfl (Nat.le_of_ble_eq_true rfl) (Nat.le_of_ble_eq_true rfl) dL_there_381
          refine xr_if_eq (pc := 199) X 295 (by decide) dL_there_199 (fun _ => ?_) (fun _ => ?_)
          · exact x_sub [0, 1, 2, 3, 5, 6] rfl (x_wid (by omega) (by omega) (hKK52 _ _))
          refine xr_iload (pc := 202) X (i := 5) 4 rfl dL_there_202 ?_
          refine xr_iload (pc := 204) X (i := 9) 7 rfl dL_there_204 ?_
          refine xr_icmp_ne (pc := 206) X 295 (by decide) dL_there_206 (fun _ => ?_) (fun _ => ?_)
          · exact x_sub [0, 1, 2, 3, 5, 6] rfl (x_wid (by omega) (by omega) (hKK52 _ _))
          refine xr_iload (pc := 209) X (i := 5) 4 rfl dL_there_209 ?_
          refine xr_iconst (pc := 211) X dL_there_211 (v := 1) (by decide) ?_
          refine xr_icmp_le (pc := 212) X 295 (by decide) dL_there_212 (fun _ => ?_) (fun _ => ?_)
          · exact x_sub [0, 1, 2, 3, 5, 6] rfl (x_wid (by omega) (by omega) (hKK52 _ _))
          refine xr_aload_n (pc := 215) X (i := 0) 0 rfl rfl dL_there_215 ?_
          refine xr_bipush (pc := 216) X dL_there_216 (v := 14) (by decide) ?_
          refine xr_iconst (pc := 218) X dL_there_218 (v := 0) (by decide) ?_
          refine xr_iconst (pc := 219) X dL_there_219 (v := 0) (by decide) ?_
          refine xr_iconst (pc := 220) X dL_there_220 (v := 0) (by decide) ?_
          refine xr_callSI (na := 5) (pc := 221) X [.ref (ad oo1), .int 14, .int 0, .int 0, .int 0] (c_L_call Γ.2.1 hI hst oo1 hh1 14 0 0 0 σ26) (wG_S wm_5_23 wm_5_21 wm_5_22 wm_5_14) rfl rfl rfl (by decide +kernel) ⟨Nat.le_of_ble_eq_true rfl, Nat.le_of_ble_eq_true rfl⟩ rfl rfl (Nat.le_of_ble_eq_true rfl) ⟨(show _ ≤ 54 by omega), (show _ ≤ 324 by omega)⟩ dL_there_221 (fun zz54 σ53 => ?_)
          refine xr_callSI (na := 1) (pc := 224) X [.int zz54] (c_L_thrown Γ.2.1 hI zz54 σ53) (wG_S wm_23_20 wm_23_18 wm_23_19 wm_5_14) rfl rfl rfl (by decide +kernel) ⟨Nat.le_of_ble_eq_true rfl, Nat.le_of_ble_eq_true rfl⟩ rfl rfl (Nat.le_of_ble_eq_true rfl) ⟨(show _ ≤ 54 by omega), (show _ ≤ 324 by omega)⟩ dL_there_224 (fun zz56 σ55 => ?_)
          refine x_jn (fun (KK59 : Int32 → xS → Option (Int32 × xS)) => ∀ zz57 σ58, xM Γ D ad N Sh (xQI Γ D ad N Sh 54 324) 39 234 (KK59 zz57 σ58) σ58 293 [(0, .ref (ad oo1)), (1, .ref (ad oo2)), (3, .int zz4), (4, .int zz5), (8, .int zz17)] [.int zz57]) (fun zz57 σ58 => ?_) (fun KK59 hKK60 => ?_)
          · refine xr_istore (pc := 293) X (i := 7) [1, 2, 3, 4, 0, 5] (Nat.le_of_ble_eq_true rfl) hnL rfl dL_there_293 ?_
            exact x_wid (by omega) (by omega) (hKK52 _ _)
          refine x_jn (fun (KK62 : xS → Option (Int32 × xS)) => ∀ σ61, xM Γ D ad N Sh (xQI Γ D ad N Sh 54 324) 39 234 (KK62 σ61) σ61 292 [(0, .ref (ad oo1)), (1, .ref (ad oo2)), (3, .int zz4), (4, .int zz5), (8, .int zz17)] []) (fun σ61 => ?_) (fun KK62 hKK63 => ?_)
          · refine xr_iconst (pc := 292) X dL_there_292 (v := 0) (by decide) ?_
            exact x_wid (by omega) (by omega) (hKK60 _ _)
          refine xr_if_ne (pc := 227) X 292 (by decide) dL_there_227 (fun _ => ?_) (fun _ => ?_)
          · exact x_sub [0, 1, 2, 3, 6] rfl (x_wid (by omega) (by omega) (hKK63  _))
          refine xr_aload_n (pc := 230) X (i := 1) 1 rfl rfl dL_there_230 ?_
          refine xr_bipush (pc := 231) X dL_there_231 (v := 14) (by decide) ?_
          refine xr_iconst (pc := 233) X dL_there_233 (v := 0) (by decide) ?_
          refine xr_iconst (pc := 234) X dL_there_234 (v := 0) (by decide) ?_
          refine xr_iconst (pc := 235) X dL_there_235 (v := 0) (by decide) ?_
          refine xr_callSI (na := 5) (pc := 236) X [.ref (ad oo2), .int 14, .int 0, .int 0, .int 0] (c_L_call Γ.2.1 hI hst oo2 hh2 14 0 0 0 σ55) (wG_S wm_5_23 wm_5_21 wm_5_22 wm_5_14) rfl rfl rfl (by decide +kernel) ⟨Nat.le_of_ble_eq_true rfl, Nat.le_of_ble_eq_true rfl⟩ rfl rfl (Nat.le_of_ble_eq_true rfl) ⟨(show _ ≤ 54 by omega), (show _ ≤ 324 by omega)⟩ dL_there_236 (fun zz65 σ64 => ?_)
          refine xr_callSI (na := 1) (pc := 239) X [.int zz65] (c_L_thrown Γ.2.1 hI zz65 σ64) (wG_S wm_23_20 wm_23_18 wm_23_19 wm_5_14) rfl rfl rfl (by decide +kernel) ⟨Nat.le_of_ble_eq_true rfl, Nat.le_of_ble_eq_true rfl⟩ rfl rfl (Nat.le_of_ble_eq_true rfl) ⟨(show _ ≤ 54 by omega), (show _ ≤ 324 by omega)⟩ dL_there_239 (fun zz67 σ66 => ?_)
          refine xr_if_ne (pc := 242) X 292 (by decide) dL_there_242 (fun _ => ?_) (fun _ => ?_)
          · exact x_sub [0, 1, 2, 3, 6] rfl (x_wid (by omega) (by omega) (hKK63  _))
          refine xr_aload_n (pc := 245) X (i := 0) 0 rfl rfl dL_there_245 ?_
          refine xr_bipush (pc := 246) X dL_there_246 (v := 12) (by decide) ?_
          refine xr_iload (pc := 248) X (i := 9) 7 rfl dL_there_248 ?_
          refine xr_iconst (pc := 250) X dL_there_250 (v := 1) (by decide) ?_
          refine xr_isub (pc := 251) X dL_there_251 ?_
          refine xr_iconst (pc := 252) X dL_there_252 (v := 0) (by decide) ?_
          refine xr_iconst (pc := 253) X dL_there_253 (v := 0) (by decide) ?_
          refine xr_callSI (na := 5) (pc := 254) X [.ref (ad oo1), .int 12, .int (zz18 - 1), .int 0, .int 0] (c_L_call Γ.2.1 hI hst oo1 hh1 12 (zz18 - 1) 0 0 σ66) (wG_S wm_5_23 wm_5_21 wm_5_22 wm_5_14) rfl rfl rfl (by decide +kernel) ⟨Nat.le_of_ble_eq_true rfl, Nat.le_of_ble_eq_true rfl⟩ rfl rfl (Nat.le_of_ble_eq_true rfl) ⟨(show _ ≤ 54 by omega), (show _ ≤ 324 by omega)⟩ dL_there_254 (fun zz69 σ68 => ?_)
          refine xr_if_lt (pc := 257) X 292 (by decide) dL_there_257 (fun _ => ?_) (fun _ => ?_)
          · exact x_sub [0, 1, 2, 3, 6] rfl (x_wid (by omega) (by omega) (hKK63  _))
          refine xr_aload_n (pc := 260) X (i := 1) 1 rfl rfl dL_there_260 ?_
          refine xr_bipush (pc := 261) X dL_there_261 (v := 12) (by decide) ?_
          refine xr_iload (pc := 263) X (i := 9) 7 rfl dL_there_263 ?_
          refine xr_iconst (pc := 265) X dL_there_265 (v := 1) (by decide) ?_
          refine xr_isub (pc := 266) X dL_there_266 ?_
          refine xr_iconst (pc := 267) X dL_there_267 (v := 0) (by decide) ?_
          refine xr_iconst (pc := 268) X dL_there_268 (v := 0) (by decide) ?_
          refine xr_callSI (na := 5) (pc := 269) X [.ref (ad oo2), .int 12, .int (zz18 - 1), .int 0, .int 0] (c_L_call Γ.2.1 hI hst oo2 hh2 12 (zz18 - 1) 0 0 σ68) (wG_S wm_5_23 wm_5_21 wm_5_22 wm_5_14) rfl rfl rfl (by decide +kernel) ⟨Nat.le_of_ble_eq_true rfl, Nat.le_of_ble_eq_true rfl⟩ rfl rfl (Nat.le_of_ble_eq_true rfl) ⟨(show _ ≤ 54 by omega), (show _ ≤ 324 by omega)⟩ dL_there_269 (fun zz71 σ70 => ?_)
          refine xr_if_lt (pc := 272) X 292 (by decide) dL_there_272 (fun _ => ?_) (fun _ => ?_)
          · exact x_sub [0, 1, 2, 3, 6] rfl (x_wid (by omega) (by omega) (hKK63  _))
          refine xr_aload_n (pc := 275) X (i := 0) 0 rfl rfl dL_there_275 ?_
          refine xr_iconst (pc := 276) X dL_there_276 (v := 4) (by decide) ?_
          refine xr_iload_n (pc := 277) X (i := 3) 2 rfl rfl dL_there_277 ?_
          refine xr_iconst (pc := 278) X dL_there_278 (v := 0) (by decide) ?_
          refine xr_iconst (pc := 279) X dL_there_279 (v := 0) (by decide) ?_
          refine xr_callSI (na := 5) (pc := 280) X [.ref (ad oo1), .int 4, .int zz4, .int 0, .int 0] (c_L_call Γ.2.1 hI hst oo1 hh1 4 zz4 0 0 σ70) (wG_S wm_5_23 wm_5_21 wm_5_22 wm_5_14) rfl rfl rfl (by decide +kernel) ⟨Nat.le_of_ble_eq_true rfl, Nat.le_of_ble_eq_true rfl⟩ rfl rfl (Nat.le_of_ble_eq_true rfl) ⟨(show _ ≤ 54 by omega), (show _ ≤ 324 by omega)⟩ dL_there_280 (fun zz73 σ72 => ?_)
          refine xr_iload (pc := 283) X (i := 8) 6 rfl dL_there_283 ?_
          refine xr_icmp_ge (pc := 285) X 292 (by decide) dL_there_285 (fun _ => ?_) (fun _ => ?_)
          · exact x_sub [0, 1, 2, 3, 6] rfl (x_wid (by omega) (by omega) (hKK63  _))
          refine xr_iconst (pc := 288) X dL_there_288 (v := 1) (by decide) ?_
          refine xr_goto (pc := 289) X 293 (by decide) dL_there_289 ?_
          exact x_sub [0, 1, 2, 3, 6] rfl (x_wid (by omega) (by omega) (hKK60 _ _))
        refine x_jn (fun (KK30 : xS → Option (Int32 × xS)) => ∀ σ29, xM Γ D ad N Sh (xQI Γ D ad N Sh 54 324) 24 144 (KK30 σ29) σ29 194 [(0, .ref (ad oo1)), (1, .ref (ad oo2)), (3, .int zz4), (4, .int zz5), (5, .int zz7), (8, .int zz17), (9, .int zz18)] []) (fun σ29 => ?_) (fun KK30 hKK31 => ?_)
        · refine xr_iconst (pc := 194) X dL_there_194 (v := 0) (by decide) ?_
          exact x_wid (by omega) (by omega) (hKK28 _ _)
        refine xr_if_eq (pc := 125) X 194 (by decide) dL_there_125 (fun _ => ?_) (fun _ => ?_)
        · exact x_sub [0, 1, 2, 3, 4, 6, 7] rfl (x_wid (by omega) (by omega) (hKK31  _))
        refine xr_aload_n (pc := 128) X (i := 0) 0 rfl rfl dL_there_128 ?_
        refine xr_bipush (pc := 129) X dL_there_129 (v := 12) (by decide) ?_
        refine xr_iload (pc := 131) X (i := 9) 7 rfl dL_there_131 ?_
        refine xr_iconst (pc := 133) X dL_there_133 (v := 0) (by decide) ?_
        refine xr_iconst (pc := 134) X dL_there_134 (v := 0) (by decide) ?_
        refine xr_callSI (na := 5) (pc := 135) X [.ref (ad oo1), .int 12, .int zz18, .int 0, .int 0] (c_L_call Γ.2.1 hI hst oo1 hh1 12 zz18 0 0 σ19) (wG_S wm_5_23 wm_5_21 wm_5_22 wm_5_14) rfl rfl rfl (by decide +kernel) ⟨Nat.le_of_ble_eq_true rfl, Nat.le_of_ble_eq_true rfl⟩ rfl rfl (Nat.le_of_ble_eq_true rfl) ⟨(show _ ≤ 54 by omega), (show _ ≤ 324 by omega)⟩ dL_there_135 (fun zz33 σ32 => ?_)
        refine xr_aload_n (pc := 138) X (i := 1) 1 rfl rfl dL_there_138 ?_
        refine xr_bipush (pc := 139) X dL_there_139 (v := 12) (by decide) ?_
        refine xr_iload (pc := 141) X (i := 9) 7 rfl dL_there_141 ?_
        refine xr_iconst (pc := 143) X dL_there_143 (v := 0) (by decide) ?_
        refine xr_iconst (pc := 144) X dL_there_144 (v := 0) (by decide) ?_
        refine xr_callSI (na := 5) (pc := 145) X [.ref (ad oo2), .int 12, .int zz18, .int 0, .int 0] (c_L_call Γ.2.1 hI hst oo2 hh2 12 zz18 0 0 σ32) (wG_S wm_5_23 wm_5_21 wm_5_22 wm_5_14) rfl rfl rfl (by decide +kernel) ⟨Nat.le_of_ble_eq_true rfl, Nat.le_of_ble_eq_true rfl⟩ rfl rfl (Nat.le_of_ble_eq_true rfl) ⟨(show _ ≤ 54 by omega), (show _ ≤ 324 by omega)⟩ dL_there_145 (fun zz35 σ34 => ?_)
        refine xr_icmp_ne (pc := 148) X 194 (by decide) dL_there_148 (fun _ => ?_) (fun _ => ?_)
        · exact x_sub [0, 1, 2, 3, 4, 6, 7] rfl (x_wid (by omega) (by omega) (hKK31  _))
        refine xr_aload_n (pc := 151) X (i := 0) 0 rfl rfl dL_there_151 ?_
        refine xr_iconst (pc := 152) X dL_there_152 (v := 4) (by decide) ?_
        refine xr_iload_n (pc := 153) X (i := 3) 2 rfl rfl dL_there_153 ?_
        refine xr_iconst (pc := 154) X dL_there_154 (v := 0) (by decide) ?_
        refine xr_iconst (pc := 155) X dL_there_155 (v := 0) (by decide) ?_
        refine xr_callSI (na := 5) (pc := 156) X [.ref (ad oo1), .int 4, .int zz4, .int 0, .int 0] (c_L_call Γ.2.1 hI hst oo1 hh1 4 zz4 0 0 σ34) (wG_S wm_5_23 wm_5_21 wm_5_22 wm_5_14) rfl rfl rfl (by decide +kernel) ⟨Nat.le_of_ble_eq_true rfl, Nat.le_of_ble_eq_true rfl⟩ rfl rfl (Nat.le_of_ble_eq_true rfl) ⟨(show _ ≤ 54 by omega), (show _ ≤ 324 by omega)⟩ dL_there_156 (fun zz37 σ36 => ?_)
        refine xr_iload (pc := 159) X (i := 8) 6 rfl dL_there_159 ?_
        refine x_jn (fun (KK40 : Int32 → xS → Option (Int32 × xS)) => ∀ zz38 σ39, xM Γ D ad N Sh (xQI Γ D ad N Sh 54 324) 24 144 (KK40 zz38 σ39) σ39 169 [(0, .ref (ad oo1)), (1, .ref (ad oo2)), (3, .int zz4), (4, .int zz5), (5, .int zz7), (8, .int zz17), (9, .int zz18)] [.int zz38]) (fun zz38 σ39 => ?_) (fun KK40 hKK41 => ?_)
        · refine xr_iload (pc := 169) X (i := 5) 4 rfl dL_there_169 ?_
          refine xr_iconst (pc := 171) X dL_there_171 (v := (-1)) (by decide) ?_
          refine x_jn (fun (KK44 : Int32 → xS → Option (Int32 × xS)) => ∀ zz42 σ43, xM Γ D ad N Sh (xQI Γ D ad N Sh 54 324) 24 144 (KK44 zz42 σ43) σ43 187 [(0, .ref (ad oo1)), (1, .ref (ad oo2)), (3, .int zz4), (4, .int zz5), (5, .int zz7), (8, .int zz17), (9, .int zz18)] [.int zz42, .int zz38]) (fun zz42 σ43 => ?_) (fun KK44 hKK45 => ?_)
          · refine xr_icmp_ne (pc := 187) X 194 (by decide) dL_there_187 (fun _ => ?_) (fun _ => ?_)
            · exact x_wid (by omega) (by omega) (hKK31  _)
            refine xr_iconst (pc := 190) X dL_there_190 (v := 1) (by decide) ?_
            refine xr_goto (pc := 191) X 195 (by decide) dL_there_191 ?_
            exact x_wid (by omega) (by omega) (hKK28 _ _)
          refine x_jn (fun (KK47 : xS → Option (Int32 × xS)) => ∀ σ46, xM Γ D ad N Sh (xQI Γ D ad N Sh 54 324) 24 144 (KK47 σ46) σ46 186 [(0, .ref (ad oo1)), (1, .ref (ad oo2)), (3, .int zz4), (4, .int zz5), (5, .int zz7), (8, .int zz17), (9, .int zz18)] [.int zz38]) (fun σ46 => ?_) (fun KK47 hKK48 => ?_)
          · refine xr_iconst (pc := 186) X dL_there_186 (v := 0) (by decide) ?_
            exact x_wid (by omega) (by omega) (hKK45 _ _)
          refine xr_icmp_eq (pc := 172) X 186 (by decide) dL_there_172 (fun _ => ?_) (fun _ => ?_)
          · exact x_wid (by omega) (by omega) (hKK48  _)
          refine xr_iload (pc := 175) X (i := 5) 4 rfl dL_there_175 ?_
          refine xr_iload (pc := 177) X (i := 9) 6 rfl dL_there_177 ?_
          refine xr_icmp_gt (pc := 179) X 186 (by decide) dL_there_179 (fun _ => ?_) (fun _ => ?_)
          · exact x_wid (by omega) (by omega) (hKK48  _)
          refine xr_iconst (pc := 182) X dL_there_182 (v := 1) (by decide) ?_
          refine xr_goto (pc := 183) X 187 (by decide) dL_there_183 ?_
          exact x_wid (by omega) (by omega) (hKK45 _ _)
        refine xr_icmp_lt (pc := 161) X 168 (by decide) dL_there_161 (fun _ => ?_) (fun _ => ?_)
        · refine xr_iconst (pc := 168) X dL_there_168 (v := 0) (by decide) ?_
          exact x_sub [0, 1, 2, 3, 4, 6, 7] rfl (x_wid (by omega) (by omega) (hKK41 _ _))
        refine xr_iconst (pc := 164) X dL_there_164 (v := 1) (by decide) ?_
        refine xr_goto (pc := 165) X 169 (by decide) dL_there_165 ?_
        exact x_sub [0, 1, 2, 3, 4, 6, 7] rfl (x_wid (by omega) (by omega) (hKK41 _ _))
      refine x_jn (fun (KK23 : xS → Option (Int32 × xS)) => ∀ σ22, xM Γ D ad N Sh (xQI Γ D ad N Sh 54 324) 15 90 (KK23 σ22) σ22 119 [(0, .ref (ad oo1)), (1, .ref (ad oo2)), (3, .int zz4), (4, .int zz5), (5, .int zz7), (7, .int zz12), (8, .int zz17)] []) (fun σ22 => ?_) (fun KK23 hKK24 => ?_)
      · refine xr_bipush (pc := 119) X dL_there_119 (v := 99) (by decide) ?_
        exact x_wid (by omega) (by omega) (hKK21 _ _)
      refine xr_icmp_eq (pc := 104) X 119 (by decide) dL_there_104 (fun _ => ?_) (fun _ => ?_)
      · exact x_wid (by omega) (by omega) (hKK24  _)
      refine xr_iload (pc := 107) X (i := 5) 4 rfl dL_there_107 ?_
      refine xr_bipush (pc := 109) X dL_there_109 (v := 100) (by decide) ?_
      refine xr_icmp_ge (pc := 111) X 119 (by decide) dL_there_111 (fun _ => ?_) (fun _ => ?_)
      · exact x_wid (by omega) (by omega) (hKK24  _)
      refine xr_iload (pc := 114) X (i := 5) 4 rfl dL_there_114 ?_
      refine xr_goto (pc := 116) X 121 (by decide) dL_there_116 ?_
      exact x_wid (by omega) (by omega) (hKK21 _ _)
    refine xr_iload (pc := 74) X (i := 7) 6 rfl dL_there_74 ?_
    refine xr_if_eq (pc := 76) X 89 (by decide) dL_there_76 (fun _ => ?_) (fun _ => ?_)
    · refine xr_iconst (pc := 89) X dL_there_89 (v := 0) (by decide) ?_
      exact xr_zret (pc := 90) X rfl (Nat.le_of_ble_eq_true rfl) (Nat.le_of_ble_eq_true rfl) dL_there_90
    refine xr_iload (pc := 79) X (i := 5) 4 rfl dL_there_79 ?_
    refine xr_iconst (pc := 81) X dL_there_81 (v := (-1)) (by decide) ?_
    refine xr_icmp_ne (pc := 82) X 89 (by decide) dL_there_82 (fun _ => ?_) (fun _ => ?_)
    · refine xr_iconst (pc := 89) X dL_there_89 (v := 0) (by decide) ?_
      exact xr_zret (pc := 90) X rfl (Nat.le_of_ble_eq_true rfl) (Nat.le_of_ble_eq_true rfl) dL_there_90
    refine xr_iconst (pc := 85) X dL_there_85 (v := 1) (by decide) ?_
    refine xr_goto (pc := 86) X 90 (by decide) dL_there_86 ?_
    exact xr_zret (pc := 90) X rfl (Nat.le_of_ble_eq_true rfl) (Nat.le_of_ble_eq_true rfl) dL_there_90
  refine xr_icmp_ne (pc := 57) X 64 (by decide) dL_there_57 (fun _ => ?_) (fun _ => ?_)
  · refine xr_iconst (pc := 64) X dL_there_64 (v := 0) (by decide) ?_
    exact x_wid (by omega) (by omega) (hKK15 _ _)
  refine xr_iconst (pc := 60) X dL_there_60 (v := 1) (by decide) ?_
  refine xr_goto (pc := 61) X 65 (by decide) dL_there_61 ?_
  exact x_wid (by omega) (by omega) (hKK15 _ _)
