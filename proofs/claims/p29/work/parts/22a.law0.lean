def F_L_holds (oo1 : Nat) (pp2 : Int32) (pp3 : Int32) (σ : xS) : Option (Int32 × xS) :=
  xbH (F_X5_hold oo1 pp2 pp3 σ) (fun (zz2 : Int32) (σ1 : xS) => some (zz2, σ1))
 (fun (ee5 : Nat) (σ3 : xS) => (if ee5 = 1 then (some ((-9999001 : Int32), σ3)) else none))
abbrev rm_L_holds : Room := { frames := 9, cells := 1, slots := 6, locals := 171 }
set_option maxHeartbeats 4000000 in
set_option maxRecDepth 100000 in
theorem c_L_holds (l : Launch) {D : va_G} {ad : Nat → Nat} {N : Nat} {Sh : xSh} (hI : ∀ i j, i < N → j < N → ad i = ad j → i = j) (hst : l.stackTraces = false) (oo1 : Nat) (hh1 : xIs5 D ad N Sh oo1) (pp2 : Int32) (pp3 : Int32) (σ : xS) : xKI l yL_holds (Cond.codeWith yL_holds cL_holds 4 (some .int) [(0, 6, 7, 13)] :: wG) rm_L_holds 1 6 D ad N Sh [.ref (ad oo1), .int pp2, .int pp3] σ (F_L_holds oo1 pp2 pp3 σ) := by
  refine x_startH (own := RL) (maxL := 4) (by decide) rfl rfl rfl (Nat.le_of_ble_eq_true rfl) rfl hI (fun Γ hl hnL hXT X => ?_)
  subst hl
  unfold F_L_holds
  refine xr_aload_n (pc := 0) X (i := 0) 0 rfl rfl dL_holds_0 ?_
  refine xr_iload_n (pc := 1) X (i := 1) 1 rfl rfl dL_holds_1 ?_
  refine xr_iload_n (pc := 2) X (i := 2) 2 rfl rfl dL_holds_2 ?_
  refine xr_callHVI (na := 2) (pc := 3) X (oo1) [.int pp2, .int pp3] _ (c_X5_hold Γ.2.1 hI hst oo1 hh1 pp2 pp3 σ) (wG_V wm_22_2 wm_21_23 wm_22_0 wm_22_1 wm_1_2) rfl rfl rfl (by decide +kernel) ⟨Nat.le_of_ble_eq_true rfl, Nat.le_of_ble_eq_true rfl⟩ hh1.1.1 hh1.1.2 rfl (T := TX5) (C := RX5) rfl rfl rfl (Nat.le_of_ble_eq_true rfl) ⟨Nat.le_of_ble_eq_true rfl, Nat.le_of_ble_eq_true rfl⟩ dL_holds_3 (fun zz2 σ1 => ?_) (fun ee5 σ3 qq4 => ?_)
  · exact xr_iret (pc := 6) X (Nat.le_of_ble_eq_true rfl) (Nat.le_of_ble_eq_true rfl) dL_holds_6
  refine xKX_if (fun hee6 => ?_) (fun hee6 => ?_)
  · subst hee6
    refine xKX_hat (hp := 7) (x_hat (E := "java/lang/IndexOutOfBoundsException") (name := "java/lang/IndexOutOfBoundsException") X hXT [] ⟨0, 6, 7, 13⟩ [] rfl (fun z hz => absurd hz List.not_mem_nil) (by decide) (by decide) wm_14_6 29 rfl rfl) ?_
    refine x_sub [] rfl ?_
    refine xr_astore_n (pc := 7) X (hf := rfl) (i := 3) (lv2 := [(3, .ref qq4)]) [0] (Nat.le_of_ble_eq_true rfl) hnL rfl dL_holds_7 ?_
    refine xr_ldc (pc := 8) X dL_holds_8 (List.mem_cons_of_mem _ wm_14_7) ?_
    exact xr_iret (pc := 10) X (Nat.le_of_ble_eq_true rfl) (Nat.le_of_ble_eq_true rfl) dL_holds_10
  exact xKX_none
def F_L_doScript (oo1 : Nat) (pp2 : Int32) (pp3 : Int64) (σ : xS) : Option (Int32 × xS) :=
  xbH (F_X5_runScript oo1 pp2 pp3 σ) (fun (zz2 : Int32) (σ1 : xS) => some (zz2, σ1))
 (fun (ee5 : Nat) (σ3 : xS) => (if ee5 = 2 then (some ((-9999002 : Int32), σ3)) else none))
abbrev rm_L_doScript : Room := { frames := 9, cells := 2, slots := 12, locals := 178 }
set_option maxHeartbeats 4000000 in
set_option maxRecDepth 100000 in
theorem c_L_doScript (l : Launch) {D : va_G} {ad : Nat → Nat} {N : Nat} {Sh : xSh} (hI : ∀ i j, i < N → j < N → ad i = ad j → i = j) (hst : l.stackTraces = false) (oo1 : Nat) (hh1 : xIs5 D ad N Sh oo1) (pp2 : Int32) (pp3 : Int64) (σ : xS) : xKI l yL_doScript (Cond.codeWith yL_doScript cL_doScript 5 (some .int) [(0, 6, 7, 20)] :: wG) rm_L_doScript 2 12 D ad N Sh [.ref (ad oo1), .int pp2, .long pp3] σ (F_L_doScript oo1 pp2 pp3 σ) := by
  refine x_startH (own := RL) (maxL := 5) (by decide) rfl rfl rfl (Nat.le_of_ble_eq_true rfl) rfl hI (fun Γ hl hnL hXT X => ?_)
  subst hl
  unfold F_L_doScript
  refine xr_aload_n (pc := 0) X (i := 0) 0 rfl rfl dL_doScript_0 ?_
  refine xr_iload_n (pc := 1) X (i := 1) 1 rfl rfl dL_doScript_1 ?_
  refine xr_lload_n (pc := 2) X (i := 2) 2 rfl rfl dL_doScript_2 ?_
  refine xr_callHVI (na := 2) (pc := 3) X (oo1) [.int pp2, .long pp3] _ (c_X5_runScript Γ.2.1 hI hst oo1 hh1 pp2 pp3 σ) (wG_V wm_22_13 wm_22_10 wm_22_11 wm_22_12 wm_1_2) rfl rfl rfl (by decide +kernel) ⟨Nat.le_of_ble_eq_true rfl, Nat.le_of_ble_eq_true rfl⟩ hh1.1.1 hh1.1.2 rfl (T := TX5) (C := RX5) rfl rfl rfl (Nat.le_of_ble_eq_true rfl) ⟨Nat.le_of_ble_eq_true rfl, Nat.le_of_ble_eq_true rfl⟩ dL_doScript_3 (fun zz2 σ1 => ?_) (fun ee5 σ3 qq4 => ?_)
  · exact xr_iret (pc := 6) X (Nat.le_of_ble_eq_true rfl) (Nat.le_of_ble_eq_true rfl) dL_doScript_6
  refine xKX_if (fun hee6 => ?_) (fun hee6 => ?_)
  · subst hee6
    refine xKX_hat (hp := 7) (x_hat (E := "java/lang/IllegalArgumentException") (name := "java/lang/IllegalArgumentException") X hXT [] ⟨0, 6, 7, 20⟩ [] rfl (fun z hz => absurd hz List.not_mem_nil) (by decide) (by decide) wm_6_3 30 rfl rfl) ?_
    refine x_sub [] rfl ?_
    refine xr_astore (pc := 7) X (i := 4) (lv2 := [(4, .ref qq4)]) [0] (Nat.le_of_ble_eq_true rfl) hnL rfl dL_doScript_7 ?_
    refine xr_ldc (pc := 9) X dL_doScript_9 (List.mem_cons_of_mem _ wm_6_5) ?_
    exact xr_iret (pc := 11) X (Nat.le_of_ble_eq_true rfl) (Nat.le_of_ble_eq_true rfl) dL_doScript_11
  exact xKX_none
def F_L_doSimulate (oo1 : Nat) (pp2 : Int64) (pp3 : Int32) (σ : xS) : Option (Int32 × xS) :=
  xbH (F_X5_simulate oo1 pp2 pp3 σ) (fun (zz2 : Int32) (σ1 : xS) => some (zz2, σ1))
 (fun (ee5 : Nat) (σ3 : xS) => (if ee5 = 2 then (some ((-9999002 : Int32), σ3)) else none))
abbrev rm_L_doSimulate : Room := { frames := 9, cells := 1, slots := 6, locals := 175 }
set_option maxHeartbeats 4000000 in
set_option maxRecDepth 100000 in
theorem c_L_doSimulate (l : Launch) {D : va_G} {ad : Nat → Nat} {N : Nat} {Sh : xSh} (hI : ∀ i j, i < N → j < N → ad i = ad j → i = j) (hst : l.stackTraces = false) (oo1 : Nat) (hh1 : xIs5 D ad N Sh oo1) (pp2 : Int64) (pp3 : Int32) (σ : xS) : xKI l yL_doSimulate (Cond.codeWith yL_doSimulate cL_doSimulate 5 (some .int) [(0, 6, 7, 20)] :: wG) rm_L_doSimulate 1 6 D ad N Sh [.ref (ad oo1), .long pp2, .int pp3] σ (F_L_doSimulate oo1 pp2 pp3 σ) := by
  refine x_startH (own := RL) (maxL := 5) (by decide) rfl rfl rfl (Nat.le_of_ble_eq_true rfl) rfl hI (fun Γ hl hnL hXT X => ?_)
  subst hl
  unfold F_L_doSimulate
  refine xr_aload_n (pc := 0) X (i := 0) 0 rfl rfl dL_doSimulate_0 ?_
  refine xr_lload_n (pc := 1) X (i := 1) 1 rfl rfl dL_doSimulate_1 ?_
  refine xr_iload_n (pc := 2) X (i := 3) 2 rfl rfl dL_doSimulate_2 ?_
  refine xr_callHVI (na := 2) (pc := 3) X (oo1) [.long pp2, .int pp3] _ (c_X5_simulate Γ.2.1 hI hst oo1 hh1 pp2 pp3 σ) (wG_V wm_23_2 wm_22_23 wm_23_0 wm_23_1 wm_1_2) rfl rfl rfl (by decide +kernel) ⟨Nat.le_of_ble_eq_true rfl, Nat.le_of_ble_eq_true rfl⟩ hh1.1.1 hh1.1.2 rfl (T := TX5) (C := RX5) rfl rfl rfl (Nat.le_of_ble_eq_true rfl) ⟨Nat.le_of_ble_eq_true rfl, Nat.le_of_ble_eq_true rfl⟩ dL_doSimulate_3 (fun zz2 σ1 => ?_) (fun ee5 σ3 qq4 => ?_)
  · exact xr_iret (pc := 6) X (Nat.le_of_ble_eq_true rfl) (Nat.le_of_ble_eq_true rfl) dL_doSimulate_6
  refine xKX_if (fun hee6 => ?_) (fun hee6 => ?_)
  · subst hee6
    refine xKX_hat (hp := 7) (x_hat (E := "java/lang/IllegalArgumentException") (name := "java/lang/IllegalArgumentException") X hXT [] ⟨0, 6, 7, 20⟩ [] rfl (fun z hz => absurd hz List.not_mem_nil) (by decide) (by decide) wm_6_3 30 rfl rfl) ?_
    refine x_sub [] rfl ?_
    refine xr_astore (pc := 7) X (i := 4) (lv2 := [(4, .ref qq4)]) [0] (Nat.le_of_ble_eq_true rfl) hnL rfl dL_doSimulate_7 ?_
    refine xr_ldc (pc := 9) X dL_doSimulate_9 (List.mem_cons_of_mem _ wm_6_5) ?_
    exact xr_iret (pc := 11) X (Nat.le_of_ble_eq_true rfl) (Nat.le_of_ble_eq_true rfl) dL_doSimulate_11
  exact xKX_none
def F_L_tryAppend (oo1 : Nat) (pp2 : Int32) (σ : xS) : Option (Int32 × xS) :=
  xbH (F_X5_append oo1 pp2 σ) (fun (zz2 : Int32) (σ1 : xS) => some (zz2, σ1))
 (fun (ee5 : Nat) (σ3 : xS) => (if ee5 = 2 then (some ((-9999002 : Int32), σ3)) else (if ee5 = 3 then (some ((-9999003 : Int32), σ3)) else none)))
abbrev rm_L_tryAppend : Room := { frames := 9, cells := 2, slots := 12, locals := 143 }
set_option maxHeartbeats 4000000 in
set_option maxRecDepth 100000 in
theorem c_L_tryAppend (l : Launch) {D : va_G} {ad : Nat → Nat} {N : Nat} {Sh : xSh} (hI : ∀ i j, i < N → j < N → ad i = ad j → i = j) (hst : l.stackTraces = false) (oo1 : Nat) (hh1 : xIs5 D ad N Sh oo1) (pp2 : Int32) (σ : xS) : xKI l yL_tryAppend (Cond.codeWith yL_tryAppend cL_tryAppend 3 (some .int) [(0, 5, 6, 20), (0, 5, 10, 31)] :: wG) rm_L_tryAppend 2 12 D ad N Sh [.ref (ad oo1), .int pp2] σ (F_L_tryAppend oo1 pp2 σ) := by
  refine x_startH (own := RL) (maxL := 3) (by decide) rfl rfl rfl (Nat.le_of_ble_eq_true rfl) rfl hI (fun Γ hl hnL hXT X => ?_)
  subst hl
  unfold F_L_tryAppend
  refine xr_aload_n (pc := 0) X (i := 0) 0 rfl rfl dL_tryAppend_0 ?_
  refine xr_iload_n (pc := 1) X (i := 1) 1 rfl rfl dL_tryAppend_1 ?_
  refine xr_callHVI (na := 1) (pc := 2) X (oo1) [.int pp2] _ (c_X5_append Γ.2.1 hI hst oo1 hh1 pp2 σ) (wG_V wm_6_10 wm_6_7 wm_6_8 wm_6_9 wm_1_2) rfl rfl rfl (by decide +kernel) ⟨Nat.le_of_ble_eq_true rfl, Nat.le_of_ble_eq_true rfl⟩ hh1.1.1 hh1.1.2 rfl (T := TX5) (C := RX5) rfl rfl rfl (Nat.le_of_ble_eq_true rfl) ⟨Nat.le_of_ble_eq_true rfl, Nat.le_of_ble_eq_true rfl⟩ dL_tryAppend_2 (fun zz2 σ1 => ?_) (fun ee5 σ3 qq4 => ?_)
  · exact xr_iret (pc := 5) X (Nat.le_of_ble_eq_true rfl) (Nat.le_of_ble_eq_true rfl) dL_tryAppend_5
  refine xKX_if (fun hee6 => ?_) (fun hee6 => ?_)
  · subst hee6
    refine xKX_hat (hp := 6) (x_hat (E := "java/lang/IllegalArgumentException") (name := "java/lang/IllegalArgumentException") X hXT [] ⟨0, 5, 6, 20⟩ [⟨0, 5, 10, 31⟩] rfl (fun z hz => absurd hz List.not_mem_nil) (by decide) (by decide) wm_6_3 30 rfl rfl) ?_
    refine x_sub [] rfl ?_
    refine xr_astore_n (pc := 6) X (hf := rfl) (i := 2) (lv2 := [(2, .ref qq4)]) [0] (Nat.le_of_ble_eq_true rfl) hnL rfl dL_tryAppend_6 ?_
    refine xr_ldc (pc := 7) X dL_tryAppend_7 (List.mem_cons_of_mem _ wm_6_5) ?_
    exact xr_iret (pc := 9) X (Nat.le_of_ble_eq_true rfl) (Nat.le_of_ble_eq_true rfl) dL_tryAppend_9
  refine xKX_if (fun hee7 => ?_) (fun hee7 => ?_)
  · subst hee7
    refine xKX_hat (hp := 10) (x_hat (E := "java/lang/IllegalStateException") (name := "java/lang/IllegalStateException") X hXT [⟨0, 5, 6, 20⟩] ⟨0, 5, 10, 31⟩ [] rfl (fun z hz => by rw [List.mem_singleton.mp hz]; exact ⟨by decide, _, wm_6_3, (xNC_of X).2.2.2.2.2⟩) (by decide) (by decide) wm_6_4 31 rfl rfl) ?_
    refine x_sub [] rfl ?_
    refine xr_astore_n (pc := 10) X (hf := rfl) (i := 2) (lv2 := [(2, .ref qq4)]) [0] (Nat.le_of_ble_eq_true rfl) hnL rfl dL_tryAppend_10 ?_
    refine xr_ldc (pc := 11) X dL_tryAppend_11 (List.mem_cons_of_mem _ wm_6_6) ?_
    exact xr_iret (pc := 13) X (Nat.le_of_ble_eq_true rfl) (Nat.le_of_ble_eq_true rfl) dL_tryAppend_13
  exact xKX_none
def F_L_tryLoad (oo1 : Nat) (σ : xS) : Option (Int32 × xS) :=
  xbH (F_X5_load oo1 σ) (fun (zz2 : Int32) (σ1 : xS) => some (zz2, σ1))
 (fun (ee5 : Nat) (σ3 : xS) => (if ee5 = 3 then (some ((-9999003 : Int32), σ3)) else none))
abbrev rm_L_tryLoad : Room := { frames := 9, cells := 1, slots := 6, locals := 147 }
set_option maxHeartbeats 4000000 in
set_option maxRecDepth 100000 in
theorem c_L_tryLoad (l : Launch) {D : va_G} {ad : Nat → Nat} {N : Nat} {Sh : xSh} (hI : ∀ i j, i < N → j < N → ad i = ad j → i = j) (hst : l.stackTraces = false) (oo1 : Nat) (hh1 : xIs5 D ad N Sh oo1) (σ : xS) : xKI l yL_tryLoad (Cond.codeWith yL_tryLoad cL_tryLoad 2 (some .int) [(0, 4, 5, 31)] :: wG) rm_L_tryLoad 1 6 D ad N Sh [.ref (ad oo1)] σ (F_L_tryLoad oo1 σ) := by
  refine x_startH (own := RL) (maxL := 2) (by decide) rfl rfl rfl (Nat.le_of_ble_eq_true rfl) rfl hI (fun Γ hl hnL hXT X => ?_)
  subst hl
  unfold F_L_tryLoad
  refine xr_aload_n (pc := 0) X (i := 0) 0 rfl rfl dL_tryLoad_0 ?_
  refine xr_callHVI (na := 0) (pc := 1) X (oo1) [] _ (c_X5_load Γ.2.1 hI hst oo1 hh1 σ) (wG_V wm_7_12 wm_7_9 wm_7_10 wm_7_11 wm_1_2) rfl rfl rfl (by decide +kernel) ⟨Nat.le_of_ble_eq_true rfl, Nat.le_of_ble_eq_true rfl⟩ hh1.1.1 hh1.1.2 rfl (T := TX5) (C := RX5) rfl rfl rfl (Nat.le_of_ble_eq_true rfl) ⟨Nat.le_of_ble_eq_true rfl, Nat.le_of_ble_eq_true rfl⟩ dL_tryLoad_1 (fun zz2 σ1 => ?_) (fun ee5 σ3 qq4 => ?_)
  · exact xr_iret (pc := 4) X (Nat.le_of_ble_eq_true rfl) (Nat.le_of_ble_eq_true rfl) dL_tryLoad_4
  refine xKX_if (fun hee6 => ?_) (fun hee6 => ?_)
  · subst hee6
    refine xKX_hat (hp := 5) (x_hat (E := "java/lang/IllegalStateException") (name := "java/lang/IllegalStateException") X hXT [] ⟨0, 4, 5, 31⟩ [] rfl (fun z hz => absurd hz List.not_mem_nil) (by decide) (by decide) wm_6_4 31 rfl rfl) ?_
    refine x_sub [] rfl ?_
    refine xr_astore_n (pc := 5) X (hf := rfl) (i := 1) (lv2 := [(1, .ref qq4)]) [0] (Nat.le_of_ble_eq_true rfl) hnL rfl dL_tryLoad_5 ?_
    refine xr_ldc (pc := 6) X dL_tryLoad_6 (List.mem_cons_of_mem _ wm_6_6) ?_
    exact xr_iret (pc := 8) X (Nat.le_of_ble_eq_true rfl) (Nat.le_of_ble_eq_true rfl) dL_tryLoad_8
  exact xKX_none
def F_L_tryAbout (oo1 : Nat) (pp2 : Int32) (σ : xS) : Option (Int32 × xS) :=
  xbH (F_X5_about oo1 pp2 σ) (fun (zz2 : Int32) (σ1 : xS) => some (zz2, σ1))
 (fun (ee5 : Nat) (σ3 : xS) => (if ee5 = 2 then (some ((-9999002 : Int32), σ3)) else none))
abbrev rm_L_tryAbout : Room := { frames := 9, cells := 1, slots := 6, locals := 143 }
set_option maxHeartbeats 4000000 in
set_option maxRecDepth 100000 in
theorem c_L_tryAbout (l : Launch) {D : va_G} {ad : Nat → Nat} {N : Nat} {Sh : xSh} (hI : ∀ i j, i < N → j < N → ad i = ad j → i = j) (hst : l.stackTraces = false) (oo1 : Nat) (hh1 : xIs5 D ad N Sh oo1) (pp2 : Int32) (σ : xS) : xKI l yL_tryAbout (Cond.codeWith yL_tryAbout cL_tryAbout 3 (some .int) [(0, 5, 6, 20)] :: wG) rm_L_tryAbout 1 6 D ad N Sh [.ref (ad oo1), .int pp2] σ (F_L_tryAbout oo1 pp2 σ) := by
  refine x_startH (own := RL) (maxL := 3) (by decide) rfl rfl rfl (Nat.le_of_ble_eq_true rfl) rfl hI (fun Γ hl hnL hXT X => ?_)
  subst hl
  unfold F_L_tryAbout
  refine xr_aload_n (pc := 0) X (i := 0) 0 rfl rfl dL_tryAbout_0 ?_
  refine xr_iload_n (pc := 1) X (i := 1) 1 rfl rfl dL_tryAbout_1 ?_
  refine xr_callHVI (na := 1) (pc := 2) X (oo1) [.int pp2] _ (c_X5_about Γ.2.1 hI hst oo1 hh1 pp2 σ) (wG_V wm_13_10 wm_13_7 wm_13_8 wm_13_9 wm_1_2) rfl rfl rfl (by decide +kernel) ⟨Nat.le_of_ble_eq_true rfl, Nat.le_of_ble_eq_true rfl⟩ hh1.1.1 hh1.1.2 rfl (T := TX5) (C := RX5) rfl rfl rfl (Nat.le_of_ble_eq_true rfl) ⟨Nat.le_of_ble_eq_true rfl, Nat.le_of_ble_eq_true rfl⟩ dL_tryAbout_2 (fun zz2 σ1 => ?_) (fun ee5 σ3 qq4 => ?_)
  · exact xr_iret (pc := 5) X (Nat.le_of_ble_eq_true rfl) (Nat.le_of_ble_eq_true rfl) dL_tryAbout_5
  refine xKX_if (fun hee6 => ?_) (fun hee6 => ?_)
  · subst hee6
    refine xKX_hat (hp := 6) (x_hat (E := "java/lang/IllegalArgumentException") (name := "java/lang/IllegalArgumentException") X hXT [] ⟨0, 5, 6, 20⟩ [] rfl (fun z hz => absurd hz List.not_mem_nil) (by decide) (by decide) wm_6_3 30 rfl rfl) ?_
    refine x_sub [] rfl ?_
    refine xr_astore_n (pc := 6) X (hf := rfl) (i := 2) (lv2 := [(2, .ref qq4)]) [0] (Nat.le_of_ble_eq_true rfl) hnL rfl dL_tryAbout_6 ?_
    refine xr_ldc (pc := 7) X dL_tryAbout_7 (List.mem_cons_of_mem _ wm_6_5) ?_
    exact xr_iret (pc := 9) X (Nat.le_of_ble_eq_true rfl) (Nat.le_of_ble_eq_true rfl) dL_tryAbout_9
  exact xKX_none
def F_L_tryWriter (oo1 : Nat) (pp2 : Int32) (pp3 : Int32) (σ : xS) : Option (Int32 × xS) :=
  xbH (F_X5_writer oo1 pp2 pp3 σ) (fun (zz2 : Int32) (σ1 : xS) => some (zz2, σ1))
 (fun (ee5 : Nat) (σ3 : xS) => (if ee5 = 1 then (some ((-9999001 : Int32), σ3)) else (if ee5 = 2 then (some ((-9999002 : Int32), σ3)) else none)))
abbrev rm_L_tryWriter : Room := { frames := 9, cells := 2, slots := 12, locals := 144 }
set_option maxHeartbeats 4000000 in
set_option maxRecDepth 100000 in
theorem c_L_tryWriter (l : Launch) {D : va_G} {ad : Nat → Nat} {N : Nat} {Sh : xSh} (hI : ∀ i j, i < N → j < N → ad i = ad j → i = j) (hst : l.stackTraces = false) (oo1 : Nat) (hh1 : xIs5 D ad N Sh oo1) (pp2 : Int32) (pp3 : Int32) (σ : xS) : xKI l yL_tryWriter (Cond.codeWith yL_tryWriter cL_tryWriter 4 (some .int) [(0, 6, 7, 13), (0, 6, 11, 20)] :: wG) rm_L_tryWriter 2 12 D ad N Sh [.ref (ad oo1), .int pp2, .int pp3] σ (F_L_tryWriter oo1 pp2 pp3 σ) := by
  refine x_startH (own := RL) (maxL := 4) (by decide) rfl rfl rfl (Nat.le_of_ble_eq_true rfl) rfl hI (fun Γ hl hnL hXT X => ?_)
  subst hl
  unfold F_L_tryWriter
  refine xr_aload_n (pc := 0) X (i := 0) 0 rfl rfl dL_tryWriter_0 ?_
  refine xr_iload_n (pc := 1) X (i := 1) 1 rfl rfl dL_tryWriter_1 ?_
  refine xr_iload_n (pc := 2) X (i := 2) 2 rfl rfl dL_tryWriter_2 ?_
  refine xr_callHVI (na := 2) (pc := 3) X (oo1) [.int pp2, .int pp3] _ (c_X5_writer Γ.2.1 hI hst oo1 hh1 pp2 pp3 σ) (wG_V wm_14_11 wm_14_8 wm_14_9 wm_14_10 wm_1_2) rfl rfl rfl (by decide +kernel) ⟨Nat.le_of_ble_eq_true rfl, Nat.le_of_ble_eq_true rfl⟩ hh1.1.1 hh1.1.2 rfl (T := TX5) (C := RX5) rfl rfl rfl (Nat.le_of_ble_eq_true rfl) ⟨Nat.le_of_ble_eq_true rfl, Nat.le_of_ble_eq_true rfl⟩ dL_tryWriter_3 (fun zz2 σ1 => ?_) (fun ee5 σ3 qq4 => ?_)
  · exact xr_iret (pc := 6) X (Nat.le_of_ble_eq_true rfl) (Nat.le_of_ble_eq_true rfl) dL_tryWriter_6
  refine xKX_if (fun hee6 => ?_) (fun hee6 => ?_)
  · subst hee6
    refine xKX_hat (hp := 7) (x_hat (E := "java/lang/IndexOutOfBoundsException") (name := "java/lang/IndexOutOfBoundsException") X hXT [] ⟨0, 6, 7, 13⟩ [⟨0, 6, 11, 20⟩] rfl (fun z hz => absurd hz List.not_mem_nil) (by decide) (by decide) wm_14_6 29 rfl rfl) ?_
    refine x_sub [] rfl ?_
    refine xr_astore_n (pc := 7) X (hf := rfl) (i := 3) (lv2 := [(3, .ref qq4)]) [0] (Nat.le_of_ble_eq_true rfl) hnL rfl dL_tryWriter_7 ?_
    refine xr_ldc (pc := 8) X dL_tryWriter_8 (List.mem_cons_of_mem _ wm_14_7) ?_
    exact xr_iret (pc := 10) X (Nat.le_of_ble_eq_true rfl) (Nat.le_of_ble_eq_true rfl) dL_tryWriter_10
  refine xKX_if (fun hee7 => ?_) (fun hee7 => ?_)
  · subst hee7
    refine xKX_hat (hp := 11) (x_hat (E := "java/lang/IllegalArgumentException") (name := "java/lang/IllegalArgumentException") X hXT [⟨0, 6, 7, 13⟩] ⟨0, 6, 11, 20⟩ [] rfl (fun z hz => by rw [List.mem_singleton.mp hz]; exact ⟨by decide, _, wm_14_6, (xNC_of X).2.2.1⟩) (by decide) (by decide) wm_6_3 30 rfl rfl) ?_
    refine x_sub [] rfl ?_
    refine xr_astore_n (pc := 11) X (hf := rfl) (i := 3) (lv2 := [(3, .ref qq4)]) [0] (Nat.le_of_ble_eq_true rfl) hnL rfl dL_tryWriter_11 ?_
    refine xr_ldc (pc := 12) X dL_tryWriter_12 (List.mem_cons_of_mem _ wm_6_5) ?_
    exact xr_iret (pc := 14) X (Nat.le_of_ble_eq_true rfl) (Nat.le_of_ble_eq_true rfl) dL_tryWriter_14
  exact xKX_none
def F_L_tryDesk (oo1 : Nat) (pp2 : Int32) (pp3 : Int32) (σ : xS) : Option (Int32 × xS) :=
  xbH (F_X5_desk oo1 pp2 pp3 σ) (fun (zz2 : Int32) (σ1 : xS) => some (zz2, σ1))
 (fun (ee5 : Nat) (σ3 : xS) => (if ee5 = 1 then (some ((-9999001 : Int32), σ3)) else (if ee5 = 2 then (some ((-9999002 : Int32), σ3)) else none)))
abbrev rm_L_tryDesk : Room := { frames := 9, cells := 2, slots := 12, locals := 144 }
set_option maxHeartbeats 4000000 in
set_option maxRecDepth 100000 in
theorem c_L_tryDesk (l : Launch) {D : va_G} {ad : Nat → Nat} {N : Nat} {Sh : xSh} (hI : ∀ i j, i < N → j < N → ad i = ad j → i = j) (hst : l.stackTraces = false) (oo1 : Nat) (hh1 : xIs5 D ad N Sh oo1) (pp2 : Int32) (pp3 : Int32) (σ : xS) : xKI l yL_tryDesk (Cond.codeWith yL_tryDesk cL_tryDesk 4 (some .int) [(0, 6, 7, 13), (0, 6, 11, 20)] :: wG) rm_L_tryDesk 2 12 D ad N Sh [.ref (ad oo1), .int pp2, .int pp3] σ (F_L_tryDesk oo1 pp2 pp3 σ) := by
  refine x_startH (own := RL) (maxL := 4) (by decide) rfl rfl rfl (Nat.le_of_ble_eq_true rfl) rfl hI (fun Γ hl hnL hXT X => ?_)
  subst hl
  unfold F_L_tryDesk
  refine xr_aload_n (pc := 0) X (i := 0) 0 rfl rfl dL_tryDesk_0 ?_
  refine xr_iload_n (pc := 1) X (i := 1) 1 rfl rfl dL_tryDesk_1 ?_
  refine xr_iload_n (pc := 2) X (i := 2) 2 rfl rfl dL_tryDesk_2 ?_
  refine xr_callHVI (na := 2) (pc := 3) X (oo1) [.int pp2, .int pp3] _ (c_X5_desk Γ.2.1 hI hst oo1 hh1 pp2 pp3 σ) (wG_V wm_14_20 wm_14_17 wm_14_18 wm_14_19 wm_1_2) rfl rfl rfl (by decide +kernel) ⟨Nat.le_of_ble_eq_true rfl, Nat.le_of_ble_eq_true rfl⟩ hh1.1.1 hh1.1.2 rfl (T := TX5) (C := RX5) rfl rfl rfl (Nat.le_of_ble_eq_true rfl) ⟨Nat.le_of_ble_eq_true rfl, Nat.le_of_ble_eq_true rfl⟩ dL_tryDesk_3 (fun zz2 σ1 => ?_) (fun ee5 σ3 qq4 => ?_)
  · exact xr_iret (pc := 6) X (Nat.le_of_ble_eq_true rfl) (Nat.le_of_ble_eq_true rfl) dL_tryDesk_6
  refine xKX_if (fun hee6 => ?_) (fun hee6 => ?_)
  · subst hee6
    refine xKX_hat (hp := 7) (x_hat (E := "java/lang/IndexOutOfBoundsException") (name := "java/lang/IndexOutOfBoundsException") X hXT [] ⟨0, 6, 7, 13⟩ [⟨0, 6, 11, 20⟩] rfl (fun z hz => absurd hz List.not_mem_nil) (by decide) (by decide) wm_14_6 29 rfl rfl) ?_
    refine x_sub [] rfl ?_
    refine xr_astore_n (pc := 7) X (hf := rfl) (i := 3) (lv2 := [(3, .ref qq4)]) [0] (Nat.le_of_ble_eq_true rfl) hnL rfl dL_tryDesk_7 ?_
    refine xr_ldc (pc := 8) X dL_tryDesk_8 (List.mem_cons_of_mem _ wm_14_7) ?_
    exact xr_iret (pc := 10) X (Nat.le_of_ble_eq_true rfl) (Nat.le_of_ble_eq_true rfl) dL_tryDesk_10
  refine xKX_if (fun hee7 => ?_) (fun hee7 => ?_)
  · subst hee7
    refine xKX_hat (hp := 11) (x_hat (E := "java/lang/IllegalArgumentException") (name := "java/lang/IllegalArgumentException") X hXT [⟨0, 6, 7, 13⟩] ⟨0, 6, 11, 20⟩ [] rfl (fun z hz => by rw [List.mem_singleton.mp hz]; exact ⟨by decide, _, wm_14_6, (xNC_of X).2.2.1⟩) (by decide) (by decide) wm_6_3 30 rfl rfl) ?_
    refine x_sub [] rfl ?_
    refine xr_astore_n (pc := 11) X (hf := rfl) (i := 3) (lv2 := [(3, .ref qq4)]) [0] (Nat.le_of_ble_eq_true rfl) hnL rfl dL_tryDesk_11 ?_
    refine xr_ldc (pc := 12) X dL_tryDesk_12 (List.mem_cons_of_mem _ wm_6_5) ?_
    exact xr_iret (pc := 14) X (Nat.le_of_ble_eq_true rfl) (Nat.le_of_ble_eq_true rfl) dL_tryDesk_14
  exact xKX_none
def F_L_tryLetter (oo1 : Nat) (pp2 : Int32) (pp3 : Int32) (pp4 : Int32) (σ : xS) : Option (Int32 × xS) :=
  xbH (F_X5_letter oo1 pp2 pp3 pp4 σ) (fun (zz2 : Int32) (σ1 : xS) => some (zz2, σ1))
 (fun (ee5 : Nat) (σ3 : xS) => (if ee5 = 1 then (some ((-9999001 : Int32), σ3)) else (if ee5 = 2 then (some ((-9999002 : Int32), σ3)) else none)))
abbrev rm_L_tryLetter : Room := { frames := 9, cells := 3, slots := 18, locals := 146 }
set_option maxHeartbeats 4000000 in
set_option maxRecDepth 100000 in
theorem c_L_tryLetter (l : Launch) {D : va_G} {ad : Nat → Nat} {N : Nat} {Sh : xSh} (hI : ∀ i j, i < N → j < N → ad i = ad j → i = j) (hst : l.stackTraces = false) (oo1 : Nat) (hh1 : xIs5 D ad N Sh oo1) (pp2 : Int32) (pp3 : Int32) (pp4 : Int32) (σ : xS) : xKI l yL_tryLetter (Cond.codeWith yL_tryLetter cL_tryLetter 5 (some .int) [(0, 7, 8, 13), (0, 7, 13, 20)] :: wG) rm_L_tryLetter 3 18 D ad N Sh [.ref (ad oo1), .int pp2, .int pp3, .int pp4] σ (F_L_tryLetter oo1 pp2 pp3 pp4 σ) := by
  refine x_startH (own := RL) (maxL := 5) (by decide) rfl rfl rfl (Nat.le_of_ble_eq_true rfl) rfl hI (fun Γ hl hnL hXT X => ?_)
  subst hl
  unfold F_L_tryLetter
  refine xr_aload_n (pc := 0) X (i := 0) 0 rfl rfl dL_tryLetter_0 ?_
  refine xr_iload_n (pc := 1) X (i := 1) 1 rfl rfl dL_tryLetter_1 ?_
  refine xr_iload_n (pc := 2) X (i := 2) 2 rfl rfl dL_tryLetter_2 ?_
  refine xr_iload_n (pc := 3) X (i := 3) 3 rfl rfl dL_tryLetter_3 ?_
  refine xr_callHVI (na := 3) (pc := 4) X (oo1) [.int pp2, .int pp3, .int pp4] _ (c_X5_letter Γ.2.1 hI hst oo1 hh1 pp2 pp3 pp4 σ) (wG_V wm_15_4 wm_15_1 wm_15_2 wm_15_3 wm_1_2) rfl rfl rfl (by decide +kernel) ⟨Nat.le_of_ble_eq_true rfl, Nat.le_of_ble_eq_true rfl⟩ hh1.1.1 hh1.1.2 rfl (T := TX5) (C := RX5) rfl rfl rfl (Nat.le_of_ble_eq_true rfl) ⟨Nat.le_of_ble_eq_true rfl, Nat.le_of_ble_eq_true rfl⟩ dL_tryLetter_4 (fun zz2 σ1 => ?_) (fun ee5 σ3 qq4 => ?_)
  · exact xr_iret (pc := 7) X (Nat.le_of_ble_eq_true rfl) (Nat.le_of_ble_eq_true rfl) dL_tryLetter_7
  refine xKX_if (fun hee6 => ?_) (fun hee6 => ?_)
  · subst hee6
    refine xKX_hat (hp := 8) (x_hat (E := "java/lang/IndexOutOfBoundsException") (name := "java/lang/IndexOutOfBoundsException") X hXT [] ⟨0, 7, 8, 13⟩ [⟨0, 7, 13, 20⟩] rfl (fun z hz => absurd hz List.not_mem_nil) (by decide) (by decide) wm_14_6 29 rfl rfl) ?_
    refine x_sub [] rfl ?_
    refine xr_astore (pc := 8) X (i := 4) (lv2 := [(4, .ref qq4)]) [0] (Nat.le_of_ble_eq_true rfl) hnL rfl dL_tryLetter_8 ?_
    refine xr_ldc (pc := 10) X dL_tryLetter_10 (List.mem_cons_of_mem _ wm_14_7) ?_
    exact xr_iret (pc := 12) X (Nat.le_of_ble_eq_true rfl) (Nat.le_of_ble_eq_true rfl) dL_tryLetter_12
  refine xKX_if (fun hee7 => ?_) (fun hee7 => ?_)
  · subst hee7
    refine xKX_hat (hp := 13) (x_hat (E := "java/lang/IllegalArgumentException") (name := "java/lang/IllegalArgumentException") X hXT [⟨0, 7, 8, 13⟩] ⟨0, 7, 13, 20⟩ [] rfl (fun z hz => by rw [List.mem_singleton.mp hz]; exact ⟨by decide, _, wm_14_6, (xNC_of X).2.2.1⟩) (by decide) (by decide) wm_6_3 30 rfl rfl) ?_
    refine x_sub [] rfl ?_
    refine xr_astore (pc := 13) X (i := 4) (lv2 := [(4, .ref qq4)]) [0] (Nat.le_of_ble_eq_true rfl) hnL rfl dL_tryLetter_13 ?_
    refine xr_ldc (pc := 15) X dL_tryLetter_15 (List.mem_cons_of_mem _ wm_6_5) ?_
    exact xr_iret (pc := 17) X (Nat.le_of_ble_eq_true rfl) (Nat.le_of_ble_eq_true rfl) dL_tryLetter_17
  exact xKX_none
def F_L_tryPlanned (oo1 : Nat) (pp2 : Int32) (pp3 : Int32) (σ : xS) : Option (Int32 × xS) :=
  xbH (F_X5_planned oo1 pp2 pp3 σ) (fun (zz2 : Int32) (σ1 : xS) => some (zz2, σ1))
 (fun (ee5 : Nat) (σ3 : xS) => (if ee5 = 1 then (some ((-9999001 : Int32), σ3)) else (if ee5 = 2 then (some ((-9999002 : Int32), σ3)) else none)))
abbrev rm_L_tryPlanned : Room := { frames := 9, cells := 2, slots := 12, locals := 145 }
set_option maxHeartbeats 4000000 in
set_option maxRecDepth 100000 in
theorem c_L_tryPlanned (l : Launch) {D : va_G} {ad : Nat → Nat} {N : Nat} {Sh : xSh} (hI : ∀ i j, i < N → j < N → ad i = ad j → i = j) (hst : l.stackTraces = false) (oo1 : Nat) (hh1 : xIs5 D ad N Sh oo1) (pp2 : Int32) (pp3 : Int32) (σ : xS) : xKI l yL_tryPlanned (Cond.codeWith yL_tryPlanned cL_tryPlanned 4 (some .int) [(0, 6, 7, 13), (0, 6, 11, 20)] :: wG) rm_L_tryPlanned 2 12 D ad N Sh [.ref (ad oo1), .int pp2, .int pp3] σ (F_L_tryPlanned oo1 pp2 pp3 σ) := by
  refine x_startH (own := RL) (maxL := 4) (by decide) rfl rfl rfl (Nat.le_of_ble_eq_true rfl) rfl hI (fun Γ hl hnL hXT X => ?_)
  subst hl
  unfold F_L_tryPlanned
  refine xr_aload_n (pc := 0) X (i := 0) 0 rfl rfl dL_tryPlanned_0 ?_
  refine xr_iload_n (pc := 1) X (i := 1) 1 rfl rfl dL_tryPlanned_1 ?_
  refine xr_iload_n (pc := 2) X (i := 2) 2 rfl rfl dL_tryPlanned_2 ?_
  refine xr_callHVI (na := 2) (pc := 3) X (oo1) [.int pp2, .int pp3] _ (c_X5_planned Γ.2.1 hI hst oo1 hh1 pp2 pp3 σ) (wG_V wm_15_13 wm_15_10 wm_15_11 wm_15_12 wm_1_2) rfl rfl rfl (by decide +kernel) ⟨Nat.le_of_ble_eq_true rfl, Nat.le_of_ble_eq_true rfl⟩ hh1.1.1 hh1.1.2 rfl (T := TX5) (C := RX5) rfl rfl rfl (Nat.le_of_ble_eq_true rfl) ⟨Nat.le_of_ble_eq_true rfl, Nat.le_of_ble_eq_true rfl⟩ dL_tryPlanned_3 (fun zz2 σ1 => ?_) (fun ee5 σ3 qq4 => ?_)
  · exact xr_iret (pc := 6) X (Nat.le_of_ble_eq_true rfl) (Nat.le_of_ble_eq_true rfl) dL_tryPlanned_6
  refine xKX_if (fun hee6 => ?_) (fun hee6 => ?_)
  · subst hee6
    refine xKX_hat (hp := 7) (x_hat (E := "java/lang/IndexOutOfBoundsException") (name := "java/lang/IndexOutOfBoundsException") X hXT [] ⟨0, 6, 7, 13⟩ [⟨0, 6, 11, 20⟩] rfl (fun z hz => absurd hz List.not_mem_nil) (by decide) (by decide) wm_14_6 29 rfl rfl) ?_
    refine x_sub [] rfl ?_
    refine xr_astore_n (pc := 7) X (hf := rfl) (i := 3) (lv2 := [(3, .ref qq4)]) [0] (Nat.le_of_ble_eq_true rfl) hnL rfl dL_tryPlanned_7 ?_
    refine xr_ldc (pc := 8) X dL_tryPlanned_8 (List.mem_cons_of_mem _ wm_14_7) ?_
    exact xr_iret (pc := 10) X (Nat.le_of_ble_eq_true rfl) (Nat.le_of_ble_eq_true rfl) dL_tryPlanned_10
  refine xKX_if (fun hee7 => ?_) (fun hee7 => ?_)
  · subst hee7
    refine xKX_hat (hp := 11) (x_hat (E := "java/lang/IllegalArgumentException") (name := "java/lang/IllegalArgumentException") X hXT [⟨0, 6, 7, 13⟩] ⟨0, 6, 11, 20⟩ [] rfl (fun z hz => by rw [List.mem_singleton.mp hz]; exact ⟨by decide, _, wm_14_6, (xNC_of X).2.2.1⟩) (by decide) (by decide) wm_6_3 30 rfl rfl) ?_
    refine x_sub [] rfl ?_
    refine xr_astore_n (pc := 11) X (hf := rfl) (i := 3) (lv2 := [(3, .ref qq4)]) [0] (Nat.le_of_ble_eq_true rfl) hnL rfl dL_tryPlanned_11 ?_
    refine xr_ldc (pc := 12) X dL_tryPlanned_12 (List.mem_cons_of_mem _ wm_6_5) ?_
    exact xr_iret (pc := 14) X (Nat.le_of_ble_eq_true rfl) (Nat.le_of_ble_eq_true rfl) dL_tryPlanned_14
  exact xKX_none
def F_L_trySetting (oo1 : Nat) (pp2 : Int32) (σ : xS) : Option (Int32 × xS) :=
  xbH (F_X5_setting oo1 pp2 σ) (fun (zz2 : Int32) (σ1 : xS) => some (zz2, σ1))
 (fun (ee5 : Nat) (σ3 : xS) => (if ee5 = 2 then (some ((-9999002 : Int32), σ3)) else none))
abbrev rm_L_trySetting : Room := { frames := 9, cells := 1, slots := 6, locals := 143 }
set_option maxHeartbeats 4000000 in
set_option maxRecDepth 100000 in
theorem c_L_trySetting (l : Launch) {D : va_G} {ad : Nat → Nat} {N : Nat} {Sh : xSh} (hI : ∀ i j, i < N → j < N → ad i = ad j → i = j) (hst : l.stackTraces = false) (oo1 : Nat) (hh1 : xIs5 D ad N Sh oo1) (pp2 : Int32) (σ : xS) : xKI l yL_trySetting (Cond.codeWith yL_trySetting cL_trySetting 3 (some .int) [(0, 5, 6, 20)] :: wG) rm_L_trySetting 1 6 D ad N Sh [.ref (ad oo1), .int pp2] σ (F_L_trySetting oo1 pp2 σ) := by
  refine x_startH (own := RL) (maxL := 3) (by decide) rfl rfl rfl (Nat.le_of_ble_eq_true rfl) rfl hI (fun Γ hl hnL hXT X => ?_)
  subst hl
  unfold F_L_trySetting
  refine xr_aload_n (pc := 0) X (i := 0) 0 rfl rfl dL_trySetting_0 ?_
  refine xr_iload_n (pc := 1) X (i := 1) 1 rfl rfl dL_trySetting_1 ?_
  refine xr_callHVI (na := 1) (pc := 2) X (oo1) [.int pp2] _ (c_X5_setting Γ.2.1 hI hst oo1 hh1 pp2 σ) (wG_V wm_15_21 wm_15_18 wm_15_19 wm_15_20 wm_1_2) rfl rfl rfl (by decide +kernel) ⟨Nat.le_of_ble_eq_true rfl, Nat.le_of_ble_eq_true rfl⟩ hh1.1.1 hh1.1.2 rfl (T := TX5) (C := RX5) rfl rfl rfl (Nat.le_of_ble_eq_true rfl) ⟨Nat.le_of_ble_eq_true rfl, Nat.le_of_ble_eq_true rfl⟩ dL_trySetting_2 (fun zz2 σ1 => ?_) (fun ee5 σ3 qq4 => ?_)
  · exact xr_iret (pc := 5) X (Nat.le_of_ble_eq_true rfl) (Nat.le_of_ble_eq_true rfl) dL_trySetting_5
  refine xKX_if (fun hee6 => ?_) (fun hee6 => ?_)
  · subst hee6
    refine xKX_hat (hp := 6) (x_hat (E := "java/lang/IllegalArgumentException") (name := "java/lang/IllegalArgumentException") X hXT [] ⟨0, 5, 6, 20⟩ [] rfl (fun z hz => absurd hz List.not_mem_nil) (by decide) (by decide) wm_6_3 30 rfl rfl) ?_
    refine x_sub [] rfl ?_
    refine xr_astore_n (pc := 6) X (hf := rfl) (i := 2) (lv2 := [(2, .ref qq4)]) [0] (Nat.le_of_ble_eq_true rfl) hnL rfl dL_trySetting_6 ?_
    refine xr_ldc (pc := 7) X dL_trySetting_7 (List.mem_cons_of_mem _ wm_6_5) ?_
    exact xr_iret (pc := 9) X (Nat.le_of_ble_eq_true rfl) (Nat.le_of_ble_eq_true rfl) dL_trySetting_9
  exact xKX_none
def F_L_tryPost (oo1 : Nat) (pp2 : Int32) (σ : xS) : Option (Int32 × xS) :=
  xbH (F_X5_post oo1 pp2 σ) (fun (zz2 : Int32) (σ1 : xS) => some (zz2, σ1))
 (fun (ee5 : Nat) (σ3 : xS) => (if ee5 = 2 then (some ((-9999002 : Int32), σ3)) else none))
abbrev rm_L_tryPost : Room := { frames := 9, cells := 1, slots := 6, locals := 170 }
set_option maxHeartbeats 4000000 in
set_option maxRecDepth 100000 in
theorem c_L_tryPost (l : Launch) {D : va_G} {ad : Nat → Nat} {N : Nat} {Sh : xSh} (hI : ∀ i j, i < N → j < N → ad i = ad j → i = j) (hst : l.stackTraces = false) (oo1 : Nat) (hh1 : xIs5 D ad N Sh oo1) (pp2 : Int32) (σ : xS) : xKI l yL_tryPost (Cond.codeWith yL_tryPost cL_tryPost 3 (some .int) [(0, 5, 6, 20)] :: wG) rm_L_tryPost 1 6 D ad N Sh [.ref (ad oo1), .int pp2] σ (F_L_tryPost oo1 pp2 σ) := by
  refine x_startH (own := RL) (maxL := 3) (by decide) rfl rfl rfl (Nat.le_of_ble_eq_true rfl) rfl hI (fun Γ hl hnL hXT X => ?_)
  subst hl
  unfold F_L_tryPost
  refine xr_aload_n (pc := 0) X (i := 0) 0 rfl rfl dL_tryPost_0 ?_
  refine xr_iload_n (pc := 1) X (i := 1) 1 rfl rfl dL_tryPost_1 ?_
  refine xr_callHVI (na := 1) (pc := 2) X (oo1) [.int pp2] _ (c_X5_post Γ.2.1 hI hst oo1 hh1 pp2 σ) (wG_V wm_16_4 wm_16_1 wm_16_2 wm_16_3 wm_1_2) rfl rfl rfl (by decide +kernel) ⟨Nat.le_of_ble_eq_true rfl, Nat.le_of_ble_eq_true rfl⟩ hh1.1.1 hh1.1.2 rfl (T := TX5) (C := RX5) rfl rfl rfl (Nat.le_of_ble_eq_true rfl) ⟨Nat.le_of_ble_eq_true rfl, Nat.le_of_ble_eq_true rfl⟩ dL_tryPost_2 (fun zz2 σ1 => ?_) (fun ee5 σ3 qq4 => ?_)
  · exact xr_iret (pc := 5) X (Nat.le_of_ble_eq_true rfl) (Nat.le_of_ble_eq_true rfl) dL_tryPost_5
  refine xKX_if (fun hee6 => ?_) (fun hee6 => ?_)
  · subst hee6
    refine xKX_hat (hp := 6) (x_hat (E := "java/lang/IllegalArgumentException") (name := "java/lang/IllegalArgumentException") X hXT [] ⟨0, 5, 6, 20⟩ [] rfl (fun z hz => absurd hz List.not_mem_nil) (by decide) (by decide) wm_6_3 30 rfl rfl) ?_
    refine x_sub [] rfl ?_
    refine xr_astore_n (pc := 6) X (hf := rfl) (i := 2) (lv2 := [(2, .ref qq4)]) [0] (Nat.le_of_ble_eq_true rfl) hnL rfl dL_tryPost_6 ?_
    refine xr_ldc (pc := 7) X dL_tryPost_7 (List.mem_cons_of_mem _ wm_6_5) ?_
    exact xr_iret (pc := 9) X (Nat.le_of_ble_eq_true rfl) (Nat.le_of_ble_eq_true rfl) dL_tryPost_9
  exact xKX_none
def F_L_tryWrite (oo1 : Nat) (pp2 : Int32) (pp3 : Int32) (σ : xS) : Option (Int32 × xS) :=
  xbH (F_X5_write oo1 pp2 pp3 σ) (fun (zz2 : Int32) (σ1 : xS) => some (zz2, σ1))
 (fun (ee5 : Nat) (σ3 : xS) => (if ee5 = 1 then (some ((-9999001 : Int32), σ3)) else (if ee5 = 2 then (some ((-9999002 : Int32), σ3)) else (if ee5 = 3 then (some ((-9999003 : Int32), σ3)) else none))))
abbrev rm_L_tryWrite : Room := { frames := 9, cells := 1, slots := 6, locals := 171 }
set_option maxHeartbeats 4000000 in
set_option maxRecDepth 100000 in
theorem c_L_tryWrite (l : Launch) {D : va_G} {ad : Nat → Nat} {N : Nat} {Sh : xSh} (hI : ∀ i j, i < N → j < N → ad i = ad j → i = j) (hst : l.stackTraces = false) (oo1 : Nat) (hh1 : xIs5 D ad N Sh oo1) (pp2 : Int32) (pp3 : Int32) (σ : xS) : xKI l yL_tryWrite (Cond.codeWith yL_tryWrite cL_tryWrite 4 (some .int) [(0, 6, 7, 13), (0, 6, 11, 20), (0, 6, 15, 31)] :: wG) rm_L_tryWrite 1 6 D ad N Sh [.ref (ad oo1), .int pp2, .int pp3] σ (F_L_tryWrite oo1 pp2 pp3 σ) := by
  refine x_startH (own := RL) (maxL := 4) (by decide) rfl rfl rfl (Nat.le_of_ble_eq_true rfl) rfl hI (fun Γ hl hnL hXT X => ?_)
  subst hl
  unfold F_L_tryWrite
  refine xr_aload_n (pc := 0) X (i := 0) 0 rfl rfl dL_tryWrite_0 ?_
  refine xr_iload_n (pc := 1) X (i := 1) 1 rfl rfl dL_tryWrite_1 ?_
  refine xr_iload_n (pc := 2) X (i := 2) 2 rfl rfl dL_tryWrite_2 ?_
  refine xr_callHVI (na := 2) (pc := 3) X (oo1) [.int pp2, .int pp3] _ (c_X5_write Γ.2.1 hI hst oo1 hh1 pp2 pp3 σ) (wG_V wm_17_13 wm_17_10 wm_17_11 wm_17_12 wm_1_2) rfl rfl rfl (by decide +kernel) ⟨Nat.le_of_ble_eq_true rfl, Nat.le_of_ble_eq_true rfl⟩ hh1.1.1 hh1.1.2 rfl (T := TX5) (C := RX5) rfl rfl rfl (Nat.le_of_ble_eq_true rfl) ⟨Nat.le_of_ble_eq_true rfl, Nat.le_of_ble_eq_true rfl⟩ dL_tryWrite_3 (fun zz2 σ1 => ?_) (fun ee5 σ3 qq4 => ?_)
  · exact xr_iret (pc := 6) X (Nat.le_of_ble_eq_true rfl) (Nat.le_of_ble_eq_true rfl) dL_tryWrite_6
  refine xKX_if (fun hee6 => ?_) (fun hee6 => ?_)
  · subst hee6
    refine xKX_hat (hp := 7) (x_hat (E := "java/lang/IndexOutOfBoundsException") (name := "java/lang/IndexOutOfBoundsException") X hXT [] ⟨0, 6, 7, 13⟩ [⟨0, 6, 11, 20⟩, ⟨0, 6, 15, 31⟩] rfl (fun z hz => absurd hz List.not_mem_nil) (by decide) (by decide) wm_14_6 29 rfl rfl) ?_
    refine x_sub [] rfl ?_
    refine xr_astore_n (pc := 7) X (hf := rfl) (i := 3) (lv2 := [(3, .ref qq4)]) [0] (Nat.le_of_ble_eq_true rfl) hnL rfl dL_tryWrite_7 ?_
    refine xr_ldc (pc := 8) X dL_tryWrite_8 (List.mem_cons_of_mem _ wm_14_7) ?_
    exact xr_iret (pc := 10) X (Nat.le_of_ble_eq_true rfl) (Nat.le_of_ble_eq_true rfl) dL_tryWrite_10
  refine xKX_if (fun hee7 => ?_) (fun hee7 => ?_)
  · subst hee7
    refine xKX_hat (hp := 11) (x_hat (E := "java/lang/IllegalArgumentException") (name := "java/lang/IllegalArgumentException") X hXT [⟨0, 6, 7, 13⟩] ⟨0, 6, 11, 20⟩ [⟨0, 6, 15, 31⟩] rfl (fun z hz => by rw [List.mem_singleton.mp hz]; exact ⟨by decide, _, wm_14_6, (xNC_of X).2.2.1⟩) (by decide) (by decide) wm_6_3 30 rfl rfl) ?_
    refine x_sub [] rfl ?_
    refine xr_astore_n (pc := 11) X (hf := rfl) (i := 3) (lv2 := [(3, .ref qq4)]) [0] (Nat.le_of_ble_eq_true rfl) hnL rfl dL_tryWrite_11 ?_
    refine xr_ldc (pc := 12) X dL_tryWrite_12 (List.mem_cons_of_mem _ wm_6_5) ?_
    exact xr_iret (pc := 14) X (Nat.le_of_ble_eq_true rfl) (Nat.le_of_ble_eq_true rfl) dL_tryWrite_14
  refine xKX_if (fun hee8 => ?_) (fun hee8 => ?_)
  · subst hee8
    refine xKX_hat (hp := 15) (x_hat (E := "java/lang/IllegalStateException") (name := "java/lang/IllegalStateException") X hXT [⟨0, 6, 7, 13⟩, ⟨0, 6, 11, 20⟩] ⟨0, 6, 15, 31⟩ [] rfl (fun z hz => (List.mem_cons.mp hz).elim (fun h => by rw [h]; exact ⟨by decide, _, wm_14_6, (xNC_of X).2.2.2.2.1⟩) (fun h => by rw [List.mem_singleton.mp h]; exact ⟨by decide, _, wm_6_3, (xNC_of X).2.2.2.2.2⟩)) (by decide) (by decide) wm_6_4 31 rfl rfl) ?_
    refine x_sub [] rfl ?_
    refine xr_astore_n (pc := 15) X (hf := rfl) (i := 3) (lv2 := [(3, .ref qq4)]) [0] (Nat.le_of_ble_eq_true rfl) hnL rfl dL_tryWrite_15 ?_
    refine xr_ldc (pc := 16) X dL_tryWrite_16 (List.mem_cons_of_mem _ wm_6_6) ?_
    exact xr_iret (pc := 18) X (Nat.le_of_ble_eq_true rfl) (Nat.le_of_ble_eq_true rfl) dL_tryWrite_18
  exact xKX_none
def F_L_tryPlan (oo1 : Nat) (pp2 : Int32) (pp3 : Int32) (pp4 : Int32) (σ : xS) : Option (Int32 × xS) :=
  xbH (F_X5_plan oo1 pp2 pp3 pp4 σ) (fun (zz2 : Int32) (σ1 : xS) => some (zz2, σ1))
 (fun (ee5 : Nat) (σ3 : xS) => (if ee5 = 1 then (some ((-9999001 : Int32), σ3)) else (if ee5 = 2 then (some ((-9999002 : Int32), σ3)) else (if ee5 = 3 then (some ((-9999003 : Int32), σ3)) else none))))
abbrev rm_L_tryPlan : Room := { frames := 9, cells := 1, slots := 6, locals := 172 }
set_option maxHeartbeats 4000000 in
set_option maxRecDepth 100000 in
theorem c_L_tryPlan (l : Launch) {D : va_G} {ad : Nat → Nat} {N : Nat} {Sh : xSh} (hI : ∀ i j, i < N → j < N → ad i = ad j → i = j) (hst : l.stackTraces = false) (oo1 : Nat) (hh1 : xIs5 D ad N Sh oo1) (pp2 : Int32) (pp3 : Int32) (pp4 : Int32) (σ : xS) : xKI l yL_tryPlan (Cond.codeWith yL_tryPlan cL_tryPlan 5 (some .int) [(0, 7, 8, 13), (0, 7, 13, 20), (0, 7, 18, 31)] :: wG) rm_L_tryPlan 1 6 D ad N Sh [.ref (ad oo1), .int pp2, .int pp3, .int pp4] σ (F_L_tryPlan oo1 pp2 pp3 pp4 σ) := by
  refine x_startH (own := RL) (maxL := 5) (by decide) rfl rfl rfl (Nat.le_of_ble_eq_true rfl) rfl hI (fun Γ hl hnL hXT X => ?_)
  subst hl
  unfold F_L_tryPlan
  refine xr_aload_n (pc := 0) X (i := 0) 0 rfl rfl dL_tryPlan_0 ?_
  refine xr_iload_n (pc := 1) X (i := 1) 1 rfl rfl dL_tryPlan_1 ?_
  refine xr_iload_n (pc := 2) X (i := 2) 2 rfl rfl dL_tryPlan_2 ?_
  refine xr_iload_n (pc := 3) X (i := 3) 3 rfl rfl dL_tryPlan_3 ?_
  refine xr_callHVI (na := 3) (pc := 4) X (oo1) [.int pp2, .int pp3, .int pp4] _ (c_X5_plan Γ.2.1 hI hst oo1 hh1 pp2 pp3 pp4 σ) (wG_V wm_17_20 wm_17_17 wm_17_18 wm_17_19 wm_1_2) rfl rfl rfl (by decide +kernel) ⟨Nat.le_of_ble_eq_true rfl, Nat.le_of_ble_eq_true rfl⟩ hh1.1.1 hh1.1.2 rfl (T := TX5) (C := RX5) rfl rfl rfl (Nat.le_of_ble_eq_true rfl) ⟨Nat.le_of_ble_eq_true rfl, Nat.le_of_ble_eq_true rfl⟩ dL_tryPlan_4 (fun zz2 σ1 => ?_) (fun ee5 σ3 qq4 => ?_)
  · exact xr_iret (pc := 7) X (Nat.le_of_ble_eq_true rfl) (Nat.le_of_ble_eq_true rfl) dL_tryPlan_7
  refine xKX_if (fun hee6 => ?_) (fun hee6 => ?_)
  · subst hee6
    refine xKX_hat (hp := 8) (x_hat (E := "java/lang/IndexOutOfBoundsException") (name := "java/lang/IndexOutOfBoundsException") X hXT [] ⟨0, 7, 8, 13⟩ [⟨0, 7, 13, 20⟩, ⟨0, 7, 18, 31⟩] rfl (fun z hz => absurd hz List.not_mem_nil) (by decide) (by decide) wm_14_6 29 rfl rfl) ?_
    refine x_sub [] rfl ?_
    refine xr_astore (pc := 8) X (i := 4) (lv2 := [(4, .ref qq4)]) [0] (Nat.le_of_ble_eq_true rfl) hnL rfl dL_tryPlan_8 ?_
    refine xr_ldc (pc := 10) X dL_tryPlan_10 (List.mem_cons_of_mem _ wm_14_7) ?_
    exact xr_iret (pc := 12) X (Nat.le_of_ble_eq_true rfl) (Nat.le_of_ble_eq_true rfl) dL_tryPlan_12
  refine xKX_if (fun hee7 => ?_) (fun hee7 => ?_)
  · subst hee7
    refine xKX_hat (hp := 13) (x_hat (E := "java/lang/IllegalArgumentException") (name := "java/lang/IllegalArgumentException") X hXT [⟨0, 7, 8, 13⟩] ⟨0, 7, 13, 20⟩ [⟨0, 7, 18, 31⟩] rfl (fun z hz => by rw [List.mem_singleton.mp hz]; exact ⟨by decide, _, wm_14_6, (xNC_of X).2.2.1⟩) (by decide) (by decide) wm_6_3 30 rfl rfl) ?_
    refine x_sub [] rfl ?_
    refine xr_astore (pc := 13) X (i := 4) (lv2 := [(4, .ref qq4)]) [0] (Nat.le_of_ble_eq_true rfl) hnL rfl dL_tryPlan_13 ?_
    refine xr_ldc (pc := 15) X dL_tryPlan_15 (List.mem_cons_of_mem _ wm_6_5) ?_
    exact xr_iret (pc := 17) X (Nat.le_of_ble_eq_true rfl) (Nat.le_of_ble_eq_true rfl) dL_tryPlan_17
  refine xKX_if (fun hee8 => ?_) (fun hee8 => ?_)
  · subst hee8
    refine xKX_hat (hp := 18) (x_hat (E := "java/lang/IllegalStateException") (name := "java/lang/IllegalStateException") X hXT [⟨0, 7, 8, 13⟩, ⟨0, 7, 13, 20⟩] ⟨0, 7, 18, 31⟩ [] rfl (fun z hz => (List.mem_cons.mp hz).elim (fun h => by rw [h]; exact ⟨by decide, _, wm_14_6, (xNC_of X).2.2.2.2.1⟩) (fun h => by rw [List.mem_singleton.mp h]; exact ⟨by decide, _, wm_6_3, (xNC_of X).2.2.2.2.2⟩)) (by decide) (by decide) wm_6_4 31 rfl rfl) ?_
    refine x_sub [] rfl ?_
    refine xr_astore (pc := 18) X (i := 4) (lv2 := [(4, .ref qq4)]) [0] (Nat.le_of_ble_eq_true rfl) hnL rfl dL_tryPlan_18 ?_
    refine xr_ldc (pc := 20) X dL_tryPlan_20 (List.mem_cons_of_mem _ wm_6_6) ?_
    exact xr_iret (pc := 22) X (Nat.le_of_ble_eq_true rfl) (Nat.le_of_ble_eq_true rfl) dL_tryPlan_22
  exact xKX_none
def F_L_tryFlush (oo1 : Nat) (pp2 : Int32) (σ : xS) : Option (Int32 × xS) :=
  xbH (F_X5_flush oo1 pp2 σ) (fun (zz2 : Int32) (σ1 : xS) => some (zz2, σ1))
 (fun (ee5 : Nat) (σ3 : xS) => (if ee5 = 1 then (some ((-9999001 : Int32), σ3)) else none))
abbrev rm_L_tryFlush : Room := { frames := 9, cells := 1, slots := 6, locals := 170 }
set_option maxHeartbeats 4000000 in
set_option maxRecDepth 100000 in
theorem c_L_tryFlush (l : Launch) {D : va_G} {ad : Nat → Nat} {N : Nat} {Sh : xSh} (hI : ∀ i j, i < N → j < N → ad i = ad j → i = j) (hst : l.stackTraces = false) (oo1 : Nat) (hh1 : xIs5 D ad N Sh oo1) (pp2 : Int32) (σ : xS) : xKI l yL_tryFlush (Cond.codeWith yL_tryFlush cL_tryFlush 3 (some .int) [(0, 5, 6, 13)] :: wG) rm_L_tryFlush 1 6 D ad N Sh [.ref (ad oo1), .int pp2] σ (F_L_tryFlush oo1 pp2 σ) := by
  refine x_startH (own := RL) (maxL := 3) (by decide) rfl rfl rfl (Nat.le_of_ble_eq_true rfl) rfl hI (fun Γ hl hnL hXT X => ?_)
  subst hl
  unfold F_L_tryFlush
  refine xr_aload_n (pc := 0) X (i := 0) 0 rfl rfl dL_tryFlush_0 ?_
  refine xr_iload_n (pc := 1) X (i := 1) 1 rfl rfl dL_tryFlush_1 ?_
  refine xr_callHVI (na := 1) (pc := 2) X (oo1) [.int pp2] _ (c_X5_flush Γ.2.1 hI hst oo1 hh1 pp2 σ) (wG_V wm_18_3 wm_18_0 wm_18_1 wm_18_2 wm_1_2) rfl rfl rfl (by decide +kernel) ⟨Nat.le_of_ble_eq_true rfl, Nat.le_of_ble_eq_true rfl⟩ hh1.1.1 hh1.1.2 rfl (T := TX5) (C := RX5) rfl rfl rfl (Nat.le_of_ble_eq_true rfl) ⟨Nat.le_of_ble_eq_true rfl, Nat.le_of_ble_eq_true rfl⟩ dL_tryFlush_2 (fun zz2 σ1 => ?_) (fun ee5 σ3 qq4 => ?_)
  · exact xr_iret (pc := 5) X (Nat.le_of_ble_eq_true rfl) (Nat.le_of_ble_eq_true rfl) dL_tryFlush_5
  refine xKX_if (fun hee6 => ?_) (fun hee6 => ?_)
  · subst hee6
    refine xKX_hat (hp := 6) (x_hat (E := "java/lang/IndexOutOfBoundsException") (name := "java/lang/IndexOutOfBoundsException") X hXT [] ⟨0, 5, 6, 13⟩ [] rfl (fun z hz => absurd hz List.not_mem_nil) (by decide) (by decide) wm_14_6 29 rfl rfl) ?_
    refine x_sub [] rfl ?_
    refine xr_astore_n (pc := 6) X (hf := rfl) (i := 2) (lv2 := [(2, .ref qq4)]) [0] (Nat.le_of_ble_eq_true rfl) hnL rfl dL_tryFlush_6 ?_
    refine xr_ldc (pc := 7) X dL_tryFlush_7 (List.mem_cons_of_mem _ wm_14_7) ?_
    exact xr_iret (pc := 9) X (Nat.le_of_ble_eq_true rfl) (Nat.le_of_ble_eq_true rfl) dL_tryFlush_9
  exact xKX_none
def F_L_tryTicks (oo1 : Nat) (pp2 : Int32) (σ : xS) : Option (Int32 × xS) :=
  xbH (F_X5_ticks oo1 pp2 σ) (fun (zz2 : Int32) (σ1 : xS) => some (zz2, σ1))
 (fun (ee5 : Nat) (σ3 : xS) => (if ee5 = 2 then (some ((-9999002 : Int32), σ3)) else (if ee5 = 3 then (some ((-9999003 : Int32), σ3)) else none)))
abbrev rm_L_tryTicks : Room := { frames := 9, cells := 3, slots := 18, locals := 170 }
set_option maxHeartbeats 4000000 in
set_option maxRecDepth 100000 in
theorem c_L_tryTicks (l : Launch) {D : va_G} {ad : Nat → Nat} {N : Nat} {Sh : xSh} (hI : ∀ i j, i < N → j < N → ad i = ad j → i = j) (hst : l.stackTraces = false) (oo1 : Nat) (hh1 : xIs5 D ad N Sh oo1) (pp2 : Int32) (σ : xS) : xKI l yL_tryTicks (Cond.codeWith yL_tryTicks cL_tryTicks 3 (some .int) [(0, 5, 6, 20), (0, 5, 10, 31)] :: wG) rm_L_tryTicks 3 18 D ad N Sh [.ref (ad oo1), .int pp2] σ (F_L_tryTicks oo1 pp2 σ) := by
  refine x_startH (own := RL) (maxL := 3) (by decide) rfl rfl rfl (Nat.le_of_ble_eq_true rfl) rfl hI (fun Γ hl hnL hXT X => ?_)
  subst hl
  unfold F_L_tryTicks
  refine xr_aload_n (pc := 0) X (i := 0) 0 rfl rfl dL_tryTicks_0 ?_
  refine xr_iload_n (pc := 1) X (i := 1) 1 rfl rfl dL_tryTicks_1 ?_
  refine xr_callHVI (na := 1) (pc := 2) X (oo1) [.int pp2] _ (c_X5_ticks Γ.2.1 hI hst oo1 hh1 pp2 σ) (wG_V wm_18_10 wm_18_7 wm_18_8 wm_18_9 wm_1_2) rfl rfl rfl (by decide +kernel) ⟨Nat.le_of_ble_eq_true rfl, Nat.le_of_ble_eq_true rfl⟩ hh1.1.1 hh1.1.2 rfl (T := TX5) (C := RX5) rfl rfl rfl (Nat.le_of_ble_eq_true rfl) ⟨Nat.le_of_ble_eq_true rfl, Nat.le_of_ble_eq_true rfl⟩ dL_tryTicks_2 (fun zz2 σ1 => ?_) (fun ee5 σ3 qq4 => ?_)
  · exact xr_iret (pc := 5) X (Nat.le_of_ble_eq_true rfl) (Nat.le_of_ble_eq_true rfl) dL_tryTicks_5
  refine xKX_if (fun hee6 => ?_) (fun hee6 => ?_)
  · subst hee6
    refine xKX_hat (hp := 6) (x_hat (E := "java/lang/IllegalArgumentException") (name := "java/lang/IllegalArgumentException") X hXT [] ⟨0, 5, 6, 20⟩ [⟨0, 5, 10, 31⟩] rfl (fun z hz => absurd hz List.not_mem_nil) (by decide) (by decide) wm_6_3 30 rfl rfl) ?_
    refine x_sub [] rfl ?_
    refine xr_astore_n (pc := 6) X (hf := rfl) (i := 2) (lv2 := [(2, .ref qq4)]) [0] (Nat.le_of_ble_eq_true rfl) hnL rfl dL_tryTicks_6 ?_
    refine xr_ldc (pc := 7) X dL_tryTicks_7 (List.mem_cons_of_mem _ wm_6_5) ?_
    exact xr_iret (pc := 9) X (Nat.le_of_ble_eq_true rfl) (Nat.le_of_ble_eq_true rfl) dL_tryTicks_9
  refine xKX_if (fun hee7 => ?_) (fun hee7 => ?_)
  · subst hee7
    refine xKX_hat (hp := 10) (x_hat (E := "java/lang/IllegalStateException") (name := "java/lang/IllegalStateException") X hXT [⟨0, 5, 6, 20⟩] ⟨0, 5, 10, 31⟩ [] rfl (fun z hz => by rw [List.mem_singleton.mp hz]; exact ⟨by decide, _, wm_6_3, (xNC_of X).2.2.2.2.2⟩) (by decide) (by decide) wm_6_4 31 rfl rfl) ?_
    refine x_sub [] rfl ?_
    refine xr_astore_n (pc := 10) X (hf := rfl) (i := 2) (lv2 := [(2, .ref qq4)]) [0] (Nat.le_of_ble_eq_true rfl) hnL rfl dL_tryTicks_10 ?_
    refine xr_ldc (pc := 11) X dL_tryTicks_11 (List.mem_cons_of_mem _ wm_6_6) ?_
    exact xr_iret (pc := 13) X (Nat.le_of_ble_eq_true rfl) (Nat.le_of_ble_eq_true rfl) dL_tryTicks_13
  exact xKX_none
def F_L_tryLay (oo1 : Nat) (pp2 : Int32) (pp3 : Int32) (σ : xS) : Option (Int32 × xS) :=
  xbH (F_X5_set oo1 pp2 pp3 σ) (fun (zz2 : Int32) (σ1 : xS) => some (zz2, σ1))
 (fun (ee5 : Nat) (σ3 : xS) => (if ee5 = 2 then (some ((-9999002 : Int32), σ3)) else none))
abbrev rm_L_tryLay : Room := { frames := 9, cells := 1, slots := 6, locals := 171 }
set_option maxHeartbeats 4000000 in
set_option maxRecDepth 100000 in
theorem c_L_tryLay (l : Launch) {D : va_G} {ad : Nat → Nat} {N : Nat} {Sh : xSh} (hI : ∀ i j, i < N → j < N → ad i = ad j → i = j) (hst : l.stackTraces = false) (oo1 : Nat) (hh1 : xIs5 D ad N Sh oo1) (pp2 : Int32) (pp3 : Int32) (σ : xS) : xKI l yL_tryLay (Cond.codeWith yL_tryLay cL_tryLay 4 (some .int) [(0, 6, 7, 20)] :: wG) rm_L_tryLay 1 6 D ad N Sh [.ref (ad oo1), .int pp2, .int pp3] σ (F_L_tryLay oo1 pp2 pp3 σ) := by
  refine x_startH (own := RL) (maxL := 4) (by decide) rfl rfl rfl (Nat.le_of_ble_eq_true rfl) rfl hI (fun Γ hl hnL hXT X => ?_)
  subst hl
  unfold F_L_tryLay
  refine xr_aload_n (pc := 0) X (i := 0) 0 rfl rfl dL_tryLay_0 ?_
  refine xr_iload_n (pc := 1) X (i := 1) 1 rfl rfl dL_tryLay_1 ?_
  refine xr_iload_n (pc := 2) X (i := 2) 2 rfl rfl dL_tryLay_2 ?_
  refine xr_callHVI (na := 2) (pc := 3) X (oo1) [.int pp2, .int pp3] _ (c_X5_set Γ.2.1 hI hst oo1 hh1 pp2 pp3 σ) (wG_V wm_18_18 wm_18_15 wm_18_16 wm_18_17 wm_1_2) rfl rfl rfl (by decide +kernel) ⟨Nat.le_of_ble_eq_true rfl, Nat.le_of_ble_eq_true rfl⟩ hh1.1.1 hh1.1.2 rfl (T := TX5) (C := RX5) rfl rfl rfl (Nat.le_of_ble_eq_true rfl) ⟨Nat.le_of_ble_eq_true rfl, Nat.le_of_ble_eq_true rfl⟩ dL_tryLay_3 (fun zz2 σ1 => ?_) (fun ee5 σ3 qq4 => ?_)
  · exact xr_iret (pc := 6) X (Nat.le_of_ble_eq_true rfl) (Nat.le_of_ble_eq_true rfl) dL_tryLay_6
  refine xKX_if (fun hee6 => ?_) (fun hee6 => ?_)
  · subst hee6
    refine xKX_hat (hp := 7) (x_hat (E := "java/lang/IllegalArgumentException") (name := "java/lang/IllegalArgumentException") X hXT [] ⟨0, 6, 7, 20⟩ [] rfl (fun z hz => absurd hz List.not_mem_nil) (by decide) (by decide) wm_6_3 30 rfl rfl) ?_
    refine x_sub [] rfl ?_
    refine xr_astore_n (pc := 7) X (hf := rfl) (i := 3) (lv2 := [(3, .ref qq4)]) [0] (Nat.le_of_ble_eq_true rfl) hnL rfl dL_tryLay_7 ?_
    refine xr_ldc (pc := 8) X dL_tryLay_8 (List.mem_cons_of_mem _ wm_6_5) ?_
    exact xr_iret (pc := 10) X (Nat.le_of_ble_eq_true rfl) (Nat.le_of_ble_eq_true rfl) dL_tryLay_10
  exact xKX_none
def F_L_tryUndo (oo1 : Nat) (σ : xS) : Option (Int32 × xS) :=
  xbH (F_X5_undo oo1 σ) (fun (zz2 : Int32) (σ1 : xS) => some (zz2, σ1))
 (fun (ee5 : Nat) (σ3 : xS) => (if ee5 = 3 then (some ((-9999003 : Int32), σ3)) else none))
abbrev rm_L_tryUndo : Room := { frames := 9, cells := 1, slots := 6, locals := 142 }
set_option maxHeartbeats 4000000 in
set_option maxRecDepth 100000 in
theorem c_L_tryUndo (l : Launch) {D : va_G} {ad : Nat → Nat} {N : Nat} {Sh : xSh} (hI : ∀ i j, i < N → j < N → ad i = ad j → i = j) (hst : l.stackTraces = false) (oo1 : Nat) (hh1 : xIs5 D ad N Sh oo1) (σ : xS) : xKI l yL_tryUndo (Cond.codeWith yL_tryUndo cL_tryUndo 2 (some .int) [(0, 4, 5, 31)] :: wG) rm_L_tryUndo 1 6 D ad N Sh [.ref (ad oo1)] σ (F_L_tryUndo oo1 σ) := by
  refine x_startH (own := RL) (maxL := 2) (by decide) rfl rfl rfl (Nat.le_of_ble_eq_true rfl) rfl hI (fun Γ hl hnL hXT X => ?_)
  subst hl
  unfold F_L_tryUndo
  refine xr_aload_n (pc := 0) X (i := 0) 0 rfl rfl dL_tryUndo_0 ?_
  refine xr_callHVI (na := 0) (pc := 1) X (oo1) [] _ (c_X5_undo Γ.2.1 hI hst oo1 hh1 σ) (wG_V wm_19_1 wm_18_22 wm_18_23 wm_19_0 wm_1_2) rfl rfl rfl (by decide +kernel) ⟨Nat.le_of_ble_eq_true rfl, Nat.le_of_ble_eq_true rfl⟩ hh1.1.1 hh1.1.2 rfl (T := TX5) (C := RX5) rfl rfl rfl (Nat.le_of_ble_eq_true rfl) ⟨Nat.le_of_ble_eq_true rfl, Nat.le_of_ble_eq_true rfl⟩ dL_tryUndo_1 (fun zz2 σ1 => ?_) (fun ee5 σ3 qq4 => ?_)
  · exact xr_iret (pc := 4) X (Nat.le_of_ble_eq_true rfl) (Nat.le_of_ble_eq_true rfl) dL_tryUndo_4
  refine xKX_if (fun hee6 => ?_) (fun hee6 => ?_)
  · subst hee6
    refine xKX_hat (hp := 5) (x_hat (E := "java/lang/IllegalStateException") (name := "java/lang/IllegalStateException") X hXT [] ⟨0, 4, 5, 31⟩ [] rfl (fun z hz => absurd hz List.not_mem_nil) (by decide) (by decide) wm_6_4 31 rfl rfl) ?_
    refine x_sub [] rfl ?_
    refine xr_astore_n (pc := 5) X (hf := rfl) (i := 1) (lv2 := [(1, .ref qq4)]) [0] (Nat.le_of_ble_eq_true rfl) hnL rfl dL_tryUndo_5 ?_
    refine xr_ldc (pc := 6) X dL_tryUndo_6 (List.mem_cons_of_mem _ wm_6_6) ?_
    exact xr_iret (pc := 8) X (Nat.le_of_ble_eq_true rfl) (Nat.le_of_ble_eq_true rfl) dL_tryUndo_8
  exact xKX_none
def F_L_tryDone (oo1 : Nat) (pp2 : Int32) (σ : xS) : Option (Int32 × xS) :=
  xbH (F_X5_doneIn oo1 pp2 σ) (fun (zz2 : Int32) (σ1 : xS) => some (zz2, σ1))
 (fun (ee5 : Nat) (σ3 : xS) => (if ee5 = 1 then (some ((-9999001 : Int32), σ3)) else none))
abbrev rm_L_tryDone : Room := { frames := 8, cells := 1, slots := 6, locals := 145 }
set_option maxHeartbeats 4000000 in
set_option maxRecDepth 100000 in
theorem c_L_tryDone (l : Launch) {D : va_G} {ad : Nat → Nat} {N : Nat} {Sh : xSh} (hI : ∀ i j, i < N → j < N → ad i = ad j → i = j) (hst : l.stackTraces = false) (oo1 : Nat) (hh1 : xIs5 D ad N Sh oo1) (pp2 : Int32) (σ : xS) : xKI l yL_tryDone (Cond.codeWith yL_tryDone cL_tryDone 3 (some .int) [(0, 5, 6, 13)] :: wG) rm_L_tryDone 1 6 D ad N Sh [.ref (ad oo1), .int pp2] σ (F_L_tryDone oo1 pp2 σ) := by
  refine x_startH (own := RL) (maxL := 3) (by decide) rfl rfl rfl (Nat.le_of_ble_eq_true rfl) rfl hI (fun Γ hl hnL hXT X => ?_)
  subst hl
  unfold F_L_tryDone
  refine xr_aload_n (pc := 0) X (i := 0) 0 rfl rfl dL_tryDone_0 ?_
  refine xr_iload_n (pc := 1) X (i := 1) 1 rfl rfl dL_tryDone_1 ?_
  refine xr_callHVI (na := 1) (pc := 2) X (oo1) [.int pp2] _ (c_X5_doneIn Γ.2.1 hI hst oo1 hh1 pp2 σ) (wG_V wm_19_12 wm_19_9 wm_19_10 wm_19_11 wm_1_2) rfl rfl rfl (by decide +kernel) ⟨Nat.le_of_ble_eq_true rfl, Nat.le_of_ble_eq_true rfl⟩ hh1.1.1 hh1.1.2 rfl (T := TX5) (C := RX5) rfl rfl rfl (Nat.le_of_ble_eq_true rfl) ⟨Nat.le_of_ble_eq_true rfl, Nat.le_of_ble_eq_true rfl⟩ dL_tryDone_2 (fun zz2 σ1 => ?_) (fun ee5 σ3 qq4 => ?_)
  · exact xr_iret (pc := 5) X (Nat.le_of_ble_eq_true rfl) (Nat.le_of_ble_eq_true rfl) dL_tryDone_5
  refine xKX_if (fun hee6 => ?_) (fun hee6 => ?_)
  · subst hee6
    refine xKX_hat (hp := 6) (x_hat (E := "java/lang/IndexOutOfBoundsException") (name := "java/lang/IndexOutOfBoundsException") X hXT [] ⟨0, 5, 6, 13⟩ [] rfl (fun z hz => absurd hz List.not_mem_nil) (by decide) (by decide) wm_14_6 29 rfl rfl) ?_
    refine x_sub [] rfl ?_
    refine xr_astore_n (pc := 6) X (hf := rfl) (i := 2) (lv2 := [(2, .ref qq4)]) [0] (Nat.le_of_ble_eq_true rfl) hnL rfl dL_tryDone_6 ?_
    refine xr_ldc (pc := 7) X dL_tryDone_7 (List.mem_cons_of_mem _ wm_14_7) ?_
    exact xr_iret (pc := 9) X (Nat.le_of_ble_eq_true rfl) (Nat.le_of_ble_eq_true rfl) dL_tryDone_9
  exact xKX_none
def F_L_tryThere (oo1 : Nat) (pp2 : Int32) (pp3 : Int32) (σ : xS) : Option (Int32 × xS) :=
  xbH (F_X5_thereIn oo1 pp2 pp3 σ) (fun (zz2 : Int32) (σ1 : xS) => some (zz2, σ1))
 (fun (ee5 : Nat) (σ3 : xS) => (if ee5 = 1 then (some ((-9999001 : Int32), σ3)) else (if ee5 = 2 then (some ((-9999002 : Int32), σ3)) else none)))
abbrev rm_L_tryThere : Room := { frames := 8, cells := 1, slots := 6, locals := 148 }
set_option maxHeartbeats 4000000 in
set_option maxRecDepth 100000 in
theorem c_L_tryThere (l : Launch) {D : va_G} {ad : Nat → Nat} {N : Nat} {Sh : xSh} (hI : ∀ i j, i < N → j < N → ad i = ad j → i = j) (hst : l.stackTraces = false) (oo1 : Nat) (hh1 : xIs5 D ad N Sh oo1) (pp2 : Int32) (pp3 : Int32) (σ : xS) : xKI l yL_tryThere (Cond.codeWith yL_tryThere cL_tryThere 4 (some .int) [(0, 6, 7, 13), (0, 6, 11, 20)] :: wG) rm_L_tryThere 1 6 D ad N Sh [.ref (ad oo1), .int pp2, .int pp3] σ (F_L_tryThere oo1 pp2 pp3 σ) := by
  refine x_startH (own := RL) (maxL := 4) (by decide) rfl rfl rfl (Nat.le_of_ble_eq_true rfl) rfl hI (fun Γ hl hnL hXT X => ?_)
  subst hl
  unfold F_L_tryThere
  refine xr_aload_n (pc := 0) X (i := 0) 0 rfl rfl dL_tryThere_0 ?_
  refine xr_iload_n (pc := 1) X (i := 1) 1 rfl rfl dL_tryThere_1 ?_
  refine xr_iload_n (pc := 2) X (i := 2) 2 rfl rfl dL_tryThere_2 ?_
  refine xr_callHVI (na := 2) (pc := 3) X (oo1) [.int pp2, .int pp3] _ (c_X5_thereIn Γ.2.1 hI hst oo1 hh1 pp2 pp3 σ) (wG_V wm_20_8 wm_20_5 wm_20_6 wm_20_7 wm_1_2) rfl rfl rfl (by decide +kernel) ⟨Nat.le_of_ble_eq_true rfl, Nat.le_of_ble_eq_true rfl⟩ hh1.1.1 hh1.1.2 rfl (T := TX5) (C := RX5) rfl rfl rfl (Nat.le_of_ble_eq_true rfl) ⟨Nat.le_of_ble_eq_true rfl, Nat.le_of_ble_eq_true rfl⟩ dL_tryThere_3 (fun zz2 σ1 => ?_) (fun ee5 σ3 qq4 => ?_)
  · exact xr_iret (pc := 6) X (Nat.le_of_ble_eq_true rfl) (Nat.le_of_ble_eq_true rfl) dL_tryThere_6
  refine xKX_if (fun hee6 => ?_) (fun hee6 => ?_)
  · subst hee6
    refine xKX_hat (hp := 7) (x_hat (E := "java/lang/IndexOutOfBoundsException") (name := "java/lang/IndexOutOfBoundsException") X hXT [] ⟨0, 6, 7, 13⟩ [⟨0, 6, 11, 20⟩] rfl (fun z hz => absurd hz List.not_mem_nil) (by decide) (by decide) wm_14_6 29 rfl rfl) ?_
    refine x_sub [] rfl ?_
    refine xr_astore_n (pc := 7) X (hf := rfl) (i := 3) (lv2 := [(3, .ref qq4)]) [0] (Nat.le_of_ble_eq_true rfl) hnL rfl dL_tryThere_7 ?_
    refine xr_ldc (pc := 8) X dL_tryThere_8 (List.mem_cons_of_mem _ wm_14_7) ?_
    exact xr_iret (pc := 10) X (Nat.le_of_ble_eq_true rfl) (Nat.le_of_ble_eq_true rfl) dL_tryThere_10
  refine xKX_if (fun hee7 => ?_) (fun hee7 => ?_)
  · subst hee7
    refine xKX_hat (hp := 11) (x_hat (E := "java/lang/IllegalArgumentException") (name := "java/lang/IllegalArgumentException") X hXT [⟨0, 6, 7, 13⟩] ⟨0, 6, 11, 20⟩ [] rfl (fun z hz => by rw [List.mem_singleton.mp hz]; exact ⟨by decide, _, wm_14_6, (xNC_of X).2.2.1⟩) (by decide) (by decide) wm_6_3 30 rfl rfl) ?_
    refine x_sub [] rfl ?_
    refine xr_astore_n (pc := 11) X (hf := rfl) (i := 3) (lv2 := [(3, .ref qq4)]) [0] (Nat.le_of_ble_eq_true rfl) hnL rfl dL_tryThere_11 ?_
    refine xr_ldc (pc := 12) X dL_tryThere_12 (List.mem_cons_of_mem _ wm_6_5) ?_
    exact xr_iret (pc := 14) X (Nat.le_of_ble_eq_true rfl) (Nat.le_of_ble_eq_true rfl) dL_tryThere_14
  exact xKX_none
def F_L_tryIf (oo1 : Nat) (pp2 : Int32) (pp3 : Int32) (σ : xS) : Option (Int32 × xS) :=
  xbH (F_X5_ifHeld oo1 pp2 pp3 σ) (fun (zz2 : Int32) (σ1 : xS) => some (zz2, σ1))
 (fun (ee5 : Nat) (σ3 : xS) => (if ee5 = 1 then (some ((-9999001 : Int32), σ3)) else (if ee5 = 2 then (some ((-9999002 : Int32), σ3)) else none)))
abbrev rm_L_tryIf : Room := { frames := 9, cells := 2, slots := 12, locals := 148 }
set_option maxHeartbeats 4000000 in
set_option maxRecDepth 100000 in
theorem c_L_tryIf (l : Launch) {D : va_G} {ad : Nat → Nat} {N : Nat} {Sh : xSh} (hI : ∀ i j, i < N → j < N → ad i = ad j → i = j) (hst : l.stackTraces = false) (oo1 : Nat) (hh1 : xIs5 D ad N Sh oo1) (pp2 : Int32) (pp3 : Int32) (σ : xS) : xKI l yL_tryIf (Cond.codeWith yL_tryIf cL_tryIf 4 (some .int) [(0, 6, 7, 13), (0, 6, 11, 20)] :: wG) rm_L_tryIf 2 12 D ad N Sh [.ref (ad oo1), .int pp2, .int pp3] σ (F_L_tryIf oo1 pp2 pp3 σ) := by
  refine x_startH (own := RL) (maxL := 4) (by decide) rfl rfl rfl (Nat.le_of_ble_eq_true rfl) rfl hI (fun Γ hl hnL hXT X => ?_)
  subst hl
  unfold F_L_tryIf
  refine xr_aload_n (pc := 0) X (i := 0) 0 rfl rfl dL_tryIf_0 ?_
  refine xr_iload_n (pc := 1) X (i := 1) 1 rfl rfl dL_tryIf_1 ?_
  refine xr_iload_n (pc := 2) X (i := 2) 2 rfl rfl dL_tryIf_2 ?_
  refine xr_callHVI (na := 2) (pc := 3) X (oo1) [.int pp2, .int pp3] _ (c_X5_ifHeld Γ.2.1 hI hst oo1 hh1 pp2 pp3 σ) (wG_V wm_20_19 wm_20_16 wm_20_17 wm_20_18 wm_1_2) rfl rfl rfl (by decide +kernel) ⟨Nat.le_of_ble_eq_true rfl, Nat.le_of_ble_eq_true rfl⟩ hh1.1.1 hh1.1.2 rfl (T := TX5) (C := RX5) rfl rfl rfl (Nat.le_of_ble_eq_true rfl) ⟨Nat.le_of_ble_eq_true rfl, Nat.le_of_ble_eq_true rfl⟩ dL_tryIf_3 (fun zz2 σ1 => ?_) (fun ee5 σ3 qq4 => ?_)
  · exact xr_iret (pc := 6) X (Nat.le_of_ble_eq_true rfl) (Nat.le_of_ble_eq_true rfl) dL_tryIf_6
  refine xKX_if (fun hee6 => ?_) (fun hee6 => ?_)
  · subst hee6
    refine xKX_hat (hp := 7) (x_hat (E := "java/lang/IndexOutOfBoundsException") (name := "java/lang/IndexOutOfBoundsException") X hXT [] ⟨0, 6, 7, 13⟩ [⟨0, 6, 11, 20⟩] rfl (fun z hz => absurd hz List.not_mem_nil) (by decide) (by decide) wm_14_6 29 rfl rfl) ?_
    refine x_sub [] rfl ?_
    refine xr_astore_n (pc := 7) X (hf := rfl) (i := 3) (lv2 := [(3, .ref qq4)]) [0] (Nat.le_of_ble_eq_true rfl) hnL rfl dL_tryIf_7 ?_
    refine xr_ldc (pc := 8) X dL_tryIf_8 (List.mem_cons_of_mem _ wm_14_7) ?_
    exact xr_iret (pc := 10) X (Nat.le_of_ble_eq_true rfl) (Nat.le_of_ble_eq_true rfl) dL_tryIf_10
  refine xKX_if (fun hee7 => ?_) (fun hee7 => ?_)
  · subst hee7
    refine xKX_hat (hp := 11) (x_hat (E := "java/lang/IllegalArgumentException") (name := "java/lang/IllegalArgumentException") X hXT [⟨0, 6, 7, 13⟩] ⟨0, 6, 11, 20⟩ [] rfl (fun z hz => by rw [List.mem_singleton.mp hz]; exact ⟨by decide, _, wm_14_6, (xNC_of X).2.2.1⟩) (by decide) (by decide) wm_6_3 30 rfl rfl) ?_
    refine x_sub [] rfl ?_
    refine xr_astore_n (pc := 11) X (hf := rfl) (i := 3) (lv2 := [(3, .ref qq4)]) [0] (Nat.le_of_ble_eq_true rfl) hnL rfl dL_tryIf_11 ?_
    refine xr_ldc (pc := 12) X dL_tryIf_12 (List.mem_cons_of_mem _ wm_6_5) ?_
    exact xr_iret (pc := 14) X (Nat.le_of_ble_eq_true rfl) (Nat.le_of_ble_eq_true rfl) dL_tryIf_14
  exact xKX_none
def F_L_tryBest (oo1 : Nat) (pp2 : Int32) (pp3 : Int32) (σ : xS) : Option (Int32 × xS) :=
  xbH (F_X5_best oo1 pp2 pp3 σ) (fun (zz2 : Int32) (σ1 : xS) => some (zz2, σ1))
 (fun (ee5 : Nat) (σ3 : xS) => (if ee5 = 1 then (some ((-9999001 : Int32), σ3)) else (if ee5 = 2 then (some ((-9999002 : Int32), σ3)) else none)))
abbrev rm_L_tryBest : Room := { frames := 9, cells := 2, slots := 12, locals := 150 }
set_option maxHeartbeats 4000000 in
set_option maxRecDepth 100000 in
theorem c_L_tryBest (l : Launch) {D : va_G} {ad : Nat → Nat} {N : Nat} {Sh : xSh} (hI : ∀ i j, i < N → j < N → ad i = ad j → i = j) (hst : l.stackTraces = false) (oo1 : Nat) (hh1 : xIs5 D ad N Sh oo1) (pp2 : Int32) (pp3 : Int32) (σ : xS) : xKI l yL_tryBest (Cond.codeWith yL_tryBest cL_tryBest 4 (some .int) [(0, 6, 7, 13), (0, 6, 11, 20)] :: wG) rm_L_tryBest 2 12 D ad N Sh [.ref (ad oo1), .int pp2, .int pp3] σ (F_L_tryBest oo1 pp2 pp3 σ) := by
  refine x_startH (own := RL) (maxL := 4) (by decide) rfl rfl rfl (Nat.le_of_ble_eq_true rfl) rfl hI (fun Γ hl hnL hXT X => ?_)
  subst hl
  unfold F_L_tryBest
  refine xr_aload_n (pc := 0) X (i := 0) 0 rfl rfl dL_tryBest_0 ?_
  refine xr_iload_n (pc := 1) X (i := 1) 1 rfl rfl dL_tryBest_1 ?_
  refine xr_iload_n (pc := 2) X (i := 2) 2 rfl rfl dL_tryBest_2 ?_
  refine xr_callHVI (na := 2) (pc := 3) X (oo1) [.int pp2, .int pp3] _ (c_X5_best Γ.2.1 hI hst oo1 hh1 pp2 pp3 σ) (wG_V wm_21_3 wm_21_0 wm_21_1 wm_21_2 wm_1_2) rfl rfl rfl (by decide +kernel) ⟨Nat.le_of_ble_eq_true rfl, Nat.le_of_ble_eq_true rfl⟩ hh1.1.1 hh1.1.2 rfl (T := TX5) (C := RX5) rfl rfl rfl (Nat.le_of_ble_eq_true rfl) ⟨Nat.le_of_ble_eq_true rfl, Nat.le_of_ble_eq_true rfl⟩ dL_tryBest_3 (fun zz2 σ1 => ?_) (fun ee5 σ3 qq4 => ?_)
  · exact xr_iret (pc := 6) X (Nat.le_of_ble_eq_true rfl) (Nat.le_of_ble_eq_true rfl) dL_tryBest_6
  refine xKX_if (fun hee6 => ?_) (fun hee6 => ?_)
  · subst hee6
    refine xKX_hat (hp := 7) (x_hat (E := "java/lang/IndexOutOfBoundsException") (name := "java/lang/IndexOutOfBoundsException") X hXT [] ⟨0, 6, 7, 13⟩ [⟨0, 6, 11, 20⟩] rfl (fun z hz => absurd hz List.not_mem_nil) (by decide) (by decide) wm_14_6 29 rfl rfl) ?_
    refine x_sub [] rfl ?_
    refine xr_astore_n (pc := 7) X (hf := rfl) (i := 3) (lv2 := [(3, .ref qq4)]) [0] (Nat.le_of_ble_eq_true rfl) hnL rfl dL_tryBest_7 ?_
    refine xr_ldc (pc := 8) X dL_tryBest_8 (List.mem_cons_of_mem _ wm_14_7) ?_
    exact xr_iret (pc := 10) X (Nat.le_of_ble_eq_true rfl) (Nat.le_of_ble_eq_true rfl) dL_tryBest_10
  refine xKX_if (fun hee7 => ?_) (fun hee7 => ?_)
  · subst hee7
    refine xKX_hat (hp := 11) (x_hat (E := "java/lang/IllegalArgumentException") (name := "java/lang/IllegalArgumentException") X hXT [⟨0, 6, 7, 13⟩] ⟨0, 6, 11, 20⟩ [] rfl (fun z hz => by rw [List.mem_singleton.mp hz]; exact ⟨by decide, _, wm_14_6, (xNC_of X).2.2.1⟩) (by decide) (by decide) wm_6_3 30 rfl rfl) ?_
    refine x_sub [] rfl ?_
    refine xr_astore_n (pc := 11) X (hf := rfl) (i := 3) (lv2 := [(3, .ref qq4)]) [0] (Nat.le_of_ble_eq_true rfl) hnL rfl dL_tryBest_11 ?_
    refine xr_ldc (pc := 12) X dL_tryBest_12 (List.mem_cons_of_mem _ wm_6_5) ?_
    exact xr_iret (pc := 14) X (Nat.le_of_ble_eq_true rfl) (Nat.le_of_ble_eq_true rfl) dL_tryBest_14
  exact xKX_none
def F_L_tryKeep (oo1 : Nat) (pp2 : Int32) (σ : xS) : Option (Int32 × xS) :=
  xbH (F_X5_save oo1 pp2 σ) (fun (zz2 : Int32) (σ1 : xS) => some (zz2, σ1))
 (fun (ee5 : Nat) (σ3 : xS) => (if ee5 = 1 then (some ((-9999001 : Int32), σ3)) else none))
abbrev rm_L_tryKeep : Room := { frames := 9, cells := 1, slots := 6, locals := 143 }
set_option maxHeartbeats 4000000 in
set_option maxRecDepth 100000 in
theorem c_L_tryKeep (l : Launch) {D : va_G} {ad : Nat → Nat} {N : Nat} {Sh : xSh} (hI : ∀ i j, i < N → j < N → ad i = ad j → i = j) (hst : l.stackTraces = false) (oo1 : Nat) (hh1 : xIs5 D ad N Sh oo1) (pp2 : Int32) (σ : xS) : xKI l yL_tryKeep (Cond.codeWith yL_tryKeep cL_tryKeep 3 (some .int) [(0, 5, 6, 13)] :: wG) rm_L_tryKeep 1 6 D ad N Sh [.ref (ad oo1), .int pp2] σ (F_L_tryKeep oo1 pp2 σ) := by
  refine x_startH (own := RL) (maxL := 3) (by decide) rfl rfl rfl (Nat.le_of_ble_eq_true rfl) rfl hI (fun Γ hl hnL hXT X => ?_)
  subst hl
  unfold F_L_tryKeep
  refine xr_aload_n (pc := 0) X (i := 0) 0 rfl rfl dL_tryKeep_0 ?_
  refine xr_iload_n (pc := 1) X (i := 1) 1 rfl rfl dL_tryKeep_1 ?_
  refine xr_callHVI (na := 1) (pc := 2) X (oo1) [.int pp2] _ (c_X5_save Γ.2.1 hI hst oo1 hh1 pp2 σ) (wG_V wm_21_12 wm_21_9 wm_21_10 wm_21_11 wm_1_2) rfl rfl rfl (by decide +kernel) ⟨Nat.le_of_ble_eq_true rfl, Nat.le_of_ble_eq_true rfl⟩ hh1.1.1 hh1.1.2 rfl (T := TX5) (C := RX5) rfl rfl rfl (Nat.le_of_ble_eq_true rfl) ⟨Nat.le_of_ble_eq_true rfl, Nat.le_of_ble_eq_true rfl⟩ dL_tryKeep_2 (fun zz2 σ1 => ?_) (fun ee5 σ3 qq4 => ?_)
  · exact xr_iret (pc := 5) X (Nat.le_of_ble_eq_true rfl) (Nat.le_of_ble_eq_true rfl) dL_tryKeep_5
  refine xKX_if (fun hee6 => ?_) (fun hee6 => ?_)
  · subst hee6
    refine xKX_hat (hp := 6) (x_hat (E := "java/lang/IndexOutOfBoundsException") (name := "java/lang/IndexOutOfBoundsException") X hXT [] ⟨0, 5, 6, 13⟩ [] rfl (fun z hz => absurd hz List.not_mem_nil) (by decide) (by decide) wm_14_6 29 rfl rfl) ?_
    refine x_sub [] rfl ?_
    refine xr_astore_n (pc := 6) X (hf := rfl) (i := 2) (lv2 := [(2, .ref qq4)]) [0] (Nat.le_of_ble_eq_true rfl) hnL rfl dL_tryKeep_6 ?_
    refine xr_ldc (pc := 7) X dL_tryKeep_7 (List.mem_cons_of_mem _ wm_14_7) ?_
    exact xr_iret (pc := 9) X (Nat.le_of_ble_eq_true rfl) (Nat.le_of_ble_eq_true rfl) dL_tryKeep_9
  exact xKX_none
def F_L_tryBack (oo1 : Nat) (pp2 : Int32) (σ : xS) : Option (Int32 × xS) :=
  xbH (F_X5_restore oo1 pp2 σ) (fun (zz2 : Int32) (σ1 : xS) => some (zz2, σ1))
 (fun (ee5 : Nat) (σ3 : xS) => (if ee5 = 1 then (some ((-9999001 : Int32), σ3)) else (if ee5 = 3 then (some ((-9999003 : Int32), σ3)) else none)))
abbrev rm_L_tryBack : Room := { frames := 9, cells := 2, slots := 12, locals := 143 }
set_option maxHeartbeats 4000000 in
set_option maxRecDepth 100000 in
theorem c_L_tryBack (l : Launch) {D : va_G} {ad : Nat → Nat} {N : Nat} {Sh : xSh} (hI : ∀ i j, i < N → j < N → ad i = ad j → i = j) (hst : l.stackTraces = false) (oo1 : Nat) (hh1 : xIs5 D ad N Sh oo1) (pp2 : Int32) (σ : xS) : xKI l yL_tryBack (Cond.codeWith yL_tryBack cL_tryBack 3 (some .int) [(0, 5, 6, 13), (0, 5, 10, 31)] :: wG) rm_L_tryBack 2 12 D ad N Sh [.ref (ad oo1), .int pp2] σ (F_L_tryBack oo1 pp2 σ) := by
  refine x_startH (own := RL) (maxL := 3) (by decide) rfl rfl rfl (Nat.le_of_ble_eq_true rfl) rfl hI (fun Γ hl hnL hXT X => ?_)
  subst hl
  unfold F_L_tryBack
  refine xr_aload_n (pc := 0) X (i := 0) 0 rfl rfl dL_tryBack_0 ?_
  refine xr_iload_n (pc := 1) X (i := 1) 1 rfl rfl dL_tryBack_1 ?_
  refine xr_callHVI (na := 1) (pc := 2) X (oo1) [.int pp2] _ (c_X5_restore Γ.2.1 hI hst oo1 hh1 pp2 σ) (wG_V wm_21_19 wm_21_16 wm_21_17 wm_21_18 wm_1_2) rfl rfl rfl (by decide +kernel) ⟨Nat.le_of_ble_eq_true rfl, Nat.le_of_ble_eq_true rfl⟩ hh1.1.1 hh1.1.2 rfl (T := TX5) (C := RX5) rfl rfl rfl (Nat.le_of_ble_eq_true rfl) ⟨Nat.le_of_ble_eq_true rfl, Nat.le_of_ble_eq_true rfl⟩ dL_tryBack_2 (fun zz2 σ1 => ?_) (fun ee5 σ3 qq4 => ?_)
  · exact xr_iret (pc := 5) X (Nat.le_of_ble_eq_true rfl) (Nat.le_of_ble_eq_true rfl) dL_tryBack_5
  refine xKX_if (fun hee6 => ?_) (fun hee6 => ?_)
  · subst hee6
    refine xKX_hat (hp := 6) (x_hat (E := "java/lang/IndexOutOfBoundsException") (name := "java/lang/IndexOutOfBoundsException") X hXT [] ⟨0, 5, 6, 13⟩ [⟨0, 5, 10, 31⟩] rfl (fun z hz => absurd hz List.not_mem_nil) (by decide) (by decide) wm_14_6 29 rfl rfl) ?_
    refine x_sub [] rfl ?_
    refine xr_astore_n (pc := 6) X (hf := rfl) (i := 2) (lv2 := [(2, .ref qq4)]) [0] (Nat.le_of_ble_eq_true rfl) hnL rfl dL_tryBack_6 ?_
    refine xr_ldc (pc := 7) X dL_tryBack_7 (List.mem_cons_of_mem _ wm_14_7) ?_
    exact xr_iret (pc := 9) X (Nat.le_of_ble_eq_true rfl) (Nat.le_of_ble_eq_true rfl) dL_tryBack_9
  refine xKX_if (fun hee7 => ?_) (fun hee7 => ?_)
  · subst hee7
    refine xKX_hat (hp := 10) (x_hat (E := "java/lang/IllegalStateException") (name := "java/lang/IllegalStateException") X hXT [⟨0, 5, 6, 13⟩] ⟨0, 5, 10, 31⟩ [] rfl (fun z hz => by rw [List.mem_singleton.mp hz]; exact ⟨by decide, _, wm_14_6, (xNC_of X).2.2.2.2.1⟩) (by decide) (by decide) wm_6_4 31 rfl rfl) ?_
    refine x_sub [] rfl ?_
    refine xr_astore_n (pc := 10) X (hf := rfl) (i := 2) (lv2 := [(2, .ref qq4)]) [0] (Nat.le_of_ble_eq_true rfl) hnL rfl dL_tryBack_10 ?_
    refine xr_ldc (pc := 11) X dL_tryBack_11 (List.mem_cons_of_mem _ wm_6_6) ?_
    exact xr_iret (pc := 13) X (Nat.le_of_ble_eq_true rfl) (Nat.le_of_ble_eq_true rfl) dL_tryBack_13
  exact xKX_none
def F_L_call (oo1 : Nat) (pp2 : Int32) (pp3 : Int32) (pp4 : Int32) (pp5 : Int32) (σ : xS) : Option (Int32 × xS) :=
  if pp2 = 0 then (xbI (F_L_tryAppend oo1 pp3 σ) (fun (zz2 : Int32) (σ1 : xS) => some (zz2, σ1)))
 else (if pp2 = 1 then (xbI (F_L_tryLoad oo1 σ) (fun (zz5 : Int32) (σ4 : xS) => some (zz5, σ4)))
 else (if pp2 = 2 then (xbI (F_L_tryAbout oo1 pp3 σ) (fun (zz8 : Int32) (σ7 : xS) => some (zz8, σ7)))
 else (if pp2 = 3 then (xbI (F_L_tryWriter oo1 pp3 pp4 σ) (fun (zz11 : Int32) (σ10 : xS) => some (zz11, σ10)))
 else (if pp2 = 4 then (xbI (F_L_tryDesk oo1 pp3 pp4 σ) (fun (zz14 : Int32) (σ13 : xS) => some (zz14, σ13)))
 else (if pp2 = 5 then (xbI (F_L_tryLetter oo1 pp3 pp4 pp5 σ) (fun (zz17 : Int32) (σ16 : xS) => some (zz17, σ16)))
 else (if pp2 = 6 then (xbI (F_L_tryPlanned oo1 pp3 pp4 σ) (fun (zz20 : Int32) (σ19 : xS) => some (zz20, σ19)))
 else (if pp2 = 7 then (xbI (F_L_trySetting oo1 pp3 σ) (fun (zz23 : Int32) (σ22 : xS) => some (zz23, σ22)))
 else (if pp2 = 8 then (xbI (F_L_tryPost oo1 pp3 σ) (fun (zz26 : Int32) (σ25 : xS) => some (zz26, σ25)))
 else (if pp2 = 9 then (xbI (F_L_tryWrite oo1 pp3 pp4 σ) (fun (zz29 : Int32) (σ28 : xS) => some (zz29, σ28)))
 else (if pp2 = 10 then (xbI (F_L_tryPlan oo1 pp3 pp4 pp5 σ) (fun (zz32 : Int32) (σ31 : xS) => some (zz32, σ31)))
 else (if pp2 = 11 then (xbI (F_L_tryFlush oo1 pp3 σ) (fun (zz35 : Int32) (σ34 : xS) => some (zz35, σ34)))
 else (if pp2 = 12 then (xbI (F_L_tryTicks oo1 pp3 σ) (fun (zz38 : Int32) (σ37 : xS) => some (zz38, σ37)))
 else (if pp2 = 13 then (xbI (F_L_tryLay oo1 pp3 pp4 σ) (fun (zz41 : Int32) (σ40 : xS) => some (zz41, σ40)))
 else (if pp2 = 14 then (xbI (F_L_tryUndo oo1 σ) (fun (zz44 : Int32) (σ43 : xS) => some (zz44, σ43)))
 else (if pp2 = 15 then (xbI (F_L_tryDone oo1 pp3 σ) (fun (zz47 : Int32) (σ46 : xS) => some (zz47, σ46)))
 else (if pp2 = 16 then (xbI (F_L_tryThere oo1 pp3 pp4 σ) (fun (zz50 : Int32) (σ49 : xS) => some (zz50, σ49)))
 else (if pp2 = 17 then (xbI (F_L_tryIf oo1 pp3 pp4 σ) (fun (zz53 : Int32) (σ52 : xS) => some (zz53, σ52)))
 else (if pp2 = 18 then (xbI (F_L_tryBest oo1 pp3 pp4 σ) (fun (zz56 : Int32) (σ55 : xS) => some (zz56, σ55)))
 else (if pp2 = 19 then (xbI (F_L_tryKeep oo1 pp3 σ) (fun (zz59 : Int32) (σ58 : xS) => some (zz59, σ58)))
 else (xbI (F_L_tryBack oo1 pp3 σ) (fun (zz62 : Int32) (σ61 : xS) => some (zz62, σ61))))))))))))))))))))))
abbrev rm_L_call : Room := { frames := 10, cells := 3, slots := 18, locals := 196 }
set_option maxHeartbeats 4000000 in
set_option maxRecDepth 100000 in
theorem c_L_call (l : Launch) {D : va_G} {ad : Nat → Nat} {N : Nat} {Sh : xSh} (hI : ∀ i j, i < N → j < N → ad i = ad j → i = j) (hst : l.stackTraces = false) (oo1 : Nat) (hh1 : xIs5 D ad N Sh oo1) (pp2 : Int32) (pp3 : Int32) (pp4 : Int32) (pp5 : Int32) (σ : xS) : xKI l yL_call (Cond.code yL_call cL_call 5 (some .int) :: wG) rm_L_call 3 18 D ad N Sh [.ref (ad oo1), .int pp2, .int pp3, .int pp4, .int pp5] σ (F_L_call oo1 pp2 pp3 pp4 pp5 σ) := by
  refine x_startI (own := RL) (maxL := 5) (by decide) rfl rfl (Nat.le_of_ble_eq_true rfl) rfl hI (fun Γ hl hnL X => ?_)
  subst hl
  unfold F_L_call
  refine xr_iload_n (pc := 0) X (i := 1) 1 rfl rfl dL_call_0 ?_
  refine x_if (fun hcc3 => ?_) (fun hcc3 => ?_)
  · refine xr_tin (off := 95) (pc := 1) X 96 dL_call_1 (by rw [hcc3]; decide) (by rw [hcc3]; decide) (by rw [hcc3]; rfl) (by decide) ?_
    refine xr_aload_n (pc := 96) X (i := 0) 0 rfl rfl dL_call_96 ?_
    refine xr_iload_n (pc := 97) X (i := 2) 2 rfl rfl dL_call_97 ?_
    refine xr_callSWI (na := 2) (pc := 98) X [.ref (ad oo1), .int pp3] (c_L_tryAppend Γ.2.1 hI hst oo1 hh1 pp3 σ) (wG_SW wm_6_2 wm_6_0 wm_6_1 wm_5_14) rfl rfl rfl (by decide +kernel) ⟨Nat.le_of_ble_eq_true rfl, Nat.le_of_ble_eq_true rfl⟩ rfl rfl (Nat.le_of_ble_eq_true rfl) ⟨(show _ ≤ 3 by omega), (show _ ≤ 18 by omega)⟩ dL_call_98 (fun zz2 σ1 => ?_)
    exact xr_iret (pc := 101) X (Nat.le_of_ble_eq_true rfl) (Nat.le_of_ble_eq_true rfl) dL_call_101
  refine x_if (fun hcc6 => ?_) (fun hcc6 => ?_)
  · refine xr_tin (off := 101) (pc := 1) X 102 dL_call_1 (by rw [hcc6]; decide) (by rw [hcc6]; decide) (by rw [hcc6]; rfl) (by decide) ?_
    refine xr_aload_n (pc := 102) X (i := 0) 0 rfl rfl dL_call_102 ?_
    refine xr_callSWI (na := 1) (pc := 103) X [.ref (ad oo1)] (c_L_tryLoad Γ.2.1 hI hst oo1 hh1 σ) (wG_SW wm_7_8 wm_7_6 wm_7_7 wm_5_14) rfl rfl rfl (by decide +kernel) ⟨Nat.le_of_ble_eq_true rfl, Nat.le_of_ble_eq_true rfl⟩ rfl rfl (Nat.le_of_ble_eq_true rfl) ⟨(show _ ≤ 3 by omega), (show _ ≤ 18 by omega)⟩ dL_call_103 (fun zz5 σ4 => ?_)
    exact xr_iret (pc := 106) X (Nat.le_of_ble_eq_true rfl) (Nat.le_of_ble_eq_true rfl) dL_call_106
  refine x_if (fun hcc9 => ?_) (fun hcc9 => ?_)
  · refine xr_tin (off := 106) (pc := 1) X 107 dL_call_1 (by rw [hcc9]; decide) (by rw [hcc9]; decide) (by rw [hcc9]; rfl) (by decide) ?_
    refine xr_aload_n (pc := 107) X (i := 0) 0 rfl rfl dL_call_107 ?_
    refine xr_iload_n (pc := 108) X (i := 2) 2 rfl rfl dL_call_108 ?_
    refine xr_callSWI (na := 2) (pc := 109) X [.ref (ad oo1), .int pp3] (c_L_tryAbout Γ.2.1 hI hst oo1 hh1 pp3 σ) (wG_SW wm_13_6 wm_13_4 wm_13_5 wm_5_14) rfl rfl rfl (by decide +kernel) ⟨Nat.le_of_ble_eq_true rfl, Nat.le_of_ble_eq_true rfl⟩ rfl rfl (Nat.le_of_ble_eq_true rfl) ⟨(show _ ≤ 3 by omega), (show _ ≤ 18 by omega)⟩ dL_call_109 (fun zz8 σ7 => ?_)
    exact xr_iret (pc := 112) X (Nat.le_of_ble_eq_true rfl) (Nat.le_of_ble_eq_true rfl) dL_call_112
  refine x_if (fun hcc12 => ?_) (fun hcc12 => ?_)
  · refine xr_tin (off := 112) (pc := 1) X 113 dL_call_1 (by rw [hcc12]; decide) (by rw [hcc12]; decide) (by rw [hcc12]; rfl) (by decide) ?_
    refine xr_aload_n (pc := 113) X (i := 0) 0 rfl rfl dL_call_113 ?_
    refine xr_iload_n (pc := 114) X (i := 2) 2 rfl rfl dL_call_114 ?_
    refine xr_iload_n (pc := 115) X (i := 3) 3 rfl rfl dL_call_115 ?_
    refine xr_callSWI (na := 3) (pc := 116) X [.ref (ad oo1), .int pp3, .int pp4] (c_L_tryWriter Γ.2.1 hI hst oo1 hh1 pp3 pp4 σ) (wG_SW wm_14_5 wm_14_3 wm_14_4 wm_5_14) rfl rfl rfl (by decide +kernel) ⟨Nat.le_of_ble_eq_true rfl, Nat.le_of_ble_eq_true rfl⟩ rfl rfl (Nat.le_of_ble_eq_true rfl) ⟨(show _ ≤ 3 by omega), (show _ ≤ 18 by omega)⟩ dL_call_116 (fun zz11 σ10 => ?_)
    exact xr_iret (pc := 119) X (Nat.le_of_ble_eq_true rfl) (Nat.le_of_ble_eq_true rfl) dL_call_119
  refine x_if (fun hcc15 => ?_) (fun hcc15 => ?_)
  · refine xr_tin (off := 119) (pc := 1) X 120 dL_call_1 (by rw [hcc15]; decide) (by rw [hcc15]; decide) (by rw [hcc15]; rfl) (by decide) ?_
    refine xr_aload_n (pc := 120) X (i := 0) 0 rfl rfl dL_call_120 ?_
    refine xr_iload_n (pc := 121) X (i := 2) 2 rfl rfl dL_call_121 ?_
    refine xr_iload_n (pc := 122) X (i := 3) 3 rfl rfl dL_call_122 ?_
    refine xr_callSWI (na := 3) (pc := 123) X [.ref (ad oo1), .int pp3, .int pp4] (c_L_tryDesk Γ.2.1 hI hst oo1 hh1 pp3 pp4 σ) (wG_SW wm_14_16 wm_14_14 wm_14_15 wm_5_14) rfl rfl rfl (by decide +kernel) ⟨Nat.le_of_ble_eq_true rfl, Nat.le_of_ble_eq_true rfl⟩ rfl rfl (Nat.le_of_ble_eq_true rfl) ⟨(show _ ≤ 3 by omega), (show _ ≤ 18 by omega)⟩ dL_call_123 (fun zz14 σ13 => ?_)
    exact xr_iret (pc := 126) X (Nat.le_of_ble_eq_true rfl) (Nat.le_of_ble_eq_true rfl) dL_call_126
  refine x_if (fun hcc18 => ?_) (fun hcc18 => ?_)
  · refine xr_tin (off := 126) (pc := 1) X 127 dL_call_1 (by rw [hcc18]; decide) (by rw [hcc18]; decide) (by rw [hcc18]; rfl) (by decide) ?_
    refine xr_aload_n (pc := 127) X (i := 0) 0 rfl rfl dL_call_127 ?_
    refine xr_iload_n (pc := 128) X (i := 2) 2 rfl rfl dL_call_128 ?_
    refine xr_iload_n (pc := 129) X (i := 3) 3 rfl rfl dL_call_129 ?_
    refine xr_iload (pc := 130) X (i := 4) 4 rfl dL_call_130 ?_
    refine xr_callSWI (na := 4) (pc := 132) X [.ref (ad oo1), .int pp3, .int pp4, .int pp5] (c_L_tryLetter Γ.2.1 hI hst oo1 hh1 pp3 pp4 pp5 σ) (wG_SW wm_15_0 wm_14_22 wm_14_23 wm_5_14) rfl rfl rfl (by decide +kernel) ⟨Nat.le_of_ble_eq_true rfl, Nat.le_of_ble_eq_true rfl⟩ rfl rfl (Nat.le_of_ble_eq_true rfl) ⟨(show _ ≤ 3 by omega), (show _ ≤ 18 by omega)⟩ dL_call_132 (fun zz17 σ16 => ?_)
    exact xr_iret (pc := 135) X (Nat.le_of_ble_eq_true rfl) (Nat.le_of_ble_eq_true rfl) dL_call_135
  refine x_if (fun hcc21 => ?_) (fun hcc21 => ?_)
  · refine xr_tin (off := 135) (pc := 1) X 136 dL_call_1 (by rw [hcc21]; decide) (by rw [hcc21]; decide) (by rw [hcc21]; rfl) (by decide) ?_
    refine xr_aload_n (pc := 136) X (i := 0) 0 rfl rfl dL_call_136 ?_
    refine xr_iload_n (pc := 137) X (i := 2) 2 rfl rfl dL_call_137 ?_
    refine xr_iload_n (pc := 138) X (i := 3) 3 rfl rfl dL_call_138 ?_
    refine xr_callSWI (na := 3) (pc := 139) X [.ref (ad oo1), .int pp3, .int pp4] (c_L_tryPlanned Γ.2.1 hI hst oo1 hh1 pp3 pp4 σ) (wG_SW wm_15_9 wm_15_7 wm_15_8 wm_5_14) rfl rfl rfl (by decide +kernel) ⟨Nat.le_of_ble_eq_true rfl, Nat.le_of_ble_eq_true rfl⟩ rfl rfl (Nat.le_of_ble_eq_true rfl) ⟨(show _ ≤ 3 by omega), (show _ ≤ 18 by omega)⟩ dL_call_139 (fun zz20 σ19 => ?_)
    exact xr_iret (pc := 142) X (Nat.le_of_ble_eq_true rfl) (Nat.le_of_ble_eq_true rfl) dL_call_142
  refine x_if (fun hcc24 => ?_) (fun hcc24 => ?_)
  · refine xr_tin (off := 142) (pc := 1) X 143 dL_call_1 (by rw [hcc24]; decide) (by rw [hcc24]; decide) (by rw [hcc24]; rfl) (by decide) ?_
    refine xr_aload_n (pc := 143) X (i := 0) 0 rfl rfl dL_call_143 ?_
    refine xr_iload_n (pc := 144) X (i := 2) 2 rfl rfl dL_call_144 ?_
    refine xr_callSWI (na := 2) (pc := 145) X [.ref (ad oo1), .int pp3] (c_L_trySetting Γ.2.1 hI hst oo1 hh1 pp3 σ) (wG_SW wm_15_17 wm_15_15 wm_15_16 wm_5_14) rfl rfl rfl (by decide +kernel) ⟨Nat.le_of_ble_eq_true rfl, Nat.le_of_ble_eq_true rfl⟩ rfl rfl (Nat.le_of_ble_eq_true rfl) ⟨(show _ ≤ 3 by omega), (show _ ≤ 18 by omega)⟩ dL_call_145 (fun zz23 σ22 => ?_)
    exact xr_iret (pc := 148) X (Nat.le_of_ble_eq_true rfl) (Nat.le_of_ble_eq_true rfl) dL_call_148
  refine x_if (fun hcc27 => ?_) (fun hcc27 => ?_)
  · refine xr_tin (off := 148) (pc := 1) X 149 dL_call_1 (by rw [hcc27]; decide) (by rw [hcc27]; decide) (by rw [hcc27]; rfl) (by decide) ?_
    refine xr_aload_n (pc := 149) X (i := 0) 0 rfl rfl dL_call_149 ?_
    refine xr_iload_n (pc := 150) X (i := 2) 2 rfl rfl dL_call_150 ?_
    refine xr_callSWI (na := 2) (pc := 151) X [.ref (ad oo1), .int pp3] (c_L_tryPost Γ.2.1 hI hst oo1 hh1 pp3 σ) (wG_SW wm_16_0 wm_15_22 wm_15_23 wm_5_14) rfl rfl rfl (by decide +kernel) ⟨Nat.le_of_ble_eq_true rfl, Nat.le_of_ble_eq_true rfl⟩ rfl rfl (Nat.le_of_ble_eq_true rfl) ⟨(show _ ≤ 3 by omega), (show _ ≤ 18 by omega)⟩ dL_call_151 (fun zz26 σ25 => ?_)
    exact xr_iret (pc := 154) X (Nat.le_of_ble_eq_true rfl) (Nat.le_of_ble_eq_true rfl) dL_call_154
  refine x_if (fun hcc30 => ?_) (fun hcc30 => ?_)
  · refine xr_tin (off := 154) (pc := 1) X 155 dL_call_1 (by rw [hcc30]; decide) (by rw [hcc30]; decide) (by rw [hcc30]; rfl) (by decide) ?_
    refine xr_aload_n (pc := 155) X (i := 0) 0 rfl rfl dL_call_155 ?_
    refine xr_iload_n (pc := 156) X (i := 2) 2 rfl rfl dL_call_156 ?_
    refine xr_iload_n (pc := 157) X (i := 3) 3 rfl rfl dL_call_157 ?_
    refine xr_callSWI (na := 3) (pc := 158) X [.ref (ad oo1), .int pp3, .int pp4] (c_L_tryWrite Γ.2.1 hI hst oo1 hh1 pp3 pp4 σ) (wG_SW wm_17_9 wm_17_7 wm_17_8 wm_5_14) rfl rfl rfl (by decide +kernel) ⟨Nat.le_of_ble_eq_true rfl, Nat.le_of_ble_eq_true rfl⟩ rfl rfl (Nat.le_of_ble_eq_true rfl) ⟨(show _ ≤ 3 by omega), (show _ ≤ 18 by omega)⟩ dL_call_158 (fun zz29 σ28 => ?_)
    exact xr_iret (pc := 161) X (Nat.le_of_ble_eq_true rfl) (Nat.le_of_ble_eq_true rfl) dL_call_161
  refine x_if (fun hcc33 => ?_) (fun hcc33 => ?_)
  · refine xr_tin (off := 161) (pc := 1) X 162 dL_call_1 (by rw [hcc33]; decide) (by rw [hcc33]; decide) (by rw [hcc33]; rfl) (by decide) ?_
    refine xr_aload_n (pc := 162) X (i := 0) 0 rfl rfl dL_call_162 ?_
    refine xr_iload_n (pc := 163) X (i := 2) 2 rfl rfl dL_call_163 ?_
    refine xr_iload_n (pc := 164) X (i := 3) 3 rfl rfl dL_call_164 ?_
    refine xr_iload (pc := 165) X (i := 4) 4 rfl dL_call_165 ?_
    refine xr_callSWI (na := 4) (pc := 167) X [.ref (ad oo1), .int pp3, .int pp4, .int pp5] (c_L_tryPlan Γ.2.1 hI hst oo1 hh1 pp3 pp4 pp5 σ) (wG_SW wm_17_16 wm_17_14 wm_17_15 wm_5_14) rfl rfl rfl (by decide +kernel) ⟨Nat.le_of_ble_eq_true rfl, Nat.le_of_ble_eq_true rfl⟩ rfl rfl (Nat.le_of_ble_eq_true rfl) ⟨(show _ ≤ 3 by omega), (show _ ≤ 18 by omega)⟩ dL_call_167 (fun zz32 σ31 => ?_)
    exact xr_iret (pc := 170) X (Nat.le_of_ble_eq_true rfl) (Nat.le_of_ble_eq_true rfl) dL_call_170
  refine x_if (fun hcc36 => ?_) (fun hcc36 => ?_)
  · refine xr_tin (off := 170) (pc := 1) X 171 dL_call_1 (by rw [hcc36]; decide) (by rw [hcc36]; decide) (by rw [hcc36]; rfl) (by decide) ?_
    refine xr_aload_n (pc := 171) X (i := 0) 0 rfl rfl dL_call_171 ?_
    refine xr_iload_n (pc := 172) X (i := 2) 2 rfl rfl dL_call_172 ?_
    refine xr_callSWI (na := 2) (pc := 173) X [.ref (ad oo1), .int pp3] (c_L_tryFlush Γ.2.1 hI hst oo1 hh1 pp3 σ) (wG_SW wm_17_23 wm_17_21 wm_17_22 wm_5_14) rfl rfl rfl (by decide +kernel) ⟨Nat.le_of_ble_eq_true rfl, Nat.le_of_ble_eq_true rfl⟩ rfl rfl (Nat.le_of_ble_eq_true rfl) ⟨(show _ ≤ 3 by omega), (show _ ≤ 18 by omega)⟩ dL_call_173 (fun zz35 σ34 => ?_)
    exact xr_iret (pc := 176) X (Nat.le_of_ble_eq_true rfl) (Nat.le_of_ble_eq_true rfl) dL_call_176
  refine x_if (fun hcc39 => ?_) (fun hcc39 => ?_)
  · refine xr_tin (off := 176) (pc := 1) X 177 dL_call_1 (by rw [hcc39]; decide) (by rw [hcc39]; decide) (by rw [hcc39]; rfl) (by decide) ?_
    refine xr_aload_n (pc := 177) X (i := 0) 0 rfl rfl dL_call_177 ?_
    refine xr_iload_n (pc := 178) X (i := 2) 2 rfl rfl dL_call_178 ?_
    refine xr_callSWI (na := 2) (pc := 179) X [.ref (ad oo1), .int pp3] (c_L_tryTicks Γ.2.1 hI hst oo1 hh1 pp3 σ) (wG_SW wm_18_6 wm_18_4 wm_18_5 wm_5_14) rfl rfl rfl (by decide +kernel) ⟨Nat.le_of_ble_eq_true rfl, Nat.le_of_ble_eq_true rfl⟩ rfl rfl (Nat.le_of_ble_eq_true rfl) ⟨(show _ ≤ 3 by omega), (show _ ≤ 18 by omega)⟩ dL_call_179 (fun zz38 σ37 => ?_)
    exact xr_iret (pc := 182) X (Nat.le_of_ble_eq_true rfl) (Nat.le_of_ble_eq_true rfl) dL_call_182
  refine x_if (fun hcc42 => ?_) (fun hcc42 => ?_)
  · refine xr_tin (off := 182) (pc := 1) X 183 dL_call_1 (by rw [hcc42]; decide) (by rw [hcc42]; decide) (by rw [hcc42]; rfl) (by decide) ?_
    refine xr_aload_n (pc := 183) X (i := 0) 0 rfl rfl dL_call_183 ?_
    refine xr_iload_n (pc := 184) X (i := 2) 2 rfl rfl dL_call_184 ?_
    refine xr_iload_n (pc := 185) X (i := 3) 3 rfl rfl dL_call_185 ?_
    refine xr_callSWI (na := 3) (pc := 186) X [.ref (ad oo1), .int pp3, .int pp4] (c_L_tryLay Γ.2.1 hI hst oo1 hh1 pp3 pp4 σ) (wG_SW wm_18_14 wm_18_12 wm_18_13 wm_5_14) rfl rfl rfl (by decide +kernel) ⟨Nat.le_of_ble_eq_true rfl, Nat.le_of_ble_eq_true rfl⟩ rfl rfl (Nat.le_of_ble_eq_true rfl) ⟨(show _ ≤ 3 by omega), (show _ ≤ 18 by omega)⟩ dL_call_186 (fun zz41 σ40 => ?_)
    exact xr_iret (pc := 189) X (Nat.le_of_ble_eq_true rfl) (Nat.le_of_ble_eq_true rfl) dL_call_189
  refine x_if (fun hcc45 => ?_) (fun hcc45 => ?_)
  · refine xr_tin (off := 189) (pc := 1) X 190 dL_call_1 (by rw [hcc45]; decide) (by rw [hcc45]; decide) (by rw [hcc45]; rfl) (by decide) ?_
    refine xr_aload_n (pc := 190) X (i := 0) 0 rfl rfl dL_call_190 ?_
    refine xr_callSWI (na := 1) (pc := 191) X [.ref (ad oo1)] (c_L_tryUndo Γ.2.1 hI hst oo1 hh1 σ) (wG_SW wm_18_21 wm_18_19 wm_18_20 wm_5_14) rfl rfl rfl (by decide +kernel) ⟨Nat.le_of_ble_eq_true rfl, Nat.le_of_ble_eq_true rfl⟩ rfl rfl (Nat.le_of_ble_eq_true rfl) ⟨(show _ ≤ 3 by omega), (show _ ≤ 18 by omega)⟩ dL_call_191 (fun zz44 σ43 => ?_)
    exact xr_iret (pc := 194) X (Nat.le_of_ble_eq_true rfl) (Nat.le_of_ble_eq_true rfl) dL_call_194
  refine x_if (fun hcc48 => ?_) (fun hcc48 => ?_)
  · refine xr_tin (off := 194) (pc := 1) X 195 dL_call_1 (by rw [hcc48]; decide) (by rw [hcc48]; decide) (by rw [hcc48]; rfl) (by decide) ?_
    refine xr_aload_n (pc := 195) X (i := 0) 0 rfl rfl dL_call_195 ?_
    refine xr_iload_n (pc := 196) X (i := 2) 2 rfl rfl dL_call_196 ?_
    refine xr_callSWI (na := 2) (pc := 197) X [.ref (ad oo1), .int pp3] (c_L_tryDone Γ.2.1 hI hst oo1 hh1 pp3 σ) (wG_SW wm_19_8 wm_19_6 wm_19_7 wm_5_14) rfl rfl rfl (by decide +kernel) ⟨Nat.le_of_ble_eq_true rfl, Nat.le_of_ble_eq_true rfl⟩ rfl rfl (Nat.le_of_ble_eq_true rfl) ⟨(show _ ≤ 3 by omega), (show _ ≤ 18 by omega)⟩ dL_call_197 (fun zz47 σ46 => ?_)
    exact xr_iret (pc := 200) X (Nat.le_of_ble_eq_true rfl) (Nat.le_of_ble_eq_true rfl) dL_call_200
  refine x_if (fun hcc51 => ?_) (fun hcc51 => ?_)
  · refine xr_tin (off := 200) (pc := 1) X 201 dL_call_1 (by rw [hcc51]; decide) (by rw [hcc51]; decide) (by rw [hcc51]; rfl) (by decide) ?_
    refine xr_aload_n (pc := 201) X (i := 0) 0 rfl rfl dL_call_201 ?_
    refine xr_iload_n (pc := 202) X (i := 2) 2 rfl rfl dL_call_202 ?_
    refine xr_iload_n (pc := 203) X (i := 3) 3 rfl rfl dL_call_203 ?_
    refine xr_callSWI (na := 3) (pc := 204) X [.ref (ad oo1), .int pp3, .int pp4] (c_L_tryThere Γ.2.1 hI hst oo1 hh1 pp3 pp4 σ) (wG_SW wm_20_4 wm_20_2 wm_20_3 wm_5_14) rfl rfl rfl (by decide +kernel) ⟨Nat.le_of_ble_eq_true rfl, Nat.le_of_ble_eq_true rfl⟩ rfl rfl (Nat.le_of_ble_eq_true rfl) ⟨(show _ ≤ 3 by omega), (show _ ≤ 18 by omega)⟩ dL_call_204 (fun zz50 σ49 => ?_)
    exact xr_iret (pc := 207) X (Nat.le_of_ble_eq_true rfl) (Nat.le_of_ble_eq_true rfl) dL_call_207
  refine x_if (fun hcc54 => ?_) (fun hcc54 => ?_)
  · refine xr_tin (off := 207) (pc := 1) X 208 dL_call_1 (by rw [hcc54]; decide) (by rw [hcc54]; decide) (by rw [hcc54]; rfl) (by decide) ?_
    refine xr_aload_n (pc := 208) X (i := 0) 0 rfl rfl dL_call_208 ?_
    refine xr_iload_n (pc := 209) X (i := 2) 2 rfl rfl dL_call_209 ?_
    refine xr_iload_n (pc := 210) X (i := 3) 3 rfl rfl dL_call_210 ?_
    refine xr_callSWI (na := 3) (pc := 211) X [.ref (ad oo1), .int pp3, .int pp4] (c_L_tryIf Γ.2.1 hI hst oo1 hh1 pp3 pp4 σ) (wG_SW wm_20_15 wm_20_13 wm_20_14 wm_5_14) rfl rfl rfl (by decide +kernel) ⟨Nat.le_of_ble_eq_true rfl, Nat.le_of_ble_eq_true rfl⟩ rfl rfl (Nat.le_of_ble_eq_true rfl) ⟨(show _ ≤ 3 by omega), (show _ ≤ 18 by omega)⟩ dL_call_211 (fun zz53 σ52 => ?_)
    exact xr_iret (pc := 214) X (Nat.le_of_ble_eq_true rfl) (Nat.le_of_ble_eq_true rfl) dL_call_214
  refine x_if (fun hcc57 => ?_) (fun hcc57 => ?_)
  · refine xr_tin (off := 214) (pc := 1) X 215 dL_call_1 (by rw [hcc57]; decide) (by rw [hcc57]; decide) (by rw [hcc57]; rfl) (by decide) ?_
    refine xr_aload_n (pc := 215) X (i := 0) 0 rfl rfl dL_call_215 ?_
    refine xr_iload_n (pc := 216) X (i := 2) 2 rfl rfl dL_call_216 ?_
    refine xr_iload_n (pc := 217) X (i := 3) 3 rfl rfl dL_call_217 ?_
    refine xr_callSWI (na := 3) (pc := 218) X [.ref (ad oo1), .int pp3, .int pp4] (c_L_tryBest Γ.2.1 hI hst oo1 hh1 pp3 pp4 σ) (wG_SW wm_20_23 wm_20_21 wm_20_22 wm_5_14) rfl rfl rfl (by decide +kernel) ⟨Nat.le_of_ble_eq_true rfl, Nat.le_of_ble_eq_true rfl⟩ rfl rfl (Nat.le_of_ble_eq_true rfl) ⟨(show _ ≤ 3 by omega), (show _ ≤ 18 by omega)⟩ dL_call_218 (fun zz56 σ55 => ?_)
    exact xr_iret (pc := 221) X (Nat.le_of_ble_eq_true rfl) (Nat.le_of_ble_eq_true rfl) dL_call_221
  refine x_if (fun hcc60 => ?_) (fun hcc60 => ?_)
  · refine xr_tin (off := 221) (pc := 1) X 222 dL_call_1 (by rw [hcc60]; decide) (by rw [hcc60]; decide) (by rw [hcc60]; rfl) (by decide) ?_
    refine xr_aload_n (pc := 222) X (i := 0) 0 rfl rfl dL_call_222 ?_
    refine xr_iload_n (pc := 223) X (i := 2) 2 rfl rfl dL_call_223 ?_
    refine xr_callSWI (na := 2) (pc := 224) X [.ref (ad oo1), .int pp3] (c_L_tryKeep Γ.2.1 hI hst oo1 hh1 pp3 σ) (wG_SW wm_21_8 wm_21_6 wm_21_7 wm_5_14) rfl rfl rfl (by decide +kernel) ⟨Nat.le_of_ble_eq_true rfl, Nat.le_of_ble_eq_true rfl⟩ rfl rfl (Nat.le_of_ble_eq_true rfl) ⟨(show _ ≤ 3 by omega), (show _ ≤ 18 by omega)⟩ dL_call_224 (fun zz59 σ58 => ?_)
    exact xr_iret (pc := 227) X (Nat.le_of_ble_eq_true rfl) (Nat.le_of_ble_eq_true rfl) dL_call_227
  refine xr_tout (pc := 1) X 228 dL_call_1 (by have g0 := xne hcc3 (j := 0) (by decide); have g1 := xne hcc6 (j := 1) (by decide); have g2 := xne hcc9 (j := 2) (by decide); have g3 := xne hcc12 (j := 3) (by decide); have g4 := xne hcc15 (j := 4) (by decide); have g5 := xne hcc18 (j := 5) (by decide); have g6 := xne hcc21 (j := 6) (by decide); have g7 := xne hcc24 (j := 7) (by decide); have g8 := xne hcc27 (j := 8) (by decide); have g9 := xne hcc30 (j := 9) (by decide); have g10 := xne hcc33 (j := 10) (by decide); have g11 := xne hcc36 (j := 11) (by decide); have g12 := xne hcc39 (j := 12) (by decide); have g13 := xne hcc42 (j := 13) (by decide); have g14 := xne hcc45 (j := 14) (by decide); have g15 := xne hcc48 (j := 15) (by decide); have g16 := xne hcc51 (j := 16) (by decide); have g17 := xne hcc54 (j := 17) (by decide); have g18 := xne hcc57 (j := 18) (by decide); have g19 := xne hcc60 (j := 19) (by decide); omega) (by decide) ?_
  refine xr_aload_n (pc := 228) X (i := 0) 0 rfl rfl dL_call_228 ?_
  refine xr_iload_n (pc := 229) X (i := 2) 2 rfl rfl dL_call_229 ?_
  refine xr_callSWI (na := 2) (pc := 230) X [.ref (ad oo1), .int pp3] (c_L_tryBack Γ.2.1 hI hst oo1 hh1 pp3 σ) (wG_SW wm_21_15 wm_21_13 wm_21_14 wm_5_14) rfl rfl rfl (by decide +kernel) ⟨Nat.le_of_ble_eq_true rfl, Nat.le_of_ble_eq_true rfl⟩ rfl rfl (Nat.le_of_ble_eq_true rfl) ⟨(show _ ≤ 3 by omega), (show _ ≤ 18 by omega)⟩ dL_call_230 (fun zz62 σ61 => ?_)
  exact xr_iret (pc := 233) X (Nat.le_of_ble_eq_true rfl) (Nat.le_of_ble_eq_true rfl) dL_call_233
def F_L_cell (LL : Nat) (xs : Nat → Int32) (pp2 : Int32) (σ : xS) : Option (Int32 × xS) :=
  if (nI LL) ≤ pp2 then (some ((((15519397 * (pp2 + 3)) + 11471) &&& 2147483647), σ))
 else (if xin pp2 LL = true then (xlet (xs pp2.toNatClampNeg) (fun (zz1 : Int32) => some ((zz1 &&& 2147483647), σ))) else none)
abbrev rm_L_cell : Room := { frames := 0, cells := 0, slots := 0, locals := 0 }
set_option maxHeartbeats 4000000 in
set_option maxRecDepth 100000 in
theorem c_L_cell (l : Launch) {D : va_G} {ad : Nat → Nat} {N : Nat} {Sh : xSh} (hI : ∀ i j, i < N → j < N → ad i = ad j → i = j) (bb LL : Nat) (xs : Nat → Int32) (pp2 : Int32) (σ : xS) : xKS l yL_cell (Cond.code yL_cell cL_cell 2 (some .int) :: wG) rm_L_cell 0 0 D ad N Sh bb LL xs [.ref bb, .int pp2] σ (F_L_cell LL xs pp2 σ) := by
  refine x_startS (own := RL) (maxL := 2) (by decide) rfl rfl (Nat.le_of_ble_eq_true rfl) rfl hI (fun Γ hl hnL hSC X => ?_)
  subst hl
  unfold F_L_cell
  refine xr_iload_n (pc := 0) X (i := 1) 1 rfl rfl dL_cell_0 ?_
  refine xr_aload_n (pc := 1) X (i := 0) 0 rfl rfl dL_cell_1 ?_
  refine xr_slen (pc := 2) X hSC dL_cell_2 ?_
  refine xr_icmp_ge (pc := 3) X 12 (by decide) dL_cell_3 (fun _ => ?_) (fun _ => ?_)
  · refine xr_ldc (pc := 12) X dL_cell_12 (List.mem_cons_of_mem _ wm_5_16) ?_
    refine xr_iload_n (pc := 14) X (i := 1) 1 rfl rfl dL_cell_14 ?_
    refine xr_iconst (pc := 15) X dL_cell_15 (v := 3) (by decide) ?_
    refine xr_iadd (pc := 16) X dL_cell_16 ?_
    refine xr_imul (pc := 17) X dL_cell_17 ?_
    refine xr_sipush (pc := 18) X dL_cell_18 (v := 11471) (by decide) ?_
    refine xr_iadd (pc := 21) X dL_cell_21 ?_
    refine xr_ldc (pc := 22) X dL_cell_22 (List.mem_cons_of_mem _ wm_5_17) ?_
    refine xr_iand (pc := 24) X dL_cell_24 ?_
    exact xr_iret (pc := 25) X (Nat.le_of_ble_eq_true rfl) (Nat.le_of_ble_eq_true rfl) dL_cell_25
  refine xr_aload_n (pc := 6) X (i := 0) 0 rfl rfl dL_cell_6 ?_
  refine xr_iload_n (pc := 7) X (i := 1) 1 rfl rfl dL_cell_7 ?_
  refine xr_sld (pc := 8) X hSC dL_cell_8 (fun zz1 => ?_)
  refine xr_goto (pc := 9) X 22 (by decide) dL_cell_9 ?_
  refine xr_ldc (pc := 22) X dL_cell_22 (List.mem_cons_of_mem _ wm_5_17) ?_
  refine xr_iand (pc := 24) X dL_cell_24 ?_
  exact xr_iret (pc := 25) X (Nat.le_of_ble_eq_true rfl) (Nat.le_of_ble_eq_true rfl) dL_cell_25
def F_L_thrown (pp1 : Int32) (σ : xS) : Option (Int32 × xS) :=
  if pp1 = ((-9999001)) then (some ((1 : Int32), σ))
 else (if pp1 = ((-9999002)) then (some ((1 : Int32), σ))
 else (if ¬ pp1 = ((-9999003)) then (some ((0 : Int32), σ))
 else (some ((1 : Int32), σ))))
abbrev rm_L_thrown : Room := { frames := 0, cells := 0, slots := 0, locals := 0 }
set_option maxHeartbeats 4000000 in
set_option maxRecDepth 100000 in
theorem c_L_thrown (l : Launch) {D : va_G} {ad : Nat → Nat} {N : Nat} {Sh : xSh} (hI : ∀ i j, i < N → j < N → ad i = ad j → i = j) (pp1 : Int32) (σ : xS) : xKI l yL_thrown (Cond.code yL_thrown cL_thrown 1 (some .boolean) :: wG) rm_L_thrown 0 0 D ad N Sh [.int pp1] σ (F_L_thrown pp1 σ) := by
  refine x_startI (own := RL) (maxL := 1) (by decide) rfl rfl (Nat.le_of_ble_eq_true rfl) rfl hI (fun Γ hl hnL X => ?_)
  subst hl
  unfold F_L_thrown
  refine xr_iload_n (pc := 0) X (i := 0) 0 rfl rfl dL_thrown_0 ?_
  refine xr_ldc (pc := 1) X dL_thrown_1 (List.mem_cons_of_mem _ wm_14_7) ?_
  refine xr_icmp_eq (pc := 3) X 18 (by decide) dL_thrown_3 (fun _ => ?_) (fun _ => ?_)
  · refine xr_iconst (pc := 18) X dL_thrown_18 (v := 1) (by decide) ?_
    refine xr_goto (pc := 19) X 23 (by decide) dL_thrown_19 ?_
    exact xr_zret (pc := 23) X rfl (Nat.le_of_ble_eq_true rfl) (Nat.le_of_ble_eq_true rfl) dL_thrown_23
  refine xr_iload_n (pc := 6) X (i := 0) 0 rfl rfl dL_thrown_6 ?_
  refine xr_ldc (pc := 7) X dL_thrown_7 (List.mem_cons_of_mem _ wm_6_5) ?_
  refine xr_icmp_eq (pc := 9) X 18 (by decide) dL_thrown_9 (fun _ => ?_) (fun _ => ?_)
  · refine xr_iconst (pc := 18) X dL_thrown_18 (v := 1) (by decide) ?_
    refine xr_goto (pc := 19) X 23 (by decide) dL_thrown_19 ?_
    exact xr_zret (pc := 23) X rfl (Nat.le_of_ble_eq_true rfl) (Nat.le_of_ble_eq_true rfl) dL_thrown_23
  refine xr_iload_n (pc := 12) X (i := 0) 0 rfl rfl dL_thrown_12 ?_
  refine xr_ldc (pc := 13) X dL_thrown_13 (List.mem_cons_of_mem _ wm_6_6) ?_
  refine xr_icmp_ne (pc := 15) X 22 (by decide) dL_thrown_15 (fun _ => ?_) (fun _ => ?_)
  · refine xr_iconst (pc := 22) X dL_thrown_22 (v := 0) (by decide) ?_
    exact xr_zret (pc := 23) X rfl (Nat.le_of_ble_eq_true rfl) (Nat.le_of_ble_eq_true rfl) dL_thrown_23
  refine xr_iconst (pc := 18) X dL_thrown_18 (v := 1) (by decide) ?_
  refine xr_goto (pc := 19) X 23 (by decide) dL_thrown_19 ?_
  exact xr_zret (pc := 23) X rfl (Nat.le_of_ble_eq_true rfl) (Nat.le_of_ble_eq_true rfl) dL_thrown_23
