/-! THE START -/
theorem yR_start {σ : xS} (h : LStart σ) : yR 12000 900000 σ := by
  obtain ⟨h1, ⟨b0, b1, ⟨s0, s1, s2, s3⟩, b2, b3⟩, ⟨m1, m2⟩, h651, h826, h824, h831⟩ := h
  have hr : ∀ i, σ 826 i = mClear (mFirst (fun _ => 0)) (nI 1) i := fun i => by
    rw [h826, mFC]
    rfl
  have hv : ∀ i, i < 4 → σ (3 + 1) i = mClear (mFirst (fun _ => 0)) (nI 1) (3 + i) := fun i hi => by
    obtain e | e | e | e : i = 0 ∨ i = 1 ∨ i = 2 ∨ i = 3 := by omega
    · subst e; exact s0
    · subst e; exact s1
    · subst e; exact s2
    · subst e; exact s3
  have hok : rOK (mClear (mFirst (fun _ => 0)) (nI 1)) 1 0 3 6 20 3 0 (rLo 0 1 (0 + 1)) 0 := rOK.clear ⟨by omega, by omega, by omega, by omega, by omega, by omega, by omega⟩ rfl rfl rfl rfl (by omega) (by omega)
  have hq : xQ3 σ 3 (mClear (mFirst (fun _ => 0)) (nI 1)) 0 := by
    refine ⟨⟨b0, b1, hv, fun k hk => ⟨0, 0, ?_⟩⟩, b2, fun j hj => absurd hj (by omega)⟩
    rw [mClear_row hk]
    exact xBg2_Q (b3 k hk)
  refine ⟨?_, ⟨0, by omega, h1, ?_, fun i hi => absurd hi (by omega)⟩, ⟨0, 0, by omega, by omega, m2, m1, ?_, fun j hj => absurd hj (by omega)⟩, fun s _ => Or.inl ⟨?_, ?_⟩⟩
  · exact (show yS σ 3 (mClear (mFirst (fun _ => 0)) (nI 1)) 12000 900000 from ⟨1, 0, 3, 6, 20, 3, 0, 0, hok, by omega, by omega, hq⟩).c187 (fun i _ => hr i)
  · rw [h824]; rfl
  · rw [h824]; rfl
  · rw [h651]
  · rw [h831]
theorem law_pure {L : Nat} {xs : Nat → Int32} (hL : L ≤ 2048) (σ : xS) (h : LStart σ) : ∃ σ', L_law 0 824 832 L xs 520 0 σ = some (1, σ') :=
  law_loop hL 520 0 σ (by omega) (by omega) (yR_start h)
theorem whole_start (l : Launch) (hflags : l.flags = flags0) {p : Program} {e : Env} {s : State} {m : MethodId} {below : List Frame} {meth : Method} {c : Code} {b L : Nat} {xs : Nat → Int32} (hL : L ≤ 2048) (h : lw_At p s m meth c b L xs) : W p l e room_1 s m #[Value.ref b] below meth c s.heap [] 0 0 (lw_Z below #[Value.ref b] s) (entryFrame m ([Value.ref b] : List Value).toArray 7) :=
  law_start l hflags (fun σ hσ => law_pure hL σ hσ) h
