/-! The loops of ticks. -/
set_option maxHeartbeats 4000000 in
set_option maxRecDepth 100000 in
theorem ticks_m (x : Nat) (hx : x ≤ 60) : ∀ (d k : Nat) (T : hS) (o : Option Int32 × hS), k + d = x → hLay T → okSet (T.2.1 63) → mInv (T.2.1 63) (T.2.1 58) → (T.2.1 58 16).toInt + d ≤ 9999 → Rn hc_X10_ticks 59 [some (.inr (some (10, 57))), some (.inl (nI x)), some (.inl (nI x))] [] (hRow T 58 (tRow (T.2.1 63) d (T.2.1 58))) o → Rn hc_X10_ticks 36 [some (.inr (some (10, 57))), some (.inl (nI x)), some (.inl (nI k))] [] T o := by
  intro d
  induction d with
  | zero =>
    intro k T o hk hL hs hi hu kk
    have : k = x := by omega
    subst this
    rw [tRow, hRow_self] at kk
    iterate 3 refine r_step rfl rfl ?_
    refine r_i_ge (fun _ => kk) (fun q => absurd (nI_le (Nat.le_refl k) (by omega)) q)
  | succ d ih =>
    intro k T o hk hL hs hi hu kk
    obtain ⟨z, hz, ez⟩ := bt_nI (hi := 40) (x := T.2.1 58 18) hi.2.2.2.1 (by decide)
    have hlt : (T.2.1 58 16).toInt < 9999 := by omega
    iterate 3 refine r_step rfl rfl ?_
    refine r_i_ge (fun q => absurd q (nI_ge (by omega) (by omega))) (fun _ => ?_)
    iterate 2 refine r_step rfl rfl ?_
    refine r_getr rfl (rv_57_0 hL) ?_
    refine r_callv rfl rfl (e_goesOn 58 T (rv_57_6 hL) (by decide) hi.1.1) ?_
    refine r_step rfl rfl ?_
    refine r_callv rfl rfl (e_notesSpeed _ (hL.row _ _)) ?_
    rw [hRow_at, hRow_row]
    iterate 2 refine r_step rfl rfl ?_
    show Rn hc_X10_ticks 36 [some (.inr (some (10, 57))), some (.inl (nI x)), some (.inl (nI k + 1))] [] _ _
    rw [nI_s1]
    have e63 : (hRow T 58 (mSpd (mGoes (T.2.1 63) (T.2.1 58)))).2.1 63 = T.2.1 63 := hRow_ne _ _ (by decide)
    refine ih (k + 1) (hRow T 58 (mSpd (mGoes (T.2.1 63) (T.2.1 58)))) o (by omega) (hL.row _ _) (by rw [e63]; exact hs) (by rw [e63, hRow_at]; exact mInv_tick hs hi hlt (by omega) ez) (by rw [hRow_at, spd16 hs hi hlt]; omega) ?_
    rw [e63, hRow_at, hRow_row]
    exact kk
