/-! The class's loop of ticks. -/
set_option maxHeartbeats 4000000 in
set_option maxRecDepth 100000 in
theorem ticks_c (x : Nat) (hx : x ≤ 60) : ∀ (d k : Nat) (S : hS) (u : Nat → Int32), k + d = x → hLay S → rSet (S.2.1 1) (S.2.1 63) → rMom S.2.1 6 u → (u 16).toInt + d ≤ 9999 → ∃ S1, hFr S S1 (fun p => 6 ≤ p ∧ p < 10) ∧ rMom S1.2.1 6 (tRow (S.2.1 63) d u) ∧ ∀ o, Rn hc_X9_ticks 65 [some (.inr (some (9, 0))), some (.inl (nI x)), some (.inl (nI x))] [] S1 o → Rn hc_X9_ticks 43 [some (.inr (some (9, 0))), some (.inl (nI x)), some (.inl (nI k))] [] S o := by
  intro d
  induction d with
  | zero =>
    intro k S u hk hL hs hm hu
    have : k = x := by omega
    subst this
    refine ⟨S, hFr.rf _ _, hm, fun o kk => ?_⟩
    iterate 3 refine r_step rfl rfl ?_
    refine r_i_ge (fun _ => kk) (fun q => absurd (nI_le (Nat.le_refl k) (by omega)) q)
  | succ d ih =>
    intro k S u hk hL hs hm hu
    have hlt : (u 16).toInt < 9999 := by omega
    obtain ⟨⟨q1, q2, q3, q4, n, z, g1, g2, g3, g4, g5⟩, hi⟩ := hm
    obtain ⟨S1, b1, b2, b3, b4, b5, b6, b7⟩ := e_tick 6 1 n S (mom_6 hL) (by decide) (by rw [q1 0 (by decide)]; exact hi.1.1) g3 g1
    have mt := mom_tick (m' := S1.2.1 6) hs.1 hs.2 q1 q2 q3 q4 g1 g2 g3 g4 g5 hi hlt b6 b7
    have f63 : S1.2.1 63 = S.2.1 63 := b2.2.2 63 (by omega)
    have f1 : S1.2.1 1 = S.2.1 1 := b2.2.2 1 (by omega)
    have m1 : rMom S1.2.1 6 (mSpd (mGoes (S.2.1 63) u)) := by
      refine ⟨?_, by rw [f63]; exact mt.2⟩
      rw [b3, b4, b5]
      exact mt.1
    obtain ⟨S2, c1, c2, c3⟩ := ih (k + 1) S1 (mSpd (mGoes (S.2.1 63) u)) (by omega) (hL.fr b2) (by rw [f1, f63]; exact hs) m1 (by rw [spd16 hs.1 hi hlt]; omega)
    rw [f63] at c2
    refine ⟨S2, b2.trans c1, c2, fun o kk => ?_⟩
    iterate 3 refine r_step rfl rfl ?_
    refine r_i_ge (fun q => absurd q (nI_ge (by omega) (by omega))) (fun _ => ?_)
    refine r_step rfl rfl ?_
    refine r_getr rfl (rv_0_3 hL) ?_
    refine r_step rfl rfl ?_
    refine r_getr rfl (rv_0_0 hL) ?_
    refine r_callv rfl rfl b1 ?_
    iterate 2 refine r_step rfl rfl ?_
    show Rn hc_X9_ticks 43 [some (.inr (some (9, 0))), some (.inl (nI x)), some (.inl (nI k + 1))] [] _ _
    rw [nI_s1]
    exact c3 o kk
