/-! ticks. -/
theorem a_ticks {S : hS} (h : Rel S) (x : Int32) : Alk 146 153 [.inl x] S := by
  have hL := h.1
  have hm := h.2.2.2.1
  rcases mIn_iff (v := x) (lo := 1) (hi := 60) with ⟨kx, -⟩ | ⟨kx, x1, x2⟩
  · refine ⟨-1, S, S, ?_, ?_, h⟩
    · show Rn hc_X9_ticks 0 [some (.inr (some (9, 0))), some (.inl x), none] [] S _
      iterate 3 refine r_step rfl rfl ?_
      refine r_call rfl rfl (e_within _ _ _ _) ?_
      rw [kx]
      iterate 2 refine r_step rfl rfl ?_
      exact r_reti rfl rfl rfl
    · show Rn hc_X10_ticks 0 [some (.inr (some (10, 57))), some (.inl x), none] [] S _
      iterate 3 refine r_step rfl rfl ?_
      refine r_call rfl rfl (e_in _ _ _ _) ?_
      rw [kx]
      iterate 2 refine r_step rfl rfl ?_
      exact r_reti rfl rfl rfl
  have l1 : (1 : Int32).toInt = 1 := rfl
  have l60 : (60 : Int32).toInt = 60 := rfl
  have l9 : (9999 : Int32).toInt = 9999 := rfl
  obtain ⟨k, hk, rfl⟩ := bt_nI (hi := 60) (x := x) ⟨by omega, by omega⟩ (by decide)
  have tk : (nI k).toInt = (k : Int) := ti (by omega)
  have b16 := hm.2.2.2.1
  have m16 : S.2.1 6 2 = S.2.1 58 16 := hm.1.2.1
  have ea : (S.2.1 58 16 + nI k).toInt = (S.2.1 58 16).toInt + (nI k).toInt := i_add (by have := b16.1; omega) (by have := b16.2; omega)
  have startC : ∀ o, Rn hc_X9_ticks 24 [some (.inr (some (9, 0))), some (.inl (nI k)), none] [.inl 9999, .inl (S.2.1 58 16 + nI k)] S o → Ev 146 [.inr (some (9, 0)), .inl (nI k)] S o := by
    intro o q
    show Rn hc_X9_ticks 0 [some (.inr (some (9, 0))), some (.inl (nI k)), none] [] S _
    iterate 3 refine r_step rfl rfl ?_
    refine r_call rfl rfl (e_within _ _ _ _) ?_
    rw [kx]
    iterate 2 refine r_step rfl rfl ?_
    refine r_getr rfl (rv_0_3 hL) ?_
    iterate 4 refine r_step rfl rfl ?_
    rw [m16]
    exact q
  have startM : ∀ (T : hS) o, hLay T → T.2.1 58 = S.2.1 58 → Rn hc_X10_ticks 24 [some (.inr (some (10, 57))), some (.inl (nI k)), none] [.inl 9999, .inl (S.2.1 58 16 + nI k)] T o → Ev 153 [.inr (some (10, 57)), .inl (nI k)] T o := by
    intro T o hT e q
    show Rn hc_X10_ticks 0 [some (.inr (some (10, 57))), some (.inl (nI k)), none] [] T _
    iterate 3 refine r_step rfl rfl ?_
    refine r_call rfl rfl (e_in _ _ _ _) ?_
    rw [kx]
    iterate 2 refine r_step rfl rfl ?_
    refine r_getr rfl (rv_57_0 hT) ?_
    refine r_step rfl rfl ?_
    refine r_iald rfl 16 rfl ⟨⟨by decide, by decide⟩, by decide⟩ ?_
    iterate 3 refine r_step rfl rfl ?_
    rw [e]
    exact q
  by_cases c9 : S.2.1 58 16 + nI k ≤ 9999
  · have cu : (S.2.1 58 16).toInt + k ≤ 9999 := by rw [i_le] at c9; omega
    obtain ⟨S1, b1, b2, b3⟩ := note_both h
    have hL1 := hL.fr b2
    have f1 : ∀ p, (p < 10 ∨ 36 ≤ p) → S1.2.1 p = S.2.1 p := fun p hp => b2.2.2 p (by omega)
    obtain ⟨S2, d1, d2, d3⟩ := ticks_c k (by omega) k 0 S1 (S.2.1 58) (by omega) hL1 (by rw [f1 1 (by omega), f1 63 (by omega)]; exact h.2.1) (hm.congr (f1 _ (by omega)) (f1 _ (by omega)) (f1 _ (by omega)) (f1 _ (by omega)) (f1 _ (by omega)) rfl) cu
    have hL2 := hL1.fr d1
    have f2 : ∀ p, 57 ≤ p → S2.2.1 p = S.2.1 p := fun p hp => (d1.2.2 p (by omega)).trans (f1 p (by omega))
    rw [f1 63 (by omega)] at d2
    obtain ⟨T1, c1, c2, c3, c4⟩ := b3 S2 hL2 f2
    have hT1 := hL2.fr c2
    have t58 : T1.2.1 58 = S.2.1 58 := (c2.2.2 58 (by omega)).trans (f2 58 (by omega))
    have t63 : T1.2.1 63 = S.2.1 63 := (c2.2.2 63 (by omega)).trans (f2 63 (by omega))
    refine ⟨S2.2.1 7 1, S2, hRow T1 58 (tRow (S.2.1 63) k (S.2.1 58)), startC _ ?_, startM _ _ hL2 (f2 58 (by omega)) ?_, ?_⟩
    · refine r_step rfl rfl ?_
      refine r_i_le (fun _ => ?_) (fun q => absurd c9 q)
      refine r_step rfl rfl ?_
      refine r_getr rfl (rv_0_4 hL) ?_
      refine r_step rfl rfl ?_
      refine r_getr rfl (rv_0_3 hL) ?_
      refine r_callv rfl rfl b1 ?_
      iterate 2 refine r_step rfl rfl ?_
      refine d3 _ ?_
      refine r_step rfl rfl ?_
      refine r_getr rfl (rv_0_3 hL2) ?_
      refine r_getr rfl (rv_6_0 hL2) ?_
      refine r_step rfl rfl ?_
      exact r_reti rfl rfl rfl
    · refine r_step rfl rfl ?_
      refine r_i_le (fun _ => ?_) (fun q => absurd c9 q)
      refine r_step rfl rfl ?_
      refine r_callv rfl rfl c1 ?_
      iterate 2 refine r_step rfl rfl ?_
      refine ticks_m k (by omega) k 0 T1 _ (by omega) hT1 (by rw [t63]; exact h.2.1.1) (by rw [t63, t58]; exact hm.2) (by rw [t58]; exact cu) ?_
      rw [t63, t58]
      refine r_step rfl rfl ?_
      refine r_getr rfl (rv_57_0 (hT1.row _ _)) ?_
      refine r_step rfl rfl ?_
      refine r_iald rfl 1 rfl ⟨⟨by decide, by decide⟩, by decide⟩ ?_
      refine r_reti rfl ?_ rfl
      rw [hRow_at]
      exact (d2.1.1 1 (by decide)).symm
    · have g : ∀ p, p ≠ 58 → (hRow T1 58 (tRow (S.2.1 63) k (S.2.1 58))).2.1 p = T1.2.1 p := fun p hp => hRow_ne _ _ hp
      have fS : ∀ p, ¬ (p = 57 ∨ p = 58 ∨ p = 60 ∨ (6 ≤ p ∧ p < 36)) → (hRow T1 58 (tRow (S.2.1 63) k (S.2.1 58))).2.1 p = S.2.1 p := fun p hp => by
        rw [g p (by omega), c2.2.2 p (by omega), d1.2.2 p (by omega)]
        exact f1 p (by omega)
      have lo : ∀ p, p < 57 → (hRow T1 58 (tRow (S.2.1 63) k (S.2.1 58))).2.1 p = S2.2.1 p := fun p hp => by rw [g p (by omega), c2.2.2 p (by omega)]
      refine rel_done h ⟨?_, ?_, fS⟩ ?_ ?_ ?_
      · show T1.1 = S.1
        rw [hT1.1, hL.1]
      · show T1.2.2 = S.2.2
        rw [c2.2.1, d1.2.1]
        exact b2.2.1
      · intro j hj
        rw [g 57 (by decide), c3 j hj, f2 57 (by omega)]
      · rw [hRow_at]
        exact d2.congr (lo _ (by omega)) (lo _ (by omega)) (lo _ (by omega)) (lo _ (by omega)) (by rw [fS 63 (by omega)]; exact (f2 63 (by omega)).symm) rfl
      · rw [g 57 (by decide)]
        refine c4 _ (fun p g1 g2 => ?_) (g 60 (by decide)) (fS 63 (by omega))
        rw [lo p (by omega)]
        exact d1.2.2 p (by omega)
  · refine ⟨-3, S, S, startC _ ?_, startM S _ hL rfl ?_, h⟩
    · refine r_step rfl rfl ?_
      refine r_i_le (fun q => absurd q c9) (fun _ => ?_)
      refine r_step rfl rfl ?_
      exact r_reti rfl rfl rfl
    · refine r_step rfl rfl ?_
      refine r_i_le (fun q => absurd q c9) (fun _ => ?_)
      refine r_step rfl rfl ?_
      exact r_reti rfl rfl rfl
