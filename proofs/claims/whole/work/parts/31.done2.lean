/-- one slot is changed on both sides, behind the note -/
theorem done_slot {S : hS} (h : Rel S) (k : Nat) (x : Int32) (hk : k < 16) (hr : wRng (S.2.1 63) (upd (S.2.1 58) k x)) (hp : wPot (upd (S.2.1 58) k x)) : ∃ S1 T1, Ev 120 [.inr (some (1, 10)), .inr (some (0, 6))] S (none, S1) ∧ hFr S S1 (fun p => 10 ≤ p ∧ p < 36) ∧ hLay (hPut S1 7 k x) ∧ (∀ p, 57 ≤ p → (hPut S1 7 k x).2.1 p = S.2.1 p) ∧ Ev 14 [.inr (some (10, 57))] (hPut S1 7 k x) (none, T1) ∧ hLay T1 ∧ T1.2.1 58 = S.2.1 58 ∧ Rel (hPut T1 58 k x) := by
  have hL := h.1
  have hm := h.2.2.2.1
  obtain ⟨S1, b1, b2, b3⟩ := note_both h
  have w7 : S1.2.1 7 = S.2.1 7 := b2.2.2 7 (by omega)
  have hL2 : hLay (hPut S1 7 k x) := (hL.fr b2).put _ _ _
  have e57 : ∀ p, 57 ≤ p → (hPut S1 7 k x).2.1 p = S.2.1 p := fun p hp => by rw [hPut_ne (by omega)]; exact b2.2.2 p (by omega)
  obtain ⟨T1, c1, c2, c3, c4⟩ := b3 (hPut S1 7 k x) hL2 e57
  have t58 : T1.2.1 58 = S.2.1 58 := (c2.2.2 58 (by omega)).trans (e57 58 (by omega))
  have hT1 : hLay T1 := hL2.fr c2
  have tlow : ∀ p, p < 57 → T1.2.1 p = (hPut S1 7 k x).2.1 p := fun p hp => c2.2.2 p (by omega)
  refine ⟨S1, T1, b1, b2, hL2, e57, c1, hT1, t58, ?_⟩
  have f2 : ∀ p, p ≠ 58 → (hPut T1 58 k x).2.1 p = T1.2.1 p := fun p hp => hPut_ne hp
  have fS : ∀ p, ¬ (p = 57 ∨ p = 58 ∨ p = 60 ∨ (6 ≤ p ∧ p < 36)) → (hPut T1 58 k x).2.1 p = S.2.1 p := by
    intro p hp
    rw [f2 p (by omega), c2.2.2 p (by omega), hPut_ne (by omega)]
    exact b2.2.2 p (by omega)
  have e63 : (hPut T1 58 k x).2.1 63 = S.2.1 63 := fS 63 (by omega)
  refine rel_done h ⟨?_, ?_, fS⟩ ?_ ?_ ?_
  · show T1.1 = S.1
    rw [hT1.1, hL.1]
  · show T1.2.2 = S.2.2
    rw [c2.2.1]
    exact b2.2.1
  · intro k hk
    rw [f2 57 (by decide), c3 k hk, e57 57 (by omega)]
  · have r58 : (hPut T1 58 k x).2.1 58 = upd (S.2.1 58) k x := by rw [hPut_at, t58]
    have r7 : (hPut T1 58 k x).2.1 7 = upd (S.2.1 7) k x := by rw [f2 7 (by decide), tlow 7 (by omega), hPut_at, w7]
    have rr : ∀ p, p = 6 ∨ p = 8 ∨ p = 9 → (hPut T1 58 k x).2.1 p = S.2.1 p := by
      intro p hp
      rw [f2 p (by omega), tlow p (by omega), hPut_ne (by omega)]
      exact b2.2.2 p (by omega)
    unfold rMom
    rw [r58, e63, rr 6 (by omega), r7, rr 8 (by omega), rr 9 (by omega)]
    exact ⟨hm.1.slot k hk x, hm.2.slot k hk x hr hp⟩
  · have e3 : (hPut T1 58 k x).2.1 57 3 = T1.2.1 57 3 := by rw [f2 57 (by decide)]
    rw [e3]
    refine c4 _ (fun p g1 g2 => ?_) (f2 60 (by decide)) e63
    rw [f2 p (by omega), tlow p (by omega), hPut_ne (by omega)]
theorem a_ices {S : hS} (h : Rel S) (x : Int32) : Alk 141 62 [.inl x] S := by
  have hL := h.1
  have hm := h.2.2.2.1
  have m8 : S.2.1 7 8 = S.2.1 58 8 := hm.1.1 8 (by decide)
  rcases mIn_iff (v := x) (lo := 0) (hi := 5) with ⟨kx, -⟩ | ⟨kx, x1, x2⟩
  · refine ⟨-1, S, S, ?_, ?_, h⟩
    · show Rn hc_X9_ices 0 [some (.inr (some (9, 0))), some (.inl x), none, none] [] S _
      iterate 3 refine r_step rfl rfl ?_
      refine r_call rfl rfl (e_within _ _ _ _) ?_
      rw [kx]
      iterate 2 refine r_step rfl rfl ?_
      exact r_reti rfl rfl rfl
    · show Rn hc_X10_ices 0 [some (.inr (some (10, 57))), some (.inl x), none] [] S _
      iterate 3 refine r_step rfl rfl ?_
      refine r_call rfl rfl (e_in _ _ _ _) ?_
      rw [kx]
      iterate 2 refine r_step rfl rfl ?_
      exact r_reti rfl rfl rfl
  have startC : ∀ o, Rn hc_X9_ices 19 [some (.inr (some (9, 0))), some (.inl x), some (.inr (some (8, 7))), none] [] S o → Ev 141 [.inr (some (9, 0)), .inl x] S o := by
    intro o k
    show Rn hc_X9_ices 0 [some (.inr (some (9, 0))), some (.inl x), none, none] [] S _
    iterate 3 refine r_step rfl rfl ?_
    refine r_call rfl rfl (e_within _ _ _ _) ?_
    rw [kx]
    iterate 2 refine r_step rfl rfl ?_
    refine r_getr rfl (rv_0_3 hL) ?_
    refine r_getr rfl (rv_6_0 hL) ?_
    refine r_step rfl rfl ?_
    exact k
  have startM : ∀ (T : hS) o, hLay T → Rn hc_X10_ices 19 [some (.inr (some (10, 57))), some (.inl x), some (.inl (T.2.1 58 8))] [] T o → Ev 62 [.inr (some (10, 57)), .inl x] T o := by
    intro T o hT k
    show Rn hc_X10_ices 0 [some (.inr (some (10, 57))), some (.inl x), none] [] T _
    iterate 3 refine r_step rfl rfl ?_
    refine r_call rfl rfl (e_in _ _ _ _) ?_
    rw [kx]
    iterate 2 refine r_step rfl rfl ?_
    refine r_getr rfl (rv_57_0 hT) ?_
    refine r_step rfl rfl ?_
    refine r_iald rfl 8 rfl ⟨⟨by decide, by decide⟩, by decide⟩ ?_
    refine r_step rfl rfl ?_
    exact k
  by_cases same : S.2.1 58 8 = x
  · refine ⟨-2, S, S, startC _ ?_, startM S _ hL ?_, h⟩
    · iterate 4 refine r_step rfl rfl ?_
      refine r_i_ne (fun q => absurd (m8.trans same) q) (fun _ => ?_)
      refine r_step rfl rfl ?_
      exact r_reti rfl rfl rfl
    · iterate 3 refine r_step rfl rfl ?_
      refine r_i_ne (fun q => absurd same q) (fun _ => ?_)
      refine r_step rfl rfl ?_
      exact r_reti rfl rfl rfl
  · obtain ⟨r0, r1, r2, r3, r4, r5, r6, r7, r8, r9, r10, r15⟩ := hm.2.1
    obtain ⟨S1, T1, d1, d2, d3, d4, d5, d6, d7, d8⟩ := done_slot h 8 x (by decide) ⟨r0, r1, r2, r3, r4, r5, r6, r7, ⟨x1, x2⟩, r9, r10, r15⟩ (hm.2.2.1.slot 8 (by decide) x)
    refine ⟨S.2.1 58 8, hPut S1 7 8 x, hPut T1 58 8 x, startC _ ?_, startM _ _ d3 ?_, d8⟩
    · iterate 4 refine r_step rfl rfl ?_
      refine r_i_ne (fun _ => ?_) (fun q => absurd (m8.symm.trans q) same)
      refine r_step rfl rfl ?_
      refine r_getr rfl (rv_0_4 hL) ?_
      refine r_step rfl rfl ?_
      refine r_getr rfl (rv_0_3 hL) ?_
      refine r_callv rfl rfl d1 ?_
      repeat' (first | refine r_reti rfl ?_ rfl | refine r_step rfl rfl ?_ | with_reducible refine r_i_eq (fun c => ?_) (fun c => ?_) | with_reducible refine r_i_ne (fun c => ?_) (fun c => ?_) | with_reducible refine r_i_lt (fun c => ?_) (fun c => ?_) | with_reducible refine r_i_ge (fun c => ?_) (fun c => ?_) | with_reducible refine r_i_gt (fun c => ?_) (fun c => ?_) | with_reducible refine r_i_le (fun c => ?_) (fun c => ?_))
      rw [d2.2.2 7 (by omega)]
      exact m8
    · rw [d4 58 (by omega)]
      iterate 3 refine r_step rfl rfl ?_
      refine r_i_ne (fun _ => ?_) (fun q => absurd q same)
      refine r_step rfl rfl ?_
      refine r_callv rfl rfl d5 ?_
      refine r_step rfl rfl ?_
      refine r_getr rfl (rv_57_0 d6) ?_
      iterate 2 refine r_step rfl rfl ?_
      refine r_iast0 rfl 8 rfl ⟨⟨by decide, by decide⟩, by decide⟩ ?_
      refine r_step rfl rfl ?_
      exact r_reti rfl rfl rfl
