theorem a_grids {S : hS} (h : Rel S) (x : Int32) : Alk 138 100 [.inl x] S := by
  have hL := h.1
  have hm := h.2.2.2.1
  have m0 : S.2.1 7 0 = S.2.1 58 0 := hm.1.1 0 (by decide)
  have mk : S.2.1 7 9 = S.2.1 58 9 := hm.1.1 9 (by decide)
  rcases mIn_iff (v := x) (lo := 0) (hi := 1) with ⟨kx, -⟩ | ⟨kx, x1, x2⟩
  · refine ⟨-1, S, S, ?_, ?_, h⟩
    · show Rn hc_X9_grids 0 [some (.inr (some (9, 0))), some (.inl x), none] [] S _
      iterate 3 refine r_step rfl rfl ?_
      refine r_call rfl rfl (e_within _ _ _ _) ?_
      rw [kx]
      iterate 2 refine r_step rfl rfl ?_
      exact r_reti rfl rfl rfl
    · have b : Ev 56 [.inr (some (10, 57)), .inl 9, .inl x] S (some (-1), S) := by
        show Rn hc_X10_becomes 0 [some (.inr (some (10, 57))), some (.inl 9), some (.inl x)] [] S _
        iterate 3 refine r_step rfl rfl ?_
        refine r_call rfl rfl (e_in _ _ _ _) ?_
        rw [kx]
        iterate 2 refine r_step rfl rfl ?_
        exact r_reti rfl rfl rfl
      show Rn hc_X10_grids 0 [some (.inr (some (10, 57))), some (.inl x)] [] S _
      iterate 3 refine r_step rfl rfl ?_
      refine r_call rfl rfl b ?_
      exact r_reti rfl rfl rfl
  have hx : x = 0 ∨ x = 1 := by
    obtain ⟨j, hj, rfl⟩ := bt_nI (hi := 1) (x := x) ⟨x1, x2⟩ (by decide)
    match j, hj with
    | 0, _ => exact Or.inl rfl
    | 1, _ => exact Or.inr rfl
    | n + 2, h => exact absurd h (by omega)
  have startC : ∀ o, Rn hc_X9_grids 33 [some (.inr (some (9, 0))), some (.inl x), some (.inr (some (8, 7)))] [.inl x, .inl (S.2.1 7 9)] S o → Ev 138 [.inr (some (9, 0)), .inl x] S o := by
    intro o k
    show Rn hc_X9_grids 0 [some (.inr (some (9, 0))), some (.inl x), none] [] S _
    iterate 3 refine r_step rfl rfl ?_
    refine r_call rfl rfl (e_within _ _ _ _) ?_
    rw [kx]
    iterate 2 refine r_step rfl rfl ?_
    refine r_getr rfl (rv_0_3 hL) ?_
    refine r_getr rfl (rv_6_0 hL) ?_
    iterate 6 refine r_step rfl rfl ?_
    rcases hx with rfl | rfl
    · refine r_i_ne (fun _ => ?_) (fun q => absurd q (by decide))
      refine r_step rfl rfl ?_
      exact k
    · refine r_i_ne (fun q => absurd rfl q) (fun _ => ?_)
      iterate 2 refine r_step rfl rfl ?_
      exact k
  have startM : ∀ (T : hS) r T', hLay T → Rn hc_X10_becomes 17 [some (.inr (some (10, 57))), some (.inl 9), some (.inl x)] [.inl (T.2.1 58 9)] T (some r, T') → Ev 100 [.inr (some (10, 57)), .inl x] T (some r, T') := by
    intro T r T' hT k
    have b : Ev 56 [.inr (some (10, 57)), .inl 9, .inl x] T (some r, T') := by
      show Rn hc_X10_becomes 0 [some (.inr (some (10, 57))), some (.inl 9), some (.inl x)] [] T _
      iterate 3 refine r_step rfl rfl ?_
      refine r_call rfl rfl (e_in _ _ _ _) ?_
      rw [kx]
      iterate 2 refine r_step rfl rfl ?_
      refine r_getr rfl (rv_57_0 hT) ?_
      refine r_step rfl rfl ?_
      refine r_iald rfl 9 rfl ⟨⟨by decide, by decide⟩, by decide⟩ ?_
      exact k
    show Rn hc_X10_grids 0 [some (.inr (some (10, 57))), some (.inl x)] [] T _
    iterate 3 refine r_step rfl rfl ?_
    refine r_call rfl rfl b ?_
    exact r_reti rfl rfl rfl
  by_cases same : S.2.1 58 9 = x
  · refine ⟨-2, S, S, startC _ ?_, startM S _ _ hL ?_, h⟩
    · refine r_step rfl rfl ?_
      refine r_i_ne (fun q => absurd (mk.trans same) q) (fun _ => ?_)
      refine r_step rfl rfl ?_
      exact r_reti rfl rfl rfl
    · iterate 2 refine r_step rfl rfl ?_
      refine r_i_ne (fun q => absurd same q) (fun _ => ?_)
      refine r_step rfl rfl ?_
      exact r_reti rfl rfl rfl
  · obtain ⟨r0, r1, r2, r3, r4, r5, r6, r7, r8, r9, r10, r15⟩ := hm.2.1
    obtain ⟨S1, T1, d1, d2, d3, d4, d5, d6, d7, d8⟩ := done_slot h 9 x (by decide) ⟨r0, r1, r2, r3, r4, r5, r6, r7, r8, hx, r10, r15⟩ (hm.2.2.1.slot 9 (by decide) x)
    refine ⟨S.2.1 58 0, hPut S1 7 9 x, hPut T1 58 9 x, startC _ ?_, startM _ _ _ d3 ?_, d8⟩
    · refine r_step rfl rfl ?_
      refine r_i_ne (fun _ => ?_) (fun q => absurd (mk.symm.trans q) same)
      refine r_step rfl rfl ?_
      refine r_getr rfl (rv_0_4 hL) ?_
      refine r_step rfl rfl ?_
      refine r_getr rfl (rv_0_3 hL) ?_
      refine r_callv rfl rfl d1 ?_
      iterate 4 refine r_step rfl rfl ?_
      have tail : Rn hc_X9_grids 61 [some (.inr (some (9, 0))), some (.inl x), some (.inr (some (8, 7)))] [.inl x, .inr (some (8, 7))] S1 (some (S.2.1 58 0), hPut S1 7 9 x) := by
        refine r_putz0 rfl hx ?_
        iterate 2 refine r_step rfl rfl ?_
        refine r_reti rfl ?_ rfl
        rw [hPut_at, pk_un (by decide), d2.2.2 7 (by omega)]
        exact m0
      rcases hx with rfl | rfl
      · refine r_i_ne (fun _ => ?_) (fun q => absurd q (by decide))
        refine r_step rfl rfl ?_
        exact tail
      · refine r_i_ne (fun q => absurd rfl q) (fun _ => ?_)
        iterate 2 refine r_step rfl rfl ?_
        exact tail
    · rw [d4 58 (by omega)]
      iterate 2 refine r_step rfl rfl ?_
      refine r_i_ne (fun _ => ?_) (fun q => absurd q same)
      refine r_step rfl rfl ?_
      refine r_callv rfl rfl d5 ?_
      refine r_step rfl rfl ?_
      refine r_getr rfl (rv_57_0 d6) ?_
      iterate 2 refine r_step rfl rfl ?_
      refine r_iast0 rfl 9 rfl ⟨⟨by decide, by decide⟩, by decide⟩ ?_
      refine r_step rfl rfl ?_
      refine r_getr rfl (rv_57_0 d6) ?_
      refine r_step rfl rfl ?_
      refine r_iald rfl 0 rfl ⟨⟨by decide, by decide⟩, by decide⟩ ?_
      refine r_reti rfl ?_ rfl
      rw [hPut_at, pk_un (by decide), d7]
theorem a_wants {S : hS} (h : Rel S) (x : Int32) : Alk 148 105 [.inl x] S := by
  have hL := h.1
  have hm := h.2.2.2.1
  have m0 : S.2.1 7 0 = S.2.1 58 0 := hm.1.1 0 (by decide)
  have mk : S.2.1 7 10 = S.2.1 58 10 := hm.1.1 10 (by decide)
  rcases mIn_iff (v := x) (lo := 0) (hi := 1) with ⟨kx, -⟩ | ⟨kx, x1, x2⟩
  · refine ⟨-1, S, S, ?_, ?_, h⟩
    · show Rn hc_X9_wants 0 [some (.inr (some (9, 0))), some (.inl x), none] [] S _
      iterate 3 refine r_step rfl rfl ?_
      refine r_call rfl rfl (e_within _ _ _ _) ?_
      rw [kx]
      iterate 2 refine r_step rfl rfl ?_
      exact r_reti rfl rfl rfl
    · have b : Ev 56 [.inr (some (10, 57)), .inl 10, .inl x] S (some (-1), S) := by
        show Rn hc_X10_becomes 0 [some (.inr (some (10, 57))), some (.inl 10), some (.inl x)] [] S _
        iterate 3 refine r_step rfl rfl ?_
        refine r_call rfl rfl (e_in _ _ _ _) ?_
        rw [kx]
        iterate 2 refine r_step rfl rfl ?_
        exact r_reti rfl rfl rfl
      show Rn hc_X10_wants 0 [some (.inr (some (10, 57))), some (.inl x)] [] S _
      iterate 3 refine r_step rfl rfl ?_
      refine r_call rfl rfl b ?_
      exact r_reti rfl rfl rfl
  have hx : x = 0 ∨ x = 1 := by
    obtain ⟨j, hj, rfl⟩ := bt_nI (hi := 1) (x := x) ⟨x1, x2⟩ (by decide)
    match j, hj with
    | 0, _ => exact Or.inl rfl
    | 1, _ => exact Or.inr rfl
    | n + 2, h => exact absurd h (by omega)
  have startC : ∀ o, Rn hc_X9_wants 33 [some (.inr (some (9, 0))), some (.inl x), some (.inr (some (8, 7)))] [.inl x, .inl (S.2.1 7 10)] S o → Ev 148 [.inr (some (9, 0)), .inl x] S o := by
    intro o k
    show Rn hc_X9_wants 0 [some (.inr (some (9, 0))), some (.inl x), none] [] S _
    iterate 3 refine r_step rfl rfl ?_
    refine r_call rfl rfl (e_within _ _ _ _) ?_
    rw [kx]
    iterate 2 refine r_step rfl rfl ?_
    refine r_getr rfl (rv_0_3 hL) ?_
    refine r_getr rfl (rv_6_0 hL) ?_
    iterate 6 refine r_step rfl rfl ?_
    rcases hx with rfl | rfl
    · refine r_i_ne (fun _ => ?_) (fun q => absurd q (by decide))
      refine r_step rfl rfl ?_
      exact k
    · refine r_i_ne (fun q => absurd rfl q) (fun _ => ?_)
      iterate 2 refine r_step rfl rfl ?_
      exact k
  have startM : ∀ (T : hS) r T', hLay T → Rn hc_X10_becomes 17 [some (.inr (some (10, 57))), some (.inl 10), some (.inl x)] [.inl (T.2.1 58 10)] T (some r, T') → Ev 105 [.inr (some (10, 57)), .inl x] T (some r, T') := by
    intro T r T' hT k
    have b : Ev 56 [.inr (some (10, 57)), .inl 10, .inl x] T (some r, T') := by
      show Rn hc_X10_becomes 0 [some (.inr (some (10, 57))), some (.inl 10), some (.inl x)] [] T _
      iterate 3 refine r_step rfl rfl ?_
      refine r_call rfl rfl (e_in _ _ _ _) ?_
      rw [kx]
      iterate 2 refine r_step rfl rfl ?_
      refine r_getr rfl (rv_57_0 hT) ?_
      refine r_step rfl rfl ?_
      refine r_iald rfl 10 rfl ⟨⟨by decide, by decide⟩, by decide⟩ ?_
      exact k
    show Rn hc_X10_wants 0 [some (.inr (some (10, 57))), some (.inl x)] [] T _
    iterate 3 refine r_step rfl rfl ?_
    refine r_call rfl rfl b ?_
    exact r_reti rfl rfl rfl
  by_cases same : S.2.1 58 10 = x
  · refine ⟨-2, S, S, startC _ ?_, startM S _ _ hL ?_, h⟩
    · refine r_step rfl rfl ?_
      refine r_i_ne (fun q => absurd (mk.trans same) q) (fun _ => ?_)
      refine r_step rfl rfl ?_
      exact r_reti rfl rfl rfl
    · iterate 2 refine r_step rfl rfl ?_
      refine r_i_ne (fun q => absurd same q) (fun _ => ?_)
      refine r_step rfl rfl ?_
      exact r_reti rfl rfl rfl
  · obtain ⟨r0, r1, r2, r3, r4, r5, r6, r7, r8, r9, r10, r15⟩ := hm.2.1
    obtain ⟨S1, T1, d1, d2, d3, d4, d5, d6, d7, d8⟩ := done_slot h 10 x (by decide) ⟨r0, r1, r2, r3, r4, r5, r6, r7, r8, r9, hx, r15⟩ (hm.2.2.1.slot 10 (by decide) x)
    refine ⟨S.2.1 58 0, hPut S1 7 10 x, hPut T1 58 10 x, startC _ ?_, startM _ _ _ d3 ?_, d8⟩
    · refine r_step rfl rfl ?_
      refine r_i_ne (fun _ => ?_) (fun q => absurd (mk.symm.trans q) same)
      refine r_step rfl rfl ?_
      refine r_getr rfl (rv_0_4 hL) ?_
      refine r_step rfl rfl ?_
      refine r_getr rfl (rv_0_3 hL) ?_
      refine r_callv rfl rfl d1 ?_
      iterate 4 refine r_step rfl rfl ?_
      have tail : Rn hc_X9_wants 61 [some (.inr (some (9, 0))), some (.inl x), some (.inr (some (8, 7)))] [.inl x, .inr (some (8, 7))] S1 (some (S.2.1 58 0), hPut S1 7 10 x) := by
        refine r_putz0 rfl hx ?_
        iterate 2 refine r_step rfl rfl ?_
        refine r_reti rfl ?_ rfl
        rw [hPut_at, pk_un (by decide), d2.2.2 7 (by omega)]
        exact m0
      rcases hx with rfl | rfl
      · refine r_i_ne (fun _ => ?_) (fun q => absurd q (by decide))
        refine r_step rfl rfl ?_
        exact tail
      · refine r_i_ne (fun q => absurd rfl q) (fun _ => ?_)
        iterate 2 refine r_step rfl rfl ?_
        exact tail
    · rw [d4 58 (by omega)]
      iterate 2 refine r_step rfl rfl ?_
      refine r_i_ne (fun _ => ?_) (fun q => absurd q same)
      refine r_step rfl rfl ?_
      refine r_callv rfl rfl d5 ?_
      refine r_step rfl rfl ?_
      refine r_getr rfl (rv_57_0 d6) ?_
      iterate 2 refine r_step rfl rfl ?_
      refine r_iast0 rfl 10 rfl ⟨⟨by decide, by decide⟩, by decide⟩ ?_
      refine r_step rfl rfl ?_
      refine r_getr rfl (rv_57_0 d6) ?_
      refine r_step rfl rfl ?_
      refine r_iald rfl 0 rfl ⟨⟨by decide, by decide⟩, by decide⟩ ?_
      refine r_reti rfl ?_ rfl
      rw [hPut_at, pk_un (by decide), d7]
theorem a_resets {S : hS} (h : Rel S) : Alk 145 67 [] S := by
  have hL := h.1
  have hm := h.2.2.2.1
  have m0 : S.2.1 7 0 = S.2.1 58 0 := hm.1.1 0 (by decide)
  have m1 : S.2.1 7 1 = S.2.1 58 1 := hm.1.1 1 (by decide)
  have m6 : S.2.1 7 6 = S.2.1 58 6 := hm.1.1 6 (by decide)
  have startC : ∀ o, Rn hc_X9_resets 8 [some (.inr (some (9, 0))), some (.inr (some (8, 7)))] [] S o → Ev 145 [.inr (some (9, 0))] S o := by
    intro o k
    show Rn hc_X9_resets 0 [some (.inr (some (9, 0))), none] [] S _
    refine r_step rfl rfl ?_
    refine r_getr rfl (rv_0_3 hL) ?_
    refine r_getr rfl (rv_6_0 hL) ?_
    refine r_step rfl rfl ?_
    exact k
  have startM : ∀ (T : hS) o, hLay T → Rn hc_X10_resets 6 [some (.inr (some (10, 57)))] [.inl (T.2.1 58 0)] T o → Ev 67 [.inr (some (10, 57))] T o := by
    intro T o hT k
    show Rn hc_X10_resets 0 [some (.inr (some (10, 57)))] [] T _
    refine r_step rfl rfl ?_
    refine r_getr rfl (rv_57_0 hT) ?_
    refine r_step rfl rfl ?_
    refine r_iald rfl 0 rfl ⟨⟨by decide, by decide⟩, by decide⟩ ?_
    exact k
  by_cases ok : S.2.1 58 0 = 5 ∧ S.2.1 58 1 = 0
  · obtain ⟨r0, r1, r2, r3, r4, r5, r6, r7, r8, r9, r10, r15⟩ := hm.2.1
    have pot : wPot (upd (S.2.1 58) 0 0) := by
      obtain ⟨p1, p2, p3⟩ := hm.2.2.1
      have e1 : upd (S.2.1 58) 0 0 1 = 0 := (pk_un (by decide)).trans ok.2
      have e2 : upd (S.2.1 58) 0 0 2 = S.2.1 58 2 := pk_un (by decide)
      have e0 : upd (S.2.1 58) 0 0 0 = 0 := pk_us
      unfold wPot
      rw [e0, e1, e2]
      refine ⟨fun _ => ?_, fun q => absurd rfl q, fun q => absurd q (by decide)⟩
      have q := p3 ok.1
      rw [ok.2, i_z] at q
      have g6 : 6 ≤ (S.2.1 58 2).toInt := by omega
      have g90 := r2.2
      have := sq_le (a := 90 - (S.2.1 58 2).toInt) (b := 84) (by omega) (by omega)
      rw [i_z]
      omega
    obtain ⟨S1, T1, d1, d2, d3, d4, d5, d6, d7, d8⟩ := done_slot h 0 0 (by decide) ⟨Or.inl rfl, r1, r2, r3, r4, r5, r6, r7, r8, r9, r10, r15⟩ pot
    refine ⟨S.2.1 58 6, hPut S1 7 0 0, hPut T1 58 0 0, startC _ ?_, startM _ _ d3 ?_, d8⟩
    · iterate 4 refine r_step rfl rfl ?_
      refine r_i_ne (fun q => absurd (m0.trans ok.1) q) (fun _ => ?_)
      iterate 3 refine r_step rfl rfl ?_
      refine r_i_eq (fun _ => ?_) (fun q => absurd (m1.trans ok.2) q)
      refine r_step rfl rfl ?_
      refine r_getr rfl (rv_0_4 hL) ?_
      refine r_step rfl rfl ?_
      refine r_getr rfl (rv_0_3 hL) ?_
      refine r_callv rfl rfl d1 ?_
      repeat' (first | refine r_reti rfl ?_ rfl | refine r_step rfl rfl ?_ | with_reducible refine r_i_eq (fun c => ?_) (fun c => ?_) | with_reducible refine r_i_ne (fun c => ?_) (fun c => ?_) | with_reducible refine r_i_lt (fun c => ?_) (fun c => ?_) | with_reducible refine r_i_ge (fun c => ?_) (fun c => ?_) | with_reducible refine r_i_gt (fun c => ?_) (fun c => ?_) | with_reducible refine r_i_le (fun c => ?_) (fun c => ?_))
      rw [hPut_at, pk_un (by decide), d2.2.2 7 (by omega)]
      exact m6
    · rw [d4 58 (by omega)]
      iterate 2 refine r_step rfl rfl ?_
      refine r_i_ne (fun q => absurd ok.1 q) (fun _ => ?_)
      refine r_step rfl rfl ?_
      refine r_getr rfl (rv_57_0 d3) ?_
      refine r_step rfl rfl ?_
      refine r_iald rfl 1 rfl ⟨⟨by decide, by decide⟩, by decide⟩ ?_
      rw [d4 58 (by omega)]
      refine r_step rfl rfl ?_
      refine r_i_eq (fun _ => ?_) (fun q => absurd ok.2 q)
      refine r_step rfl rfl ?_
      refine r_callv rfl rfl d5 ?_
      refine r_step rfl rfl ?_
      refine r_getr rfl (rv_57_0 d6) ?_
      iterate 2 refine r_step rfl rfl ?_
      refine r_iast0 rfl 0 rfl ⟨⟨by decide, by decide⟩, by decide⟩ ?_
      refine r_step rfl rfl ?_
      refine r_getr rfl (rv_57_0 d6) ?_
      refine r_step rfl rfl ?_
      refine r_iald rfl 6 rfl ⟨⟨by decide, by decide⟩, by decide⟩ ?_
      refine r_reti rfl ?_ rfl
      rw [hPut_at, pk_un (by decide), d7]
  · refine ⟨-2, S, S, startC _ ?_, startM S _ hL ?_, h⟩
    · have tail : Rn hc_X9_resets 23 [some (.inr (some (9, 0))), some (.inr (some (8, 7)))] [] S (some (-2), S) := by
        refine r_step rfl rfl ?_
        exact r_reti rfl rfl rfl
      iterate 4 refine r_step rfl rfl ?_
      refine r_i_ne (fun _ => tail) (fun q => ?_)
      iterate 3 refine r_step rfl rfl ?_
      exact r_i_eq (fun q2 => absurd ⟨m0.symm.trans q, m1.symm.trans q2⟩ ok) (fun _ => tail)
    · have tail : Rn hc_X10_resets 19 [some (.inr (some (10, 57)))] [] S (some (-2), S) := by
        refine r_step rfl rfl ?_
        exact r_reti rfl rfl rfl
      iterate 2 refine r_step rfl rfl ?_
      refine r_i_ne (fun _ => tail) (fun q => ?_)
      refine r_step rfl rfl ?_
      refine r_getr rfl (rv_57_0 hL) ?_
      refine r_step rfl rfl ?_
      refine r_iald rfl 1 rfl ⟨⟨by decide, by decide⟩, by decide⟩ ?_
      refine r_step rfl rfl ?_
      exact r_i_eq (fun q2 => absurd ⟨q, q2⟩ ok) (fun _ => tail)
