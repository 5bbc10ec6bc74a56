/-! What is made anew. -/
theorem e_setNew (S : hS) : ∃ S', Ev 36 [.inr (some (5, 5))] S (none, S') ∧ hFr S S' (fun p => p = 5) ∧ ∀ j, j < 6 → S'.2.1 5 j = made_s j := by
  refine ⟨hPut (hPut (hPut (hPut (hPut (hPut S 5 0 100) 5 1 130) 5 2 4) 5 3 30) 5 4 72) 5 5 3, ?_, ?_, ?_⟩
  · show Rn hc_X5_startAnew 0 [some (.inr (some (5, 5)))] [] S _
    iterate 18 refine r_step rfl rfl ?_
    exact r_retn rfl rfl
  · repeat (first | exact hFr.rf _ _ | refine hFr.trans ?_ (hFr_put _ _ _ _ rfl))
  · intro j hj
    match j, hj with
    | 0, _ => rfl
    | 1, _ => rfl
    | 2, _ => rfl
    | 3, _ => rfl
    | 4, _ => rfl
    | 5, _ => rfl
    | n + 6, h => exact absurd h (by omega)
theorem e_plain (S : hS) (hL : hLay S) : ∃ S', Ev 17 [.inr (some (10, 57))] S (none, hPut S' 57 15 0) ∧ hFr S S' (fun p => p = 65) ∧ ∀ j, j < 6 → S'.2.1 65 j = made_s j := by
  refine ⟨hPut (hPut (hPut (hPut (hPut (hPut S 65 0 100) 65 1 130) 65 2 4) 65 3 30) 65 4 72) 65 5 3, ?_, ?_, ?_⟩
  · show Rn hc_X10_plain 0 [some (.inr (some (10, 57)))] [] S _
    refine r_step rfl rfl ?_
    refine r_getr rfl (rv_57_14 hL) ?_
    iterate 2 refine r_step rfl rfl ?_
    refine r_iast0 rfl 0 rfl ⟨⟨by decide, by decide⟩, by decide⟩ ?_
    refine r_step rfl rfl ?_
    refine r_getr rfl (rv_57_14 (hL.put _ _ _)) ?_
    iterate 2 refine r_step rfl rfl ?_
    refine r_iast0 rfl 1 rfl ⟨⟨by decide, by decide⟩, by decide⟩ ?_
    refine r_step rfl rfl ?_
    refine r_getr rfl (rv_57_14 ((hL.put _ _ _).put _ _ _)) ?_
    iterate 2 refine r_step rfl rfl ?_
    refine r_iast0 rfl 2 rfl ⟨⟨by decide, by decide⟩, by decide⟩ ?_
    refine r_step rfl rfl ?_
    refine r_getr rfl (rv_57_14 (((hL.put _ _ _).put _ _ _).put _ _ _)) ?_
    iterate 2 refine r_step rfl rfl ?_
    refine r_iast0 rfl 3 rfl ⟨⟨by decide, by decide⟩, by decide⟩ ?_
    refine r_step rfl rfl ?_
    refine r_getr rfl (rv_57_14 ((((hL.put _ _ _).put _ _ _).put _ _ _).put _ _ _)) ?_
    iterate 2 refine r_step rfl rfl ?_
    refine r_iast0 rfl 4 rfl ⟨⟨by decide, by decide⟩, by decide⟩ ?_
    refine r_step rfl rfl ?_
    refine r_getr rfl (rv_57_14 (((((hL.put _ _ _).put _ _ _).put _ _ _).put _ _ _).put _ _ _)) ?_
    iterate 2 refine r_step rfl rfl ?_
    refine r_iast0 rfl 5 rfl ⟨⟨by decide, by decide⟩, by decide⟩ ?_
    iterate 3 refine r_step rfl rfl ?_
    exact r_retn rfl rfl
  · repeat (first | exact hFr.rf _ _ | refine hFr.trans ?_ (hFr_put _ _ _ _ rfl))
  · intro j hj
    match j, hj with
    | 0, _ => rfl
    | 1, _ => rfl
    | 2, _ => rfl
    | 3, _ => rfl
    | 4, _ => rfl
    | 5, _ => rfl
    | n + 6, h => exact absurd h (by omega)
theorem e_setBecome (S : hS) : ∃ S', Ev 34 [.inr (some (5, 1)), .inr (some (5, 5))] S (none, S') ∧ hFr S S' (fun p => p = 1) ∧ ∀ j, j < 6 → S'.2.1 1 j = S.2.1 5 j := by
  refine ⟨hPut (hPut (hPut (hPut (hPut (hPut S 1 0 (S.2.1 5 0)) 1 1 (S.2.1 5 1)) 1 2 (S.2.1 5 2)) 1 3 (S.2.1 5 3)) 1 4 (S.2.1 5 4)) 1 5 (S.2.1 5 5), ?_, ?_, ?_⟩
  · show Rn hc_X5_become 0 [some (.inr (some (5, 1))), some (.inr (some (5, 5)))] [] S _
    iterate 24 refine r_step rfl rfl ?_
    exact r_retn rfl rfl
  · repeat (first | exact hFr.rf _ _ | refine hFr.trans ?_ (hFr_put _ _ _ _ rfl))
  · intro j hj
    match j, hj with
    | 0, _ => rfl
    | 1, _ => rfl
    | 2, _ => rfl
    | 3, _ => rfl
    | 4, _ => rfl
    | 5, _ => rfl
    | n + 6, h => exact absurd h (by omega)
def wAnew (f : Nat → Int32) : Nat → Int32 := upd (upd (upd (upd (upd (upd (upd (upd (upd (upd (upd (upd (upd (upd (upd (upd f 0 0) 1 0) 2 90) 3 0) 4 0) 5 0) 6 0) 7 0) 8 0) 9 1) 10 1) 11 0) 12 0) 13 0) 14 0) 15 0
theorem wAnew_at (f : Nat → Int32) (j : Nat) (hj : j < 16) : wAnew f j = made_w j := by
  match j, hj with
  | 0, _ => rfl
  | 1, _ => rfl
  | 2, _ => rfl
  | 3, _ => rfl
  | 4, _ => rfl
  | 5, _ => rfl
  | 6, _ => rfl
  | 7, _ => rfl
  | 8, _ => rfl
  | 9, _ => rfl
  | 10, _ => rfl
  | 11, _ => rfl
  | 12, _ => rfl
  | 13, _ => rfl
  | 14, _ => rfl
  | 15, _ => rfl
  | n + 16, h => exact absurd h (by omega)
theorem e_wheelNew (S : hS) : ∃ S', Ev 45 [.inr (some (8, 7))] S (none, S') ∧ hFr S S' (fun p => p = 7) ∧ ∀ j, j < 16 → S'.2.1 7 j = made_w j := by
  refine ⟨hRow S 7 (wAnew (S.2.1 7)), ?_, hFr_row _ _ _ rfl, ?_⟩
  · show Rn hc_X8_startAnew 0 [some (.inr (some (8, 7)))] [] S _
    iterate 3 refine r_step rfl rfl ?_
    iterate 3 refine r_step rfl rfl ?_
    iterate 3 refine r_step rfl rfl ?_
    iterate 3 refine r_step rfl rfl ?_
    iterate 3 refine r_step rfl rfl ?_
    iterate 3 refine r_step rfl rfl ?_
    iterate 3 refine r_step rfl rfl ?_
    iterate 3 refine r_step rfl rfl ?_
    iterate 3 refine r_step rfl rfl ?_
    iterate 2 refine r_step rfl rfl ?_
    refine r_putz rfl (Or.inr rfl) (fun _ e => ?_)
    subst e
    iterate 2 refine r_step rfl rfl ?_
    refine r_putz rfl (Or.inr rfl) (fun _ e => ?_)
    subst e
    iterate 3 refine r_step rfl rfl ?_
    iterate 3 refine r_step rfl rfl ?_
    iterate 3 refine r_step rfl rfl ?_
    iterate 3 refine r_step rfl rfl ?_
    iterate 2 refine r_step rfl rfl ?_
    refine r_putz rfl (Or.inl rfl) (fun _ e => ?_)
    subst e
    refine r_retn rfl ?_
    simp only [hPut_eq, hRow_at, hRow_row, wAnew]
  · intro j hj
    rw [hRow_at]
    exact wAnew_at _ j hj
theorem e_traceNew (S : hS) : Ev 40 [.inr (some (7, 8))] S (none, hPut (hPut S 8 1 0) 8 2 0) := by
  show Rn hc_X7_startAnew 0 [some (.inr (some (7, 8)))] [] S _
  iterate 6 refine r_step rfl rfl ?_
  exact r_retn rfl rfl
theorem e_presNew (S : hS) (hL : hLay S) : ∃ S', Ev 54 [.inr (some (0, 6))] S (none, S') ∧ hFr S S' (fun p => p = 6 ∨ p = 7 ∨ p = 8) ∧ (∀ j, j < 16 → S'.2.1 7 j = made_w j) ∧ S'.2.1 6 2 = 0 ∧ S'.2.1 6 3 = 0 ∧ S'.2.1 8 1 = 0 ∧ S'.2.1 8 2 = 0 := by
  obtain ⟨S1, a1, a2, a3⟩ := e_wheelNew S
  have hL1 := hL.fr a2
  refine ⟨hPut (hPut (hPut (hPut S1 8 1 0) 8 2 0) 6 2 0) 6 3 0, ?_, ?_, ?_, ?_, ?_, ?_, ?_⟩
  · show Rn hc_X0_startAnew 0 [some (.inr (some (0, 6)))] [] S _
    refine r_step rfl rfl ?_
    refine r_getr rfl (rv_6_0 hL) ?_
    refine r_callv rfl rfl a1 ?_
    refine r_step rfl rfl ?_
    refine r_getr rfl (rv_6_1 hL1) ?_
    refine r_callv rfl rfl (e_traceNew S1) ?_
    iterate 6 refine r_step rfl rfl ?_
    exact r_retn rfl rfl
  · exact ((((a2.mono (fun p hp => by omega)).trans (hFr_put _ _ _ _ (by omega))).trans (hFr_put _ _ _ _ (by omega))).trans (hFr_put _ _ _ _ (by omega))).trans (hFr_put _ _ _ _ (by omega))
  · intro j hj
    rw [hPut_ne (by decide), hPut_ne (by decide), hPut_ne (by decide), hPut_ne (by decide)]
    exact a3 j hj
  · rw [hPut_at, pk_un (by decide), hPut_at, pk_us]
  · rw [hPut_at, pk_us]
  · rw [hPut_ne (by decide), hPut_ne (by decide), hPut_at, pk_un (by decide), hPut_at, pk_us]
  · rw [hPut_ne (by decide), hPut_ne (by decide), hPut_at, pk_us]
theorem e_lose (S : hS) : Ev 26 [.inr (some (1, 10))] S (none, hPut S 10 2 0) := by
  show Rn hc_X1_lose 0 [some (.inr (some (1, 10)))] [] S _
  iterate 3 refine r_step rfl rfl ?_
  exact r_retn rfl rfl
theorem e_loseImages (S : hS) (hL : hLay S) : Ev 53 [.inr (some (9, 0))] S (none, hPut (hPut S 45 0 0) 45 1 0) := by
  show Rn hc_X9_loseImages 0 [some (.inr (some (9, 0))), none] [] S _
  iterate 4 refine r_step rfl rfl ?_
  refine r_getr rfl (rv_0_6 hL) ?_
  iterate 2 refine r_step rfl rfl ?_
  refine r_i_ge (fun q => absurd q (by decide)) (fun _ => ?_)
  refine r_step rfl rfl ?_
  refine r_getr rfl (rv_0_6 hL) ?_
  iterate 2 refine r_step rfl rfl ?_
  refine r_bast rfl 0 rfl ⟨⟨by decide, by decide⟩, by decide⟩ (Or.inl rfl) (fun _ e => ?_)
  subst e
  iterate 4 refine r_step rfl rfl ?_
  refine r_getr rfl (rv_0_6 (hL.put _ _ _)) ?_
  iterate 2 refine r_step rfl rfl ?_
  refine r_i_ge (fun q => absurd q (by decide)) (fun _ => ?_)
  refine r_step rfl rfl ?_
  refine r_getr rfl (rv_0_6 (hL.put _ _ _)) ?_
  iterate 2 refine r_step rfl rfl ?_
  refine r_bast rfl 1 rfl ⟨⟨by decide, by decide⟩, by decide⟩ (Or.inl rfl) (fun _ e => ?_)
  subst e
  iterate 4 refine r_step rfl rfl ?_
  refine r_getr rfl (rv_0_6 ((hL.put _ _ _).put _ _ _)) ?_
  iterate 2 refine r_step rfl rfl ?_
  refine r_i_ge (fun _ => ?_) (fun q => absurd (by decide) q)
  exact r_retn rfl rfl
theorem to_set : ∀ (d k : Nat) (T : hS), k + d = 6 → hLay T → (∀ j, j < k → T.2.1 63 j = T.2.1 65 j) → ∃ T', hFr T T' (fun p => p = 63) ∧ (∀ j, j < 6 → T'.2.1 63 j = T.2.1 65 j) ∧ (∀ o, Rn hc_X10_takesOver 26 [some (.inr (some (10, 57))), some (.inl (nI 6))] [] T' o → Rn hc_X10_takesOver 2 [some (.inr (some (10, 57))), some (.inl (nI k))] [] T o) := by
  intro d
  induction d with
  | zero =>
    intro k T hk hL hj
    have : k = 6 := by omega
    subst this
    refine ⟨T, hFr.rf _ _, hj, fun o q => ?_⟩
    iterate 3 refine r_step rfl rfl ?_
    exact r_i_ge (fun _ => q) (fun w => absurd (show (6 : Int32) ≤ nI 6 by decide) w)
  | succ d ih =>
    intro k T hk hL hj
    obtain ⟨T', a1, a2, a3⟩ := ih (k + 1) (hPut T 63 k (T.2.1 65 k)) (by omega) (hL.put _ _ _) (fun j hjk => by
      rw [hPut_at, hPut_ne (by decide)]
      by_cases c : j = k
      · rw [c, pk_us]
      · rw [pk_un c]; exact hj j (by omega))
    refine ⟨T', (hFr_put T 63 k (T.2.1 65 k) (P := fun p => p = 63) rfl).trans a1, fun j h6 => by rw [a2 j h6, hPut_ne (by decide)], fun o q => ?_⟩
    iterate 3 refine r_step rfl rfl ?_
    refine r_i_ge (fun q => absurd q (lt_lit (N := 6) rfl (by decide) (by omega))) (fun _ => ?_)
    refine r_step rfl rfl ?_
    refine r_getr rfl (rv_57_6 hL) ?_
    iterate 2 refine r_step rfl rfl ?_
    refine r_getr rfl (rv_57_14 hL) ?_
    refine r_step rfl rfl ?_
    refine r_iald rfl k (ti (by omega)) ⟨⟨by decide, by decide⟩, by show k < 6; omega⟩ ?_
    refine r_iast0 rfl k (ti (by omega)) ⟨⟨by decide, by decide⟩, by show k < 6; omega⟩ ?_
    iterate 2 refine r_step rfl rfl ?_
    show Rn hc_X10_takesOver 2 [some (.inr (some (10, 57))), some (.inl (nI k + 1))] [] _ _
    rw [nI_s1]
    exact a3 o q
theorem to_s : ∀ (d k : Nat) (T : hS), k + d = 59 → hLay T → (∀ j, j < k → T.2.1 58 j = 0) → ∃ T', hFr T T' (fun p => p = 58) ∧ (∀ j, j < 59 → T'.2.1 58 j = 0) ∧ (∀ o, Rn hc_X10_takesOver 47 [some (.inr (some (10, 57))), some (.inl (nI 59))] [] T' o → Rn hc_X10_takesOver 28 [some (.inr (some (10, 57))), some (.inl (nI k))] [] T o) := by
  intro d
  induction d with
  | zero =>
    intro k T hk hL hj
    have : k = 59 := by omega
    subst this
    refine ⟨T, hFr.rf _ _, hj, fun o q => ?_⟩
    iterate 3 refine r_step rfl rfl ?_
    exact r_i_ge (fun _ => q) (fun w => absurd (show (59 : Int32) ≤ nI 59 by decide) w)
  | succ d ih =>
    intro k T hk hL hj
    obtain ⟨T', a1, a2, a3⟩ := ih (k + 1) (hPut T 58 k 0) (by omega) (hL.put _ _ _) (fun j hjk => by
      rw [hPut_at]
      by_cases c : j = k
      · rw [c, pk_us]
      · rw [pk_un c]; exact hj j (by omega))
    refine ⟨T', (hFr_put T 58 k 0 (P := fun p => p = 58) rfl).trans a1, a2, fun o q => ?_⟩
    iterate 3 refine r_step rfl rfl ?_
    refine r_i_ge (fun q => absurd q (lt_lit (N := 59) rfl (by decide) (by omega))) (fun _ => ?_)
    refine r_step rfl rfl ?_
    refine r_getr rfl (rv_57_0 hL) ?_
    iterate 2 refine r_step rfl rfl ?_
    refine r_iast0 rfl k (ti (by omega)) ⟨⟨by decide, by decide⟩, by show k < 59; omega⟩ ?_
    iterate 2 refine r_step rfl rfl ?_
    show Rn hc_X10_takesOver 28 [some (.inr (some (10, 57))), some (.inl (nI k + 1))] [] _ _
    rw [nI_s1]
    exact a3 o q
theorem e_takesOver (U : hS) (hL : hLay U) : ∃ U', Ev 19 [.inr (some (10, 57))] U (none, U') ∧ hFr U U' (fun p => p = 58 ∨ p = 63) ∧ (∀ j, j < 6 → U'.2.1 63 j = U.2.1 65 j) ∧ (∀ j, j < 16 → U'.2.1 58 j = made_w j) ∧ (∀ j, 16 ≤ j → j < 59 → U'.2.1 58 j = 0) := by
  obtain ⟨T1, a1, a2, a3⟩ := to_set 6 0 U (by omega) hL (fun j hj => absurd hj (by omega))
  have hL1 := hL.fr a1
  obtain ⟨T2, b1, b2, b3⟩ := to_s 59 0 T1 (by omega) hL1 (fun j hj => absurd hj (by omega))
  have hL2 := hL1.fr b1
  refine ⟨hPut (hPut (hPut T2 58 2 90) 58 9 1) 58 10 1, ?_, ?_, ?_, ?_, ?_⟩
  · show Rn hc_X10_takesOver 0 [some (.inr (some (10, 57))), none] [] U _
    iterate 2 refine r_step rfl rfl ?_
    refine a3 _ ?_
    iterate 2 refine r_step rfl rfl ?_
    refine b3 _ ?_
    refine r_step rfl rfl ?_
    refine r_getr rfl (rv_57_0 hL2) ?_
    iterate 2 refine r_step rfl rfl ?_
    refine r_iast0 rfl 2 rfl ⟨⟨by decide, by decide⟩, by decide⟩ ?_
    refine r_step rfl rfl ?_
    refine r_getr rfl (rv_57_0 (hL2.put _ _ _)) ?_
    iterate 2 refine r_step rfl rfl ?_
    refine r_iast0 rfl 9 rfl ⟨⟨by decide, by decide⟩, by decide⟩ ?_
    refine r_step rfl rfl ?_
    refine r_getr rfl (rv_57_0 ((hL2.put _ _ _).put _ _ _)) ?_
    iterate 2 refine r_step rfl rfl ?_
    refine r_iast0 rfl 10 rfl ⟨⟨by decide, by decide⟩, by decide⟩ ?_
    exact r_retn rfl rfl
  · exact ((((a1.mono (fun p hp => by omega)).trans (b1.mono (fun p hp => by omega))).trans (hFr_put _ _ _ _ (by omega))).trans (hFr_put _ _ _ _ (by omega))).trans (hFr_put _ _ _ _ (by omega))
  · intro j hj
    rw [hPut_ne (by decide), hPut_ne (by decide), hPut_ne (by decide), b1.2.2 63 (by decide)]
    exact a2 j hj
  · intro j hj
    rw [hPut_at, hPut_at, hPut_at]
    by_cases c10 : j = 10
    · rw [c10, pk_us]; rfl
    rw [pk_un c10]
    by_cases c9 : j = 9
    · rw [c9, pk_us]; rfl
    rw [pk_un c9]
    by_cases c2 : j = 2
    · rw [c2, pk_us]; rfl
    rw [pk_un c2, b2 j (by omega)]
    unfold made_w
    rw [if_neg c2, if_neg c9, if_neg c10]
  · intro j h16 h59
    rw [hPut_at, hPut_at, hPut_at, pk_un (by omega), pk_un (by omega), pk_un (by omega)]
    exact b2 j h59
