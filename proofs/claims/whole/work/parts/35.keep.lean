/-! keep, back. -/
theorem lay_img {S : hS} (h : hLay S) {k : Nat} (hk : k < 2) : S.2.2 36 k = some (0, 37 + 4 * k) ∧ isMom S (37 + 4 * k) := by
  match k, hk with
  | 0, _ => exact ⟨rv_36_0 h, mom_37 h⟩
  | 1, _ => exact ⟨rv_36_1 h, mom_41 h⟩
  | n + 2, h => exact absurd h (by omega)
set_option maxHeartbeats 4000000 in
set_option maxRecDepth 100000 in
theorem keep_l (y : Nat) (hy : y < 2) : ∀ (d k : Nat) (T : hS) (o : Option Int32 × hS), k + d = 59 → hLay T → Rn hc_X10_keep 42 [some (.inr (some (10, 57))), some (.inl (nI y)), some (.inl (nI 59))] [] (hRow T 61 (cp (T.2.1 61) (T.2.1 58) (59 * y) 0 k 59)) o → Rn hc_X10_keep 13 [some (.inr (some (10, 57))), some (.inl (nI y)), some (.inl (nI k))] [] T o := by
  intro d
  induction d with
  | zero =>
    intro k T o hk hL kk
    have : k = 59 := by omega
    subst this
    rw [cp_end, hRow_self] at kk
    iterate 3 refine r_step rfl rfl ?_
    refine r_i_ge (fun _ => kk) (fun q => absurd (show (59 : Int32) ≤ nI 59 by decide) q)
  | succ d ih =>
    intro k T o hk hL kk
    have hkl : k < 59 := by omega
    iterate 3 refine r_step rfl rfl ?_
    refine r_i_ge (fun q => absurd q (lt_lit (N := 59) rfl (by decide) hkl)) (fun _ => ?_)
    refine r_step rfl rfl ?_
    refine r_getr rfl (rv_57_4 hL) ?_
    iterate 5 refine r_step rfl rfl ?_
    rw [show (59 : Int32) * nI y = nI (59 * y) from mul_lit rfl, nI_add]
    refine r_step rfl rfl ?_
    refine r_getr rfl (rv_57_0 hL) ?_
    refine r_step rfl rfl ?_
    refine r_iald rfl k (ti (by omega)) ⟨⟨by decide, by decide⟩, by show k < 59; omega⟩ ?_
    refine r_iast0 rfl (59 * y + k) (ti (by omega)) ⟨⟨by decide, by decide⟩, by show 59 * y + k < 118; omega⟩ ?_
    iterate 2 refine r_step rfl rfl ?_
    show Rn hc_X10_keep 13 [some (.inr (some (10, 57))), some (.inl (nI y)), some (.inl (nI k + 1))] [] _ _
    rw [nI_s1]
    refine ih (k + 1) _ o (by omega) (hL.put _ _ _) ?_
    have e := cp_step (T.2.1 61) (T.2.1 58) (59 * y) 0 hkl
    rw [Nat.zero_add] at e
    rw [hPut_at, hPut_ne (show 58 ≠ 61 by decide), hPut_eq, hRow_row, e]
    exact kk
set_option maxHeartbeats 4000000 in
set_option maxRecDepth 100000 in
theorem back_l (y : Nat) (hy : y < 2) : ∀ (d k : Nat) (T : hS) (o : Option Int32 × hS), k + d = 59 → hLay T → Rn hc_X10_back 54 [some (.inr (some (10, 57))), some (.inl (nI y)), some (.inl (nI 59))] [] (hRow T 58 (cp (T.2.1 58) (T.2.1 61) 0 (59 * y) k 59)) o → Rn hc_X10_back 25 [some (.inr (some (10, 57))), some (.inl (nI y)), some (.inl (nI k))] [] T o := by
  intro d
  induction d with
  | zero =>
    intro k T o hk hL kk
    have : k = 59 := by omega
    subst this
    rw [cp_end, hRow_self] at kk
    iterate 3 refine r_step rfl rfl ?_
    refine r_i_ge (fun _ => kk) (fun q => absurd (show (59 : Int32) ≤ nI 59 by decide) q)
  | succ d ih =>
    intro k T o hk hL kk
    have hkl : k < 59 := by omega
    iterate 3 refine r_step rfl rfl ?_
    refine r_i_ge (fun q => absurd q (lt_lit (N := 59) rfl (by decide) hkl)) (fun _ => ?_)
    refine r_step rfl rfl ?_
    refine r_getr rfl (rv_57_0 hL) ?_
    iterate 2 refine r_step rfl rfl ?_
    refine r_getr rfl (rv_57_4 hL) ?_
    iterate 5 refine r_step rfl rfl ?_
    rw [show (59 : Int32) * nI y = nI (59 * y) from mul_lit rfl, nI_add]
    refine r_iald rfl (59 * y + k) (ti (by omega)) ⟨⟨by decide, by decide⟩, by show 59 * y + k < 118; omega⟩ ?_
    refine r_iast0 rfl k (ti (by omega)) ⟨⟨by decide, by decide⟩, by show k < 59; omega⟩ ?_
    iterate 2 refine r_step rfl rfl ?_
    show Rn hc_X10_back 25 [some (.inr (some (10, 57))), some (.inl (nI y)), some (.inl (nI k + 1))] [] _ _
    rw [nI_s1]
    refine ih (k + 1) _ o (by omega) (hL.put _ _ _) ?_
    have e := cp_step (T.2.1 58) (T.2.1 61) 0 (59 * y) hkl
    rw [Nat.zero_add] at e
    rw [hPut_at, hPut_ne (show 61 ≠ 58 by decide), hPut_eq, hRow_row, e]
    exact kk
theorem a_keep {S : hS} (h : Rel S) (x : Int32) : Alk 127 66 [.inl x] S := by
  have hL := h.1
  rcases mIn_iff (v := x) (lo := 0) (hi := 1) with ⟨kx, -⟩ | ⟨kx, x1, x2⟩
  · refine ⟨-1, S, S, ?_, ?_, h⟩
    · show Rn hc_X9_keep 0 [some (.inr (some (9, 0))), some (.inl x)] [] S _
      iterate 3 refine r_step rfl rfl ?_
      refine r_call rfl rfl (e_within _ _ _ _) ?_
      rw [kx]
      iterate 2 refine r_step rfl rfl ?_
      exact r_reti rfl rfl rfl
    · show Rn hc_X10_keep 0 [some (.inr (some (10, 57))), some (.inl x), none] [] S _
      iterate 3 refine r_step rfl rfl ?_
      refine r_call rfl rfl (e_in _ _ _ _) ?_
      rw [kx]
      iterate 2 refine r_step rfl rfl ?_
      exact r_reti rfl rfl rfl
  obtain ⟨k, hk, rfl⟩ := bt_nI (hi := 1) (x := x) ⟨x1, x2⟩ (by decide)
  have hk2 : k < 2 := by omega
  obtain ⟨i1, i2⟩ := lay_img hL hk2
  have pr := h.2.2.2.1
  have bb := pr.bits
  obtain ⟨S1, b1, b2, b3⟩ := e_mcopy (37 + 4 * k) 6 S i2 (mom_6 hL) (Or.inr (by omega)) bb.1 bb.2.1 bb.2.2
  have hL1 := hL.fr b3
  have hL2 : hLay (hPut S1 45 k 1) := hL1.put _ _ _
  have f1 : ∀ q, (q < 37 + 4 * k ∨ 41 + 4 * k ≤ q) → S1.2.1 q = S.2.1 q := fun q n1 => b3.2.2 q (by omega)
  refine ⟨S.2.1 6 2, hPut S1 45 k 1, hPut (hRow (hPut S1 45 k 1) 61 (cp ((hPut S1 45 k 1).2.1 61) ((hPut S1 45 k 1).2.1 58) (59 * k) 0 0 59)) 62 k 1, ?_, ?_, ?_⟩
  · show Rn hc_X9_keep 0 [some (.inr (some (9, 0))), some (.inl (nI k))] [] S _
    iterate 3 refine r_step rfl rfl ?_
    refine r_call rfl rfl (e_within _ _ _ _) ?_
    rw [kx]
    iterate 2 refine r_step rfl rfl ?_
    refine r_getr rfl (rv_0_5 hL) ?_
    refine r_step rfl rfl ?_
    refine r_aald rfl k (ti (by omega)) ⟨⟨by decide, by decide⟩, by show k < 2; omega⟩ i1 ?_
    refine r_step rfl rfl ?_
    refine r_getr rfl (rv_0_3 hL) ?_
    refine r_callv rfl rfl b1 ?_
    refine r_step rfl rfl ?_
    refine r_getr rfl (rv_0_6 hL1) ?_
    iterate 2 refine r_step rfl rfl ?_
    refine r_bast rfl k (ti (by omega)) ⟨⟨by decide, by decide⟩, by show k < 2; omega⟩ (Or.inr rfl) (fun _ e => ?_)
    subst e
    refine r_step rfl rfl ?_
    refine r_getr rfl (rv_0_3 hL2) ?_
    refine r_step rfl rfl ?_
    refine r_reti rfl ?_ rfl
    rw [hPut_ne (by decide), f1 6 (by omega)]
  · show Rn hc_X10_keep 0 [some (.inr (some (10, 57))), some (.inl (nI k)), none] [] (hPut S1 45 k 1) _
    iterate 3 refine r_step rfl rfl ?_
    refine r_call rfl rfl (e_in _ _ _ _) ?_
    rw [kx]
    iterate 3 refine r_step rfl rfl ?_
    refine keep_l k hk2 59 0 (hPut S1 45 k 1) _ (by omega) hL2 ?_
    refine r_step rfl rfl ?_
    refine r_getr rfl (rv_57_5 (hL2.row _ _)) ?_
    iterate 2 refine r_step rfl rfl ?_
    refine r_bast rfl k (ti (by omega)) ⟨⟨by decide, by decide⟩, by show k < 2; omega⟩ (Or.inr rfl) (fun _ e => ?_)
    subst e
    refine r_step rfl rfl ?_
    refine r_getr rfl (rv_57_0 ((hL2.row _ _).put _ _ _)) ?_
    refine r_step rfl rfl ?_
    refine r_iald rfl 16 rfl ⟨⟨by decide, by decide⟩, by decide⟩ ?_
    refine r_reti rfl ?_ rfl
    rw [hPut_ne (by decide), hRow_ne _ _ (by decide), hPut_ne (by decide), f1 58 (by omega)]
    exact pr.1.2.1.symm
  · rw [hPut_ne (show 61 ≠ 45 by decide), hPut_ne (show 58 ≠ 45 by decide), f1 58 (by omega), f1 61 (by omega)]
    have hL3 : hLay (hPut (hRow (hPut S1 45 k 1) 61 (cp (S.2.1 61) (S.2.1 58) (59 * k) 0 0 59)) 62 k 1) := (hL2.row _ _).put _ _ _
    have g : ∀ q, q ≠ 45 → q ≠ 61 → q ≠ 62 → (hPut (hRow (hPut S1 45 k 1) 61 (cp (S.2.1 61) (S.2.1 58) (59 * k) 0 0 59)) 62 k 1).2.1 q = S1.2.1 q := fun q n1 n2 n3 => by rw [hPut_ne n3, hRow_ne _ _ n2, hPut_ne n1]
    have g45 : (hPut (hRow (hPut S1 45 k 1) 61 (cp (S.2.1 61) (S.2.1 58) (59 * k) 0 0 59)) 62 k 1).2.1 45 = upd (S.2.1 45) k 1 := by rw [hPut_ne (by decide), hRow_ne _ _ (by decide), hPut_at, f1 45 (by omega)]
    have g61 : (hPut (hRow (hPut S1 45 k 1) 61 (cp (S.2.1 61) (S.2.1 58) (59 * k) 0 0 59)) 62 k 1).2.1 61 = cp (S.2.1 61) (S.2.1 58) (59 * k) 0 0 59 := by rw [hPut_ne (by decide), hRow_at]
    have g62 : (hPut (hRow (hPut S1 45 k 1) 61 (cp (S.2.1 61) (S.2.1 58) (59 * k) 0 0 59)) 62 k 1).2.1 62 = upd (S.2.1 62) k 1 := by rw [hPut_at, hRow_ne _ _ (by decide), hPut_ne (by decide), f1 62 (by omega)]
    generalize hPut (hRow (hPut S1 45 k 1) 61 (cp (S.2.1 61) (S.2.1 58) (59 * k) 0 0 59)) 62 k 1 = S2 at *
    have e : ∀ q, q ≠ 45 → q ≠ 61 → q ≠ 62 → (q < 37 + 4 * k ∨ 41 + 4 * k ≤ q) → S2.2.1 q = S.2.1 q := fun q n1 n2 n3 n4 => (g q n1 n2 n3).trans (f1 q n4)
    refine ⟨hL3, ?_, ?_, ?_, ?_, ?_, ?_⟩
    · rw [e 1 (by omega) (by omega) (by omega) (by omega), e 63 (by omega) (by omega) (by omega) (by omega)]; exact h.2.1
    · rw [e 2 (by omega) (by omega) (by omega) (by omega), e 3 (by omega) (by omega) (by omega) (by omega), e 64 (by omega) (by omega) (by omega) (by omega), e 57 (by omega) (by omega) (by omega) (by omega)]; exact h.2.2.1
    · exact pr.congr (e _ (by omega) (by omega) (by omega) (by omega)) (e _ (by omega) (by omega) (by omega) (by omega)) (e _ (by omega) (by omega) (by omega) (by omega)) (e _ (by omega) (by omega) (by omega) (by omega)) (e _ (by omega) (by omega) (by omega) (by omega)) (e _ (by omega) (by omega) (by omega) (by omega))
    · rw [e 57 (by omega) (by omega) (by omega) (by omega)]
      exact h.2.2.2.2.1.congr (fun q n1 n2 => e q (by omega) (by omega) (by omega) (by omega)) (e 60 (by omega) (by omega) (by omega) (by omega)) (e 63 (by omega) (by omega) (by omega) (by omega))
    · intro t ht
      by_cases c : t = k
      · subst c
        rw [g45, g62, pk_us, pk_us]
        refine ⟨Or.inr rfl, rfl, fun _ => ?_⟩
        have c1 := pr.1.copy b2
        have c2 : rMom S2.2.1 (37 + 4 * t) (S.2.1 58) := by
          refine ⟨?_, ?_⟩
          · rw [g (37 + 4 * t) (by omega) (by omega) (by omega), g (37 + 4 * t + 1) (by omega) (by omega) (by omega), g (37 + 4 * t + 2) (by omega) (by omega) (by omega), g (37 + 4 * t + 3) (by omega) (by omega) (by omega)]
            exact c1
          · rw [e 63 (by omega) (by omega) (by omega) (by omega)]; exact pr.2
        refine c2.c59 (fun j hj => ?_)
        show S2.2.1 61 (59 * t + j) = S.2.1 58 j
        rw [g61]
        have := cp_at (f := S.2.1 61) (g := S.2.1 58) (a := 59 * t) (b := 0) hj
        rw [Nat.zero_add] at this
        exact this
      · obtain ⟨o1, o2, o3⟩ := h.2.2.2.2.2.1 t ht
        rw [g45, g62, pk_un c, pk_un c]
        refine ⟨o1, o2, fun w => ?_⟩
        have c2 : rMom S2.2.1 (37 + 4 * t) (fun j => S.2.1 61 (59 * t + j)) := (o3 w).congr (e _ (by omega) (by omega) (by omega) (by omega)) (e _ (by omega) (by omega) (by omega) (by omega)) (e _ (by omega) (by omega) (by omega) (by omega)) (e _ (by omega) (by omega) (by omega) (by omega)) (e _ (by omega) (by omega) (by omega) (by omega)) rfl
        refine c2.c59 (fun j hj => ?_)
        show S2.2.1 61 (59 * t + j) = S.2.1 61 (59 * t + j)
        rw [g61, cp_out (by omega)]
    · rw [e 46 (by omega) (by omega) (by omega) (by omega), e 47 (by omega) (by omega) (by omega) (by omega), e 48 (by omega) (by omega) (by omega) (by omega), e 49 (by omega) (by omega) (by omega) (by omega), e 70 (by omega) (by omega) (by omega) (by omega), e 57 (by omega) (by omega) (by omega) (by omega)]; exact h.2.2.2.2.2.2
