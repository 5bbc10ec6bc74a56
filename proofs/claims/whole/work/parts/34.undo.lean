/-! undo, keep, back. -/
set_option maxHeartbeats 4000000 in
set_option maxRecDepth 100000 in
theorem undo_l (y : Nat) (hy : y < 6) : ∀ (d k : Nat) (T : hS) (o : Option Int32 × hS), k + d = 59 → hLay T → T.2.1 57 3 = nI y → Rn hc_X10_undo 54 [some (.inr (some (10, 57))), some (.inl (nI 59))] [] (hRow T 58 (cp (T.2.1 58) (T.2.1 60) 0 (59 * y) k 59)) o → Rn hc_X10_undo 22 [some (.inr (some (10, 57))), some (.inl (nI k))] [] T o := by
  intro d
  induction d with
  | zero =>
    intro k T o hk hL hu kk
    have : k = 59 := by omega
    subst this
    rw [cp_end, hRow_self] at kk
    iterate 3 refine r_step rfl rfl ?_
    refine r_i_ge (fun _ => kk) (fun q => absurd (show (59 : Int32) ≤ nI 59 by decide) q)
  | succ d ih =>
    intro k T o hk hL hu kk
    have hkl : k < 59 := by omega
    iterate 3 refine r_step rfl rfl ?_
    refine r_i_ge (fun q => absurd q (lt_lit (N := 59) rfl (by decide) hkl)) (fun _ => ?_)
    refine r_step rfl rfl ?_
    refine r_getr rfl (rv_57_0 hL) ?_
    iterate 2 refine r_step rfl rfl ?_
    refine r_getr rfl (rv_57_2 hL) ?_
    iterate 6 refine r_step rfl rfl ?_
    rw [hu, show (59 : Int32) * nI y = nI (59 * y) from mul_lit rfl, nI_add]
    refine r_iald rfl (59 * y + k) (ti (by omega)) ⟨⟨by decide, by decide⟩, by show 59 * y + k < 354; omega⟩ ?_
    refine r_iast0 rfl k (ti (by omega)) ⟨⟨by decide, by decide⟩, by show k < 59; omega⟩ ?_
    iterate 2 refine r_step rfl rfl ?_
    show Rn hc_X10_undo 22 [some (.inr (some (10, 57))), some (.inl (nI k + 1))] [] _ _
    rw [nI_s1]
    refine ih (k + 1) _ o (by omega) (hL.put _ _ _) (by rw [hPut_ne (by decide)]; exact hu) ?_
    have e := cp_step (T.2.1 58) (T.2.1 60) 0 (59 * y) hkl
    rw [Nat.zero_add] at e
    rw [hPut_at, hPut_ne (show 60 ≠ 58 by decide), hPut_eq, hRow_row, e]
    exact kk
/-- a moment of the class's and its row, at another place -/
theorem rMom.bits {iv : Nat → Nat → Int32} {c : Nat} {u : Nat → Int32} (h : rMom iv c u) : isB (iv (c + 1) 9) ∧ isB (iv (c + 1) 10) ∧ isB (iv (c + 1) 15) := by
  have hr := h.2.1
  refine ⟨?_, ?_, ?_⟩
  · rw [h.1.1 9 (by decide)]; exact hr.2.2.2.2.2.2.2.2.2.1
  · rw [h.1.1 10 (by decide)]; exact hr.2.2.2.2.2.2.2.2.2.2.1
  · rw [h.1.1 15 (by decide)]; exact hr.2.2.2.2.2.2.2.2.2.2.2
theorem a_undo {S : hS} (h : Rel S) : Alk 147 23 [] S := by
  have hL := h.1
  obtain ⟨p, z, a1, a2, a3, a4, a5, a6⟩ := h.2.2.2.2.1
  rcases Nat.eq_zero_or_pos z with z0 | z0
  · subst z0
    refine ⟨-2, S, S, ?_, ?_, h⟩
    · show Rn hc_X9_undo 0 [some (.inr (some (9, 0)))] [] S _
      refine r_step rfl rfl ?_
      refine r_getr rfl (rv_0_4 hL) ?_
      iterate 2 refine r_step rfl rfl ?_
      refine r_i_ne (fun q => absurd a4 q) (fun _ => ?_)
      refine r_step rfl rfl ?_
      exact r_reti rfl rfl rfl
    · show Rn hc_X10_undo 0 [some (.inr (some (10, 57))), none] [] S _
      iterate 3 refine r_step rfl rfl ?_
      refine r_i_ne (fun q => absurd a5 q) (fun _ => ?_)
      refine r_step rfl rfl ?_
      exact r_reti rfl rfl rfl
  · obtain ⟨y, rfl⟩ : ∃ y, z = y + 1 := ⟨z - 1, by omega⟩
    have nz : ¬ nI (y + 1) = 0 := fun q => absurd ((nI_eq (a := y + 1) (b := 0) (by omega) (by omega)).mp q) (by omega)
    have m0 := a6 0 (by omega)
    rw [show p + 5 - 0 = p + 5 by omega, show y + 1 - 1 - 0 = y by omega] at m0
    have hq : (p + 5) % 6 < 6 := Nat.mod_lt _ (by decide)
    have bb := m0.bits
    have ex : 12 + 4 * ((p + 5) % 6) + 1 = 13 + 4 * ((p + 5) % 6) := by omega
    rw [ex] at bb
    obtain ⟨S1, b1, b2, b3, b4, b5⟩ := e_ptake p (y + 1) S (lay_past hL) (mom_6 hL) a3 a1 a4 (by omega) a2 bb.1 bb.2.1 bb.2.2
    have hL1 := hL.fr b3
    have f1 : ∀ q, q ≠ 10 → (q < 6 ∨ 10 ≤ q) → S1.2.1 q = S.2.1 q := fun q n1 n2 => b3.2.2 q (by omega)
    have e57 : S1.2.1 57 = S.2.1 57 := f1 57 (by omega) (by omega)
    have hL2 : hLay (hPut S1 57 3 (nI y)) := hL1.put _ _ _
    refine ⟨nI y, S1, hRow (hPut S1 57 3 (nI y)) 58 (cp ((hPut S1 57 3 (nI y)).2.1 58) ((hPut S1 57 3 (nI y)).2.1 60) 0 (59 * y) 0 59), ?_, ?_, ?_⟩
    · show Rn hc_X9_undo 0 [some (.inr (some (9, 0)))] [] S _
      refine r_step rfl rfl ?_
      refine r_getr rfl (rv_0_4 hL) ?_
      iterate 2 refine r_step rfl rfl ?_
      refine r_i_ne (fun _ => ?_) (fun q => absurd (a4.symm.trans q) nz)
      refine r_step rfl rfl ?_
      refine r_getr rfl (rv_0_4 hL) ?_
      refine r_step rfl rfl ?_
      refine r_getr rfl (rv_0_3 hL) ?_
      refine r_callv rfl rfl b1 ?_
      refine r_step rfl rfl ?_
      refine r_getr rfl (rv_0_4 hL1) ?_
      refine r_step rfl rfl ?_
      exact r_reti rfl b5 rfl
    · show Rn hc_X10_undo 0 [some (.inr (some (10, 57))), none] [] S1 _
      iterate 3 refine r_step rfl rfl ?_
      refine r_i_ne (fun _ => ?_) (fun q => absurd (a5.symm.trans ((congrFun e57 3).symm.trans q)) nz)
      iterate 6 refine r_step rfl rfl ?_
      rw [e57, a5, show nI (y + 1) - 1 = nI y from nI_pred y]
      iterate 2 refine r_step rfl rfl ?_
      refine undo_l y (by omega) 59 0 (hPut S1 57 3 (nI y)) _ (by omega) hL2 (by rw [hPut_at, pk_us]) ?_
      iterate 2 refine r_step rfl rfl ?_
      refine r_reti rfl ?_ rfl
      rw [hRow_ne _ _ (show 57 ≠ 58 by decide), hPut_at, pk_us]
    · rw [hPut_ne (show 60 ≠ 57 by decide), hPut_ne (show 58 ≠ 57 by decide), f1 58 (by omega) (by omega), f1 60 (by omega) (by omega)]
      have g : ∀ q, q ≠ 57 → q ≠ 58 → (hRow (hPut S1 57 3 (nI y)) 58 (cp (S.2.1 58) (S.2.1 60) 0 (59 * y) 0 59)).2.1 q = S1.2.1 q := fun q n1 n2 => by rw [hRow_ne _ _ n2, hPut_ne n1]
      have g57 : (hRow (hPut S1 57 3 (nI y)) 58 (cp (S.2.1 58) (S.2.1 60) 0 (59 * y) 0 59)).2.1 57 = upd (S.2.1 57) 3 (nI y) := by rw [hRow_ne _ _ (show 57 ≠ 58 by decide), hPut_at, e57]
      have g58 : (hRow (hPut S1 57 3 (nI y)) 58 (cp (S.2.1 58) (S.2.1 60) 0 (59 * y) 0 59)).2.1 58 = cp (S.2.1 58) (S.2.1 60) 0 (59 * y) 0 59 := hRow_at _ _ _
      have hL3 : hLay (hRow (hPut S1 57 3 (nI y)) 58 (cp (S.2.1 58) (S.2.1 60) 0 (59 * y) 0 59)) := hL2.row _ _
      generalize hRow (hPut S1 57 3 (nI y)) 58 (cp (S.2.1 58) (S.2.1 60) 0 (59 * y) 0 59) = S2 at *
      have k : ∀ q, q ≠ 57 → q ≠ 58 → q ≠ 10 → (q < 6 ∨ 10 ≤ q) → S2.2.1 q = S.2.1 q := fun q n1 n2 n3 n4 => (g q n1 n2).trans (f1 q n3 n4)
      refine ⟨hL3, ?_, ?_, ?_, ?_, ?_, ?_⟩
      · rw [k 1 (by omega) (by omega) (by omega) (by omega), k 63 (by omega) (by omega) (by omega) (by omega)]; exact h.2.1
      · rw [k 2 (by omega) (by omega) (by omega) (by omega), k 3 (by omega) (by omega) (by omega) (by omega), k 64 (by omega) (by omega) (by omega) (by omega), g57, pk_un (by decide)]; exact h.2.2.1
      · have c1 := m0.1.copy b2
        have c2 : rMom S2.2.1 6 (fun j => S.2.1 60 (59 * y + j)) := by
          refine ⟨?_, ?_⟩
          · show mRel (S2.2.1 6) (S2.2.1 7) (S2.2.1 8) (S2.2.1 9) _
            rw [g 6 (by omega) (by omega), g 7 (by omega) (by omega), g 8 (by omega) (by omega), g 9 (by omega) (by omega)]
            exact c1
          · rw [k 63 (by omega) (by omega) (by omega) (by omega)]; exact m0.2
        refine c2.c59 (fun j hj => ?_)
        rw [g58]
        have := cp_at (f := S.2.1 58) (g := S.2.1 60) (a := 0) (b := 59 * y) hj
        rw [Nat.zero_add] at this
        exact this
      · refine ⟨(p + 5) % 6, y, hq, by omega, by rw [g 10 (by omega) (by omega)]; exact b4, by rw [g 10 (by omega) (by omega)]; exact b5, by rw [g57, pk_us], fun i hi => ?_⟩
        have m1 := a6 (i + 1) (by omega)
        have es : ((p + 5) % 6 + 5 - i) % 6 = (p + 5 - (i + 1)) % 6 := by omega
        rw [es]
        have lt : (p + 5 - (i + 1)) % 6 < 6 := Nat.mod_lt _ (by decide)
        clear es
        generalize (p + 5 - (i + 1)) % 6 = t at lt m1 ⊢
        refine m1.congr (k _ (by omega) (by omega) (by omega) (by omega)) (k _ (by omega) (by omega) (by omega) (by omega)) (k _ (by omega) (by omega) (by omega) (by omega)) (k _ (by omega) (by omega) (by omega) (by omega)) (k _ (by omega) (by omega) (by omega) (by omega)) ?_
        rw [k 60 (by omega) (by omega) (by omega) (by omega), show y + 1 - 1 - (i + 1) = y - 1 - i by omega]
      · exact h.2.2.2.2.2.1.congr (fun q n1 n2 => k q (by omega) (by omega) (by omega) (by omega)) (k 61 (by omega) (by omega) (by omega) (by omega)) (k 62 (by omega) (by omega) (by omega) (by omega)) (k 63 (by omega) (by omega) (by omega) (by omega))
      · rw [k 46 (by omega) (by omega) (by omega) (by omega), k 47 (by omega) (by omega) (by omega) (by omega), k 48 (by omega) (by omega) (by omega) (by omega), k 49 (by omega) (by omega) (by omega) (by omega), k 70 (by omega) (by omega) (by omega) (by omega), g57, pk_un (by decide)]; exact h.2.2.2.2.2.2
