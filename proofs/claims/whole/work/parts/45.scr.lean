/-! What is not of the relation may change. -/
def pScr (p : Nat) : Prop := p = 4 ∨ p = 5 ∨ (50 ≤ p ∧ p ≤ 57) ∨ p = 59 ∨ (65 ≤ p ∧ p ≤ 69) ∨ p = 71
theorem rel_scr {S S2 : hS} (h : Rel S) (f : hFr S S2 pScr) (e3 : S2.2.1 57 3 = S.2.1 57 3) (e8 : S2.2.1 57 8 = S.2.1 57 8) (e24 : S2.2.1 57 24 = S.2.1 57 24) : Rel S2 := by
  obtain ⟨a, b, c, d, e, g, i⟩ := h
  have k : ∀ p, ¬ pScr p → S2.2.1 p = S.2.1 p := f.2.2
  unfold pScr at k
  refine ⟨a.fr f, ?_, ?_, ?_, ?_, ?_, ?_⟩
  · rw [k 1 (by omega), k 63 (by omega)]; exact b
  · rw [k 2 (by omega), e8, k 3 (by omega), k 64 (by omega)]; exact c
  · exact d.congr (k _ (by omega)) (k _ (by omega)) (k _ (by omega)) (k _ (by omega)) (k _ (by omega)) (k _ (by omega))
  · rw [e3]; exact e.congr (fun p x y => k p (by omega)) (k _ (by omega)) (k _ (by omega))
  · exact g.congr (fun p x y => k p (by omega)) (k _ (by omega)) (k _ (by omega)) (k _ (by omega))
  · rw [k 46 (by omega), k 47 (by omega), k 48 (by omega), k 49 (by omega), k 70 (by omega), e24]; exact i
set_option maxHeartbeats 4000000 in
set_option maxRecDepth 100000 in
theorem tries_l : ∀ (d k : Nat) (T : hS) (o : Option Int32 × hS), k + d = 59 → hLay T → Rn hc_X10_tries 26 [some (.inr (some (10, 57))), some (.inl (nI 59))] [] (hRow T 59 (cp (T.2.1 59) (T.2.1 58) 0 0 k 59)) o → Rn hc_X10_tries 2 [some (.inr (some (10, 57))), some (.inl (nI k))] [] T o := by
  intro d
  induction d with
  | zero =>
    intro k T o hk hL kk
    have : k = 59 := by omega
    subst this
    rw [cp_end, hRow_self] at kk
    iterate 3 refine r_step rfl rfl ?_
    refine r_i_ge (fun _ => kk) (fun q => absurd (show (59 : Int32) ≤ nI 59 by decide) q)
  | succ d ih =>
    intro k T o hk hL kk
    have hkl : k < 59 := by omega
    iterate 3 refine r_step rfl rfl ?_
    refine r_i_ge (fun q => absurd q (lt_lit (N := 59) rfl (by decide) hkl)) (fun _ => ?_)
    refine r_step rfl rfl ?_
    refine r_getr rfl (rv_57_1 hL) ?_
    iterate 2 refine r_step rfl rfl ?_
    refine r_getr rfl (rv_57_0 hL) ?_
    refine r_step rfl rfl ?_
    refine r_iald rfl k (ti (by omega)) ⟨⟨by decide, by decide⟩, by show k < 59; omega⟩ ?_
    refine r_iast0 rfl k (ti (by omega)) ⟨⟨by decide, by decide⟩, by show k < 59; omega⟩ ?_
    iterate 2 refine r_step rfl rfl ?_
    show Rn hc_X10_tries 2 [some (.inr (some (10, 57))), some (.inl (nI k + 1))] [] _ _
    rw [nI_s1]
    refine ih (k + 1) _ o (by omega) (hL.put _ _ _) ?_
    have e := cp_step (T.2.1 59) (T.2.1 58) 0 0 hkl
    rw [Nat.zero_add] at e
    rw [hPut_at, hPut_ne (show 58 ≠ 59 by decide), hPut_eq, hRow_row, e]
    exact kk
theorem e_tries (S : hS) (hL : hLay S) : Ev 21 [.inr (some (10, 57))] S (none, hRow S 59 (cp (S.2.1 59) (S.2.1 58) 0 0 0 59)) := by
  show Rn hc_X10_tries 0 [some (.inr (some (10, 57))), none] [] S _
  iterate 2 refine r_step rfl rfl ?_
  refine tries_l 59 0 S _ (by omega) hL ?_
  exact r_retn rfl rfl
theorem cp0 (f g : Nat → Int32) {j : Nat} (h : j < 59) : cp f g 0 0 0 59 j = g j := by
  have := cp_at (f := f) (g := g) (a := 0) (b := 0) h
  rw [Nat.zero_add] at this
  exact this
