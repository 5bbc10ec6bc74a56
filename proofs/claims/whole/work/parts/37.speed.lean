/-! The model notes a speed. -/
def nsh (f : Nat → Int32) (k : Nat) : Nat → Int32 := fun j => if 20 ≤ j ∧ j ≤ 19 + k then f (j - 1) else f j
theorem nsh_end (f : Nat → Int32) : nsh f 0 = f := by
  funext j
  unfold nsh
  rw [if_neg (by omega)]
theorem nsh_step (f : Nat → Int32) (k : Nat) : nsh (upd f (19 + (k + 1)) (f (19 + k))) k = nsh f (k + 1) := by
  funext j
  unfold nsh
  by_cases h1 : 20 ≤ j ∧ j ≤ 19 + k
  · rw [if_pos h1, if_pos (by omega), pk_un (by omega)]
  · rw [if_neg h1]
    by_cases h2 : j = 19 + (k + 1)
    · subst h2
      rw [pk_us, if_pos (by omega)]
      exact congrArg f (by omega)
    · rw [pk_un h2, if_neg (by omega)]
theorem nI_m1 (k : Nat) : nI (k + 1) + -1 = nI k := by
  rw [← nI_s1, Int32.add_assoc, show (1 : Int32) + -1 = 0 by decide, Int32.add_zero]
set_option maxHeartbeats 4000000 in
set_option maxRecDepth 100000 in
theorem ns_l : ∀ (k : Nat) (T : hS) (o : Option Int32 × hS), k ≤ 39 → hLay T → Rn hc_X10_notesSpeed 33 [some (.inr (some (10, 57))), some (.inl (nI 0))] [] (hRow T 58 (nsh (T.2.1 58) k)) o → Rn hc_X10_notesSpeed 3 [some (.inr (some (10, 57))), some (.inl (nI k))] [] T o := by
  intro k
  induction k with
  | zero =>
    intro T o hk hL kk
    rw [nsh_end, hRow_self] at kk
    iterate 2 refine r_step rfl rfl ?_
    refine r_i_le (fun _ => kk) (fun q => absurd (show nI 0 ≤ 0 by decide) q)
  | succ k ih =>
    intro T o hk hL kk
    iterate 2 refine r_step rfl rfl ?_
    refine r_i_le (fun q => absurd q (nI_nle (by omega) (by omega))) (fun _ => ?_)
    refine r_step rfl rfl ?_
    refine r_getr rfl (rv_57_0 hL) ?_
    iterate 4 refine r_step rfl rfl ?_
    refine r_getr rfl (rv_57_0 hL) ?_
    iterate 5 refine r_step rfl rfl ?_
    rw [show (19 : Int32) + nI (k + 1) = nI (19 + (k + 1)) from nI_add 19 (k + 1), show nI (19 + (k + 1)) - 1 = nI (19 + k) from nI_pred (19 + k)]
    refine r_iald rfl (19 + k) (ti (by omega)) ⟨⟨by decide, by decide⟩, by show 19 + k < 59; omega⟩ ?_
    refine r_iast0 rfl (19 + (k + 1)) (ti (by omega)) ⟨⟨by decide, by decide⟩, by show 19 + (k + 1) < 59; omega⟩ ?_
    iterate 2 refine r_step rfl rfl ?_
    show Rn hc_X10_notesSpeed 3 [some (.inr (some (10, 57))), some (.inl (nI (k + 1) + -1))] [] _ _
    rw [nI_m1]
    refine ih _ o (by omega) (hL.put _ _ _) ?_
    rw [hPut_at, hPut_eq, hRow_row, nsh_step]
    exact kk
/-- what notesSpeed makes of the row -/
def mSpd (u : Nat → Int32) : Nat → Int32 := upd (upd (upd (nsh u 39) 19 (u 1)) 18 (u 18 + (if (40 : Int32) ≤ u 18 then 0 else 1))) 16 (u 16 + 1)
set_option maxHeartbeats 4000000 in
set_option maxRecDepth 100000 in
theorem e_notesSpeed (S : hS) (hL : hLay S) : Ev 15 [.inr (some (10, 57))] S (none, hRow S 58 (mSpd (S.2.1 58))) := by
  show Rn hc_X10_notesSpeed 0 [some (.inr (some (10, 57))), none] [] S _
  iterate 2 refine r_step rfl rfl ?_
  refine ns_l 39 S _ (by omega) hL ?_
  have t1 : nsh (S.2.1 58) 39 1 = S.2.1 58 1 := if_neg (by omega)
  have t18 : nsh (S.2.1 58) 39 18 = S.2.1 58 18 := if_neg (by omega)
  have t16 : nsh (S.2.1 58) 39 16 = S.2.1 58 16 := if_neg (by omega)
  refine r_step rfl rfl ?_
  refine r_getr rfl (rv_57_0 (hL.row _ _)) ?_
  iterate 2 refine r_step rfl rfl ?_
  refine r_getr rfl (rv_57_0 (hL.row _ _)) ?_
  refine r_step rfl rfl ?_
  refine r_iald rfl 1 rfl ⟨⟨by decide, by decide⟩, by decide⟩ ?_
  refine r_iast0 rfl 19 rfl ⟨⟨by decide, by decide⟩, by decide⟩ ?_
  rw [hRow_at, hPut_row, t1]
  have hL2 : hLay (hRow S 58 (upd (nsh (S.2.1 58) 39) 19 (S.2.1 58 1))) := hL.row _ _
  refine r_step rfl rfl ?_
  refine r_getr rfl (rv_57_0 hL2) ?_
  iterate 2 refine r_step rfl rfl ?_
  refine r_iald rfl 18 rfl ⟨⟨by decide, by decide⟩, by decide⟩ ?_
  refine r_step rfl rfl ?_
  refine r_getr rfl (rv_57_0 hL2) ?_
  refine r_step rfl rfl ?_
  refine r_iald rfl 18 rfl ⟨⟨by decide, by decide⟩, by decide⟩ ?_
  rw [hRow_at, pk_un (show 18 ≠ 19 by decide), t18]
  have rest : ∀ x : Int32, Rn hc_X10_notesSpeed 72 [some (.inr (some (10, 57))), some (.inl (nI 0))] [.inl (S.2.1 58 18 + x), .inl 18, .inr (some (10059, 58))] (hRow S 58 (upd (nsh (S.2.1 58) 39) 19 (S.2.1 58 1))) (none, hRow S 58 (upd (upd (upd (nsh (S.2.1 58) 39) 19 (S.2.1 58 1)) 18 (S.2.1 58 18 + x)) 16 (S.2.1 58 16 + 1))) := by
    intro x
    refine r_iast0 rfl 18 rfl ⟨⟨by decide, by decide⟩, by decide⟩ ?_
    rw [hPut_row]
    have hL3 : hLay (hRow S 58 (upd (upd (nsh (S.2.1 58) 39) 19 (S.2.1 58 1)) 18 (S.2.1 58 18 + x))) := hL.row _ _
    refine r_step rfl rfl ?_
    refine r_getr rfl (rv_57_0 hL3) ?_
    iterate 2 refine r_step rfl rfl ?_
    refine r_iald rfl 16 rfl ⟨⟨by decide, by decide⟩, by decide⟩ ?_
    iterate 2 refine r_step rfl rfl ?_
    rw [hRow_at, pk_un (show 16 ≠ 18 by decide), pk_un (show 16 ≠ 19 by decide), t16]
    refine r_iast0 rfl 16 rfl ⟨⟨by decide, by decide⟩, by decide⟩ ?_
    rw [hPut_row]
    exact r_retn rfl rfl
  unfold mSpd
  by_cases c : (40 : Int32) ≤ S.2.1 58 18
  · rw [if_pos c]
    iterate 2 refine r_step rfl rfl ?_
    refine r_i_ge (fun _ => ?_) (fun q => absurd c q)
    iterate 2 refine r_step rfl rfl ?_
    exact rest 0
  · rw [if_neg c]
    iterate 2 refine r_step rfl rfl ?_
    refine r_i_ge (fun q => absurd q c) (fun _ => ?_)
    iterate 3 refine r_step rfl rfl ?_
    exact rest 1
