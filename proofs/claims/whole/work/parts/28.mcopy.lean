/-! The model's rows, copied in loops. -/
def cp (f g : Nat → Int32) (a b k N : Nat) : Nat → Int32 := fun j => if a + k ≤ j ∧ j < a + N then g (b + (j - a)) else f j
theorem cp_end (f g : Nat → Int32) (a b N : Nat) : cp f g a b N N = f := by
  funext j
  unfold cp
  rw [if_neg (by omega)]
theorem cp_step (f g : Nat → Int32) (a b : Nat) {k N : Nat} (h : k < N) : cp (upd f (a + k) (g (b + k))) g a b (k + 1) N = cp f g a b k N := by
  funext j
  unfold cp
  by_cases h1 : a + (k + 1) ≤ j ∧ j < a + N
  · rw [if_pos h1, if_pos (by omega)]
  · rw [if_neg h1]
    by_cases h2 : j = a + k
    · subst h2
      rw [pk_us, if_pos (by omega), show a + k - a = k by omega]
    · rw [pk_un h2, if_neg (by omega)]
theorem cp_at {f g : Nat → Int32} {a b N i : Nat} (h : i < N) : cp f g a b 0 N (a + i) = g (b + i) := by
  unfold cp
  rw [if_pos (by omega), show a + i - a = i by omega]
theorem cp_out {f g : Nat → Int32} {a b N j : Nat} (h : j < a ∨ a + N ≤ j) : cp f g a b 0 N j = f j := by
  unfold cp
  rw [if_neg (by omega)]
def sh (f : Nat → Int32) (k : Nat) : Nat → Int32 := fun j => if k ≤ j ∧ j < 295 then f (j + 59) else f j
theorem sh_end (f : Nat → Int32) : sh f 295 = f := by
  funext j
  unfold sh
  rw [if_neg (by omega)]
theorem sh_step (f : Nat → Int32) {k : Nat} (h : k < 295) : sh (upd f k (f (k + 59))) (k + 1) = sh f k := by
  funext j
  unfold sh
  by_cases h1 : k + 1 ≤ j ∧ j < 295
  · rw [if_pos h1, if_pos (by omega), pk_un (by omega)]
  · rw [if_neg h1]
    by_cases h2 : j = k
    · subst h2; rw [pk_us, if_pos (by omega)]
    · rw [pk_un h2, if_neg (by omega)]
theorem hLay.put {S : hS} (h : hLay S) (c k : Nat) (x : Int32) : hLay (hPut S c k x) := h.fr (hFr_put S c k x (P := fun _ => True) trivial)
theorem hLay.row {S : hS} (h : hLay S) (c : Nat) (f : Nat → Int32) : hLay (hRow S c f) := h.fr (hFr_row S c f (P := fun _ => True) trivial)
theorem lt_lit {k N : Nat} {x : Int32} (hx : x = nI N) (hN : N < 2147483648) (h : k < N) : ¬ x ≤ nI k := by rw [hx]; exact nI_ge h hN
theorem ti {n : Nat} (h : n < 2147483648) : (nI n).toInt = (n : Int) := nI_toInt h
theorem add_lit {a b : Nat} {x : Int32} (hx : x = nI b) : nI a + x = nI (a + b) := by rw [hx, nI_add]
theorem mul_lit {a b : Nat} {x : Int32} (hx : x = nI a) : x * nI b = nI (a * b) := by rw [hx, pk_mul]
set_option maxHeartbeats 4000000 in
set_option maxRecDepth 100000 in
theorem notes_l1 : ∀ (d k : Nat) (T : hS) (o : Option Int32 × hS), k + d = 295 → hLay T → Rn hc_X10_notes 39 [some (.inr (some (10, 57))), some (.inl (nI 295))] [] (hRow T 60 (sh (T.2.1 60) k)) o → Rn hc_X10_notes 11 [some (.inr (some (10, 57))), some (.inl (nI k))] [] T o := by
  intro d
  induction d with
  | zero =>
    intro k T o hk hL kk
    have : k = 295 := by omega
    subst this
    rw [sh_end, hRow_self] at kk
    iterate 3 refine r_step rfl rfl ?_
    refine r_i_ge (fun _ => kk) (fun q => absurd (show (295 : Int32) ≤ nI 295 by decide) q)
  | succ d ih =>
    intro k T o hk hL kk
    have hkl : k < 295 := by omega
    iterate 3 refine r_step rfl rfl ?_
    refine r_i_ge (fun q => absurd q (lt_lit (N := 295) rfl (by decide) hkl)) (fun _ => ?_)
    refine r_step rfl rfl ?_
    refine r_getr rfl (rv_57_2 hL) ?_
    iterate 2 refine r_step rfl rfl ?_
    refine r_getr rfl (rv_57_2 hL) ?_
    iterate 3 refine r_step rfl rfl ?_
    rw [show nI k + 59 = nI (k + 59) from add_lit rfl]
    refine r_iald rfl (k + 59) (ti (by omega)) ⟨⟨by decide, by decide⟩, by show k + 59 < 354; omega⟩ ?_
    refine r_iast0 rfl k (ti (by omega)) ⟨⟨by decide, by decide⟩, by show k < 354; omega⟩ ?_
    iterate 2 refine r_step rfl rfl ?_
    show Rn hc_X10_notes 11 [some (.inr (some (10, 57))), some (.inl (nI k + 1))] [] _ _
    rw [nI_s1]
    refine ih (k + 1) _ o (by omega) (hL.put _ _ _) ?_
    rw [hPut_at, hPut_eq, hRow_row, sh_step _ hkl]
    exact kk
set_option maxHeartbeats 4000000 in
set_option maxRecDepth 100000 in
theorem notes_l2 (z : Nat) (hz : z < 6) : ∀ (d k : Nat) (T : hS) (o : Option Int32 × hS), k + d = 59 → hLay T → T.2.1 57 3 = nI z → Rn hc_X10_notes 83 [some (.inr (some (10, 57))), some (.inl (nI 59))] [] (hRow T 60 (cp (T.2.1 60) (T.2.1 58) (59 * z) 0 k 59)) o → Rn hc_X10_notes 51 [some (.inr (some (10, 57))), some (.inl (nI k))] [] T o := by
  intro d
  induction d with
  | zero =>
    intro k T o hk hL hu kk
    have : k = 59 := by omega
    subst this
    rw [cp_end, hRow_self] at kk
    iterate 3 refine r_step rfl rfl ?_
    refine r_i_ge (fun _ => kk) (fun q => absurd (show (59 : Int32) ≤ nI 59 by decide) q)
  | succ d ih =>
    intro k T o hk hL hu kk
    have hkl : k < 59 := by omega
    iterate 3 refine r_step rfl rfl ?_
    refine r_i_ge (fun q => absurd q (lt_lit (N := 59) rfl (by decide) hkl)) (fun _ => ?_)
    refine r_step rfl rfl ?_
    refine r_getr rfl (rv_57_2 hL) ?_
    iterate 6 refine r_step rfl rfl ?_
    rw [hu, show (59 : Int32) * nI z = nI (59 * z) from mul_lit rfl, nI_add]
    refine r_step rfl rfl ?_
    refine r_getr rfl (rv_57_0 hL) ?_
    refine r_step rfl rfl ?_
    refine r_iald rfl k (ti (by omega)) ⟨⟨by decide, by decide⟩, by show k < 59; omega⟩ ?_
    refine r_iast0 rfl (59 * z + k) (ti (by omega)) ⟨⟨by decide, by decide⟩, by show 59 * z + k < 354; omega⟩ ?_
    iterate 2 refine r_step rfl rfl ?_
    show Rn hc_X10_notes 51 [some (.inr (some (10, 57))), some (.inl (nI k + 1))] [] _ _
    rw [nI_s1]
    refine ih (k + 1) _ o (by omega) (hL.put _ _ _) (by rw [hPut_ne (by decide)]; exact hu) ?_
    have e := cp_step (T.2.1 60) (T.2.1 58) (59 * z) 0 hkl
    rw [Nat.zero_add] at e
    rw [hPut_at, hPut_ne (show 58 ≠ 60 by decide), hPut_eq, hRow_row, e]
    exact kk
/-- notes(): a row more is known; of six the eldest is lost -/
def noted (z : Nat) (past s : Nat → Int32) : Nat → Int32 := if z = 6 then cp (sh past 0) s 295 0 0 59 else cp past s (59 * z) 0 0 59
theorem e_notes (z : Nat) (S : hS) (hL : hLay S) (hz : z ≤ 6) (hu : S.2.1 57 3 = nI z) : ∃ S', Ev 14 [.inr (some (10, 57))] S (none, S') ∧ hFr S S' (fun p => p = 57 ∨ p = 60) ∧ S'.2.1 60 = noted z (S.2.1 60) (S.2.1 58) ∧ S'.2.1 57 = upd (S.2.1 57) 3 (nI (min 6 (z + 1))) := by
  -- the second half
  have half : ∀ (y : Nat) (T : hS) (L1 : Option hV), y < 6 → hLay T → T.2.1 57 3 = nI y → Rn hc_X10_notes 49 [some (.inr (some (10, 57))), L1] [] T (none, hPut (hRow T 60 (cp (T.2.1 60) (T.2.1 58) (59 * y) 0 0 59)) 57 3 (nI (y + 1))) := by
    intro y T L1 hy hT hu
    iterate 2 refine r_step rfl rfl ?_
    refine notes_l2 y hy 59 0 T _ (by omega) hT hu ?_
    iterate 6 refine r_step rfl rfl ?_
    refine r_retn rfl ?_
    rw [hRow_ne _ _ (show 57 ≠ 60 by decide), hu, nI_s1]
  by_cases h6 : z = 6
  · subst h6
    have kS : hLay (hPut (hRow S 60 (sh (S.2.1 60) 0)) 57 3 (nI 5)) := (hL.row _ _).put _ _ _
    refine ⟨hPut (hRow (hPut (hRow S 60 (sh (S.2.1 60) 0)) 57 3 (nI 5)) 60 (cp ((hPut (hRow S 60 (sh (S.2.1 60) 0)) 57 3 (nI 5)).2.1 60) ((hPut (hRow S 60 (sh (S.2.1 60) 0)) 57 3 (nI 5)).2.1 58) (59 * 5) 0 0 59)) 57 3 (nI (5 + 1)), ?_, ?_, ?_, ?_⟩
    · show Rn hc_X10_notes 0 [some (.inr (some (10, 57))), none] [] S _
      iterate 4 refine r_step rfl rfl ?_
      refine r_i_ne (fun q => absurd (hu.trans lit6.symm) q) (fun _ => ?_)
      iterate 2 refine r_step rfl rfl ?_
      refine notes_l1 295 0 S _ (by omega) hL ?_
      iterate 6 refine r_step rfl rfl ?_
      rw [hRow_ne _ _ (show 57 ≠ 60 by decide), hu, show nI 6 - 1 = nI 5 from rfl]
      exact half 5 _ _ (by omega) kS (by rw [hPut_at, pk_us])
    · refine (hFr_row _ _ _ (Or.inr rfl)).trans ((hFr_put _ _ _ _ (Or.inl rfl)).trans ((hFr_row _ _ _ (Or.inr rfl)).trans (hFr_put _ _ _ _ (Or.inl rfl))))
    · rw [hPut_ne (by decide), hRow_at, hPut_ne (by decide), hRow_at, hPut_ne (by decide), hRow_ne _ _ (by decide)]
      unfold noted
      rw [if_pos rfl]
    · rw [hPut_at, hRow_ne _ _ (by decide), hPut_at, hRow_ne _ _ (by decide), upd_upd]
      rfl
  · refine ⟨hPut (hRow S 60 (cp (S.2.1 60) (S.2.1 58) (59 * z) 0 0 59)) 57 3 (nI (z + 1)), ?_, ?_, ?_, ?_⟩
    · show Rn hc_X10_notes 0 [some (.inr (some (10, 57))), none] [] S _
      iterate 4 refine r_step rfl rfl ?_
      refine r_i_ne (fun _ => half z S none (by omega) hL hu) (fun q => absurd q (by rw [hu, lit6, nI_eq (by omega) (by omega)]; exact h6))
    · exact (hFr_row _ _ _ (Or.inr rfl)).trans (hFr_put _ _ _ _ (Or.inl rfl))
    · rw [hPut_ne (by decide), hRow_at]
      unfold noted
      rw [if_neg h6]
    · rw [hPut_at, hRow_ne _ _ (by decide), show min 6 (z + 1) = z + 1 by omega]
