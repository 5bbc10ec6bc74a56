/-! The small calls: type, clear, forget, sees, setting, count. -/
theorem rel_ts {S S2 : hS} (h : Rel S) (f : hFr S S2 (fun p => p = 2 ∨ p = 3 ∨ p = 64 ∨ p = 57 ∨ p = 46 ∨ p = 47 ∨ p = 48 ∨ p = 49 ∨ p = 70)) (u : S2.2.1 57 3 = S.2.1 57 3) (ht : rText (S2.2.1 2 1) (S2.2.1 57 8) (S2.2.1 3) (S2.2.1 64)) (hs : rSeen (S2.2.1 46 4) (S2.2.1 57 24) (S2.2.1 47) (S2.2.1 48) (S2.2.1 49) (S2.2.1 70)) : Rel S2 := by
  obtain ⟨a, b, -, d, e, g, -⟩ := h
  have k : ∀ p, ¬ (p = 2 ∨ p = 3 ∨ p = 64 ∨ p = 57 ∨ p = 46 ∨ p = 47 ∨ p = 48 ∨ p = 49 ∨ p = 70) → S2.2.1 p = S.2.1 p := f.2.2
  refine ⟨a.fr f, ?_, ht, ?_, ?_, ?_, hs⟩
  · rw [k 1 (by decide), k 63 (by decide)]; exact b
  · exact d.congr (k _ (by decide)) (k _ (by decide)) (k _ (by decide)) (k _ (by decide)) (k _ (by decide)) (k 58 (by decide))
  · rw [u]
    exact e.congr (fun p x y => k p (by omega)) (k _ (by decide)) (k _ (by decide))
  · exact g.congr (fun p x y => by
      by_cases hp : p = 46
      · omega
      · exact k p (by omega)) (k _ (by decide)) (k _ (by decide)) (k _ (by decide))
theorem a_clear {S : hS} (h : Rel S) : Alk 49 7 [] S := by
  have hL := h.1
  obtain ⟨n, h1, e1, e2, h3⟩ := h.2.2.1
  refine ⟨nI n, hPut S 2 1 0, hPut (hPut S 2 1 0) 57 8 0, ?_, ?_, ?_⟩
  · show Rn hc_X9_clear 0 [some (.inr (some (9, 0))), none] [] S _
    repeat' (first | refine r_getr rfl (rv_0_1 hL) ?_ | refine r_reti rfl ?_ rfl | refine r_step rfl rfl ?_ | with_reducible refine r_i_eq (fun c => ?_) (fun c => ?_) | with_reducible refine r_i_ne (fun c => ?_) (fun c => ?_) | with_reducible refine r_i_lt (fun c => ?_) (fun c => ?_) | with_reducible refine r_i_ge (fun c => ?_) (fun c => ?_) | with_reducible refine r_i_gt (fun c => ?_) (fun c => ?_) | with_reducible refine r_i_le (fun c => ?_) (fun c => ?_))
    exact e1
  · show Rn hc_X10_clear 0 [some (.inr (some (10, 57))), none] [] (hPut S 2 1 0) _
    repeat' (first | refine r_reti rfl ?_ rfl | refine r_step rfl rfl ?_ | with_reducible refine r_i_eq (fun c => ?_) (fun c => ?_) | with_reducible refine r_i_ne (fun c => ?_) (fun c => ?_) | with_reducible refine r_i_lt (fun c => ?_) (fun c => ?_) | with_reducible refine r_i_ge (fun c => ?_) (fun c => ?_) | with_reducible refine r_i_gt (fun c => ?_) (fun c => ?_) | with_reducible refine r_i_le (fun c => ?_) (fun c => ?_))
    rw [hPut_ne (by decide)]
    exact e2
  · refine rel_ts h ((hFr_put _ _ _ _ (Or.inl rfl)).trans (hFr_put _ _ _ _ (Or.inr (Or.inr (Or.inr (Or.inl rfl)))))) ?_ ?_ ?_
    · rw [hPut_at, pk_un (by decide), hPut_ne (by decide)]
    · refine ⟨0, by omega, ?_, ?_, fun k hk => absurd hk (by omega)⟩
      · rw [hPut_ne (by decide), hPut_at, pk_us]; rfl
      · rw [hPut_at, pk_us]; rfl
    · obtain ⟨z, k1, k2, k3, k4⟩ := h.2.2.2.2.2.2
      refine ⟨z, k1, ?_, ?_, ?_⟩
      · rw [hPut_ne (by decide), hPut_ne (by decide)]; exact k2
      · rw [hPut_at, pk_un (by decide), hPut_ne (by decide)]; exact k3
      · rw [hPut_ne (by decide), hPut_ne (by decide), hPut_ne (by decide), hPut_ne (by decide), hPut_ne (by decide), hPut_ne (by decide), hPut_ne (by decide), hPut_ne (by decide)]; exact k4
theorem a_forget {S : hS} (h : Rel S) : Alk 51 9 [] S := by
  have hL := h.1
  obtain ⟨z, k1, k2, k3, k4⟩ := h.2.2.2.2.2.2
  refine ⟨nI z, hPut S 46 4 0, hPut (hPut S 46 4 0) 57 24 0, ?_, ?_, ?_⟩
  · show Rn hc_X9_forget 0 [some (.inr (some (9, 0))), none] [] S _
    repeat' (first | refine r_getr rfl (rv_0_7 hL) ?_ | refine r_reti rfl ?_ rfl | refine r_step rfl rfl ?_ | with_reducible refine r_i_eq (fun c => ?_) (fun c => ?_) | with_reducible refine r_i_ne (fun c => ?_) (fun c => ?_) | with_reducible refine r_i_lt (fun c => ?_) (fun c => ?_) | with_reducible refine r_i_ge (fun c => ?_) (fun c => ?_) | with_reducible refine r_i_gt (fun c => ?_) (fun c => ?_) | with_reducible refine r_i_le (fun c => ?_) (fun c => ?_))
    exact k2
  · show Rn hc_X10_forget 0 [some (.inr (some (10, 57))), none] [] (hPut S 46 4 0) _
    repeat' (first | refine r_reti rfl ?_ rfl | refine r_step rfl rfl ?_ | with_reducible refine r_i_eq (fun c => ?_) (fun c => ?_) | with_reducible refine r_i_ne (fun c => ?_) (fun c => ?_) | with_reducible refine r_i_lt (fun c => ?_) (fun c => ?_) | with_reducible refine r_i_ge (fun c => ?_) (fun c => ?_) | with_reducible refine r_i_gt (fun c => ?_) (fun c => ?_) | with_reducible refine r_i_le (fun c => ?_) (fun c => ?_))
    rw [hPut_ne (by decide)]
    exact k3
  · refine rel_ts h ((hFr_put _ _ _ _ (Or.inr (Or.inr (Or.inr (Or.inr (Or.inl rfl)))))).trans (hFr_put _ _ _ _ (Or.inr (Or.inr (Or.inr (Or.inl rfl)))))) ?_ ?_ ?_
    · rw [hPut_at, pk_un (by decide), hPut_ne (by decide)]
    · obtain ⟨n, h1, e1, e2, h3⟩ := h.2.2.1
      refine ⟨n, h1, ?_, ?_, ?_⟩
      · rw [hPut_ne (by decide), hPut_ne (by decide)]; exact e1
      · rw [hPut_at, pk_un (by decide), hPut_ne (by decide)]; exact e2
      · rw [hPut_ne (by decide), hPut_ne (by decide), hPut_ne (by decide), hPut_ne (by decide)]; exact h3
    · refine ⟨0, by omega, ?_, ?_, fun k hk => absurd hk (by omega)⟩
      · rw [hPut_ne (by decide), hPut_at, pk_us]; rfl
      · rw [hPut_at, pk_us]; rfl
theorem e_within (v lo hi : Int32) (S : hS) : Ev 52 [.inl v, .inl lo, .inl hi] S (some (mIn v lo hi), S) := by
  show Rn hc_X9_isWithin 0 [some (.inl v), some (.inl lo), some (.inl hi)] [] S _
  repeat' (first | refine r_step rfl rfl ?_ | with_reducible refine r_i_eq (fun c => ?_) (fun c => ?_) | with_reducible refine r_i_ne (fun c => ?_) (fun c => ?_) | with_reducible refine r_i_lt (fun c => ?_) (fun c => ?_) | with_reducible refine r_i_ge (fun c => ?_) (fun c => ?_) | with_reducible refine r_i_gt (fun c => ?_) (fun c => ?_) | with_reducible refine r_i_le (fun c => ?_) (fun c => ?_))
  all_goals refine r_retz rfl (by first | exact Or.inl rfl | exact Or.inr rfl) ?_ rfl
  all_goals simp only [mIn, *, if_true, if_false]
theorem mIn_iff {v lo hi : Int32} : (mIn v lo hi = 0 ∧ ¬ (lo.toInt ≤ v.toInt ∧ v.toInt ≤ hi.toInt)) ∨ (mIn v lo hi = 1 ∧ lo.toInt ≤ v.toInt ∧ v.toInt ≤ hi.toInt) := by
  unfold mIn
  by_cases c1 : v < lo
  · rw [if_pos c1]; rw [i_lt] at c1; exact Or.inl ⟨rfl, by omega⟩
  · rw [if_neg c1]
    rw [i_lt] at c1
    by_cases c2 : hi < v
    · rw [if_pos c2]; rw [i_lt] at c2; exact Or.inl ⟨rfl, by omega⟩
    · rw [if_neg c2]; rw [i_lt] at c2; exact Or.inr ⟨rfl, by omega, by omega⟩
theorem e_stell (c : Nat) (S : hS) (j : Nat) (hj : j < 6) : Ev 37 [.inr (some (5, c)), .inl (nI j)] S (some (S.2.1 c j), S) := by
  show Rn hc_X5_tell 0 [some (.inr (some (5, c))), some (.inl (nI j))] [] S _
  refine r_step rfl rfl ?_
  match j, hj with
  | 0, _ => refine r_tsw 36 rfl (by decide) ?_; (iterate 2 refine r_step rfl rfl ?_); exact r_reti rfl rfl rfl
  | 1, _ => refine r_tsw 41 rfl (by decide) ?_; (iterate 2 refine r_step rfl rfl ?_); exact r_reti rfl rfl rfl
  | 2, _ => refine r_tsw 46 rfl (by decide) ?_; (iterate 2 refine r_step rfl rfl ?_); exact r_reti rfl rfl rfl
  | 3, _ => refine r_tsw 51 rfl (by decide) ?_; (iterate 2 refine r_step rfl rfl ?_); exact r_reti rfl rfl rfl
  | 4, _ => refine r_tsw 56 rfl (by decide) ?_; (iterate 2 refine r_step rfl rfl ?_); exact r_reti rfl rfl rfl
  | 5, _ => refine r_tsw 61 rfl (by decide) ?_; (iterate 2 refine r_step rfl rfl ?_); exact r_reti rfl rfl rfl
  | n + 6, h => exact absurd h (by omega)
theorem a_setting {S : hS} (h : Rel S) (x : Int32) : Alk 95 69 [.inl x] S := by
  have hL := h.1
  rcases mIn_iff (v := x) (lo := 0) (hi := 5) with ⟨k, q⟩ | ⟨k, q1, q2⟩
  · refine ⟨-1, S, S, ?_, ?_, h⟩
    · show Rn hc_X9_setting 0 [some (.inr (some (9, 0))), some (.inl x)] [] S _
      iterate 3 refine r_step rfl rfl ?_
      refine r_call rfl rfl (e_within _ _ _ _) ?_
      rw [k]
      repeat' (first | refine r_reti rfl ?_ rfl | refine r_step rfl rfl ?_ | with_reducible refine r_i_eq (fun c => ?_) (fun c => ?_) | with_reducible refine r_i_ne (fun c => ?_) (fun c => ?_) | with_reducible refine r_i_lt (fun c => ?_) (fun c => ?_) | with_reducible refine r_i_ge (fun c => ?_) (fun c => ?_) | with_reducible refine r_i_gt (fun c => ?_) (fun c => ?_) | with_reducible refine r_i_le (fun c => ?_) (fun c => ?_))
      rfl
    · show Rn hc_X10_setting 0 [some (.inr (some (10, 57))), some (.inl x)] [] S _
      iterate 3 refine r_step rfl rfl ?_
      refine r_call rfl rfl (e_in _ _ _ _) ?_
      rw [k]
      repeat' (first | refine r_reti rfl ?_ rfl | refine r_step rfl rfl ?_ | with_reducible refine r_i_eq (fun c => ?_) (fun c => ?_) | with_reducible refine r_i_ne (fun c => ?_) (fun c => ?_) | with_reducible refine r_i_lt (fun c => ?_) (fun c => ?_) | with_reducible refine r_i_ge (fun c => ?_) (fun c => ?_) | with_reducible refine r_i_gt (fun c => ?_) (fun c => ?_) | with_reducible refine r_i_le (fun c => ?_) (fun c => ?_))
      rfl
  · obtain ⟨j, hj, rfl⟩ := bt_nI (hi := 5) (x := x) ⟨q1, q2⟩ (by decide)
    refine ⟨S.2.1 63 j, S, S, ?_, ?_, h⟩
    · show Rn hc_X9_setting 0 [some (.inr (some (9, 0))), some (.inl (nI j))] [] S _
      iterate 3 refine r_step rfl rfl ?_
      refine r_call rfl rfl (e_within _ _ _ _) ?_
      rw [k]
      iterate 2 refine r_step rfl rfl ?_
      refine r_getr rfl (rv_0_0 hL) ?_
      refine r_step rfl rfl ?_
      refine r_call rfl rfl (e_stell 1 S j (by omega)) ?_
      refine r_step rfl rfl ?_
      exact r_reti rfl (h.2.1.2 j (by omega)) rfl
    · show Rn hc_X10_setting 0 [some (.inr (some (10, 57))), some (.inl (nI j))] [] S _
      iterate 3 refine r_step rfl rfl ?_
      refine r_call rfl rfl (e_in _ _ _ _) ?_
      rw [k]
      iterate 2 refine r_step rfl rfl ?_
      refine r_getr rfl (rv_57_6 hL) ?_
      refine r_step rfl rfl ?_
      refine r_iald rfl j (nI_toInt (by omega)) ⟨⟨by decide, by decide⟩, by show j < 6; omega⟩ ?_
      refine r_step rfl rfl ?_
      exact r_reti rfl rfl rfl
