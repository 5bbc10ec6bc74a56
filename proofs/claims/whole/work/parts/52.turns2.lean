/-! The turns, on both sides. -/
def uP (x : Nat → Int32) : Nat → (Nat → Int32) → Nat → (Nat → Int32) × Nat
  | 0, u, n => (u, n)
  | k + 1, u, n => uP x k (uS (x k) u n).1 (uS (x k) u n).2
theorem uP_s (x : Nat → Int32) (k : Nat) (u : Nat → Int32) (n : Nat) : uP x (k + 1) u n = uP x k (uS (x k) u n).1 (uS (x k) u n).2 := rfl
theorem uS_n (x : Int32) (u : Nat → Int32) (n : Nat) : (uS x u n).2 ≤ n + 1 := by
  unfold uS
  by_cases c : ¬ n = 0 ∧ u (n - 1) = x
  · rw [if_pos c]; show n ≤ n + 1; omega
  · rw [if_neg c]; exact Nat.le_refl _
theorem uP_n (x : Nat → Int32) : ∀ k u n, (uP x k u n).2 ≤ n + k
  | 0, u, n => Nat.le_refl _
  | k + 1, u, n => by
    have := uP_n x k (uS (x k) u n).1 (uS (x k) u n).2
    have := uS_n (x k) u n
    rw [uP_s]
    omega
/-- the speeds of the trace -/
def spd (T : hS) (z : Nat) (x : Nat → Int32) : Prop := ∃ n, n < 40 ∧ T.2.1 8 1 = nI n ∧ T.2.1 8 2 = nI z ∧ ∀ i, i < z → T.2.1 9 ((n + 39 - i) % 40) = x i
theorem pour1 (z : Nat) (hz : z ≤ 40) (x : Nat → Int32) : ∀ (k : Nat) (u : Nat → Int32) (n : Nat) (T : hS), k + n ≤ 40 → k ≤ z → hLay T → spd T z x → tOk T u n → ∃ T', hFr T T' (fun p => p = 51 ∨ p = 52) ∧ (∀ j, j ≠ 1 → T'.2.1 51 j = T.2.1 51 j) ∧ tOk T' (uP x k u n).1 (uP x k u n).2 ∧ (∀ o, Rn hc_X2_pour 46 [some (.inr (some (2, 51))), some (.inr (some (7, 8))), some (.inl (nI 0 + -1))] [] T' o → Rn hc_X2_pour 27 [some (.inr (some (2, 51))), some (.inr (some (7, 8))), some (.inl (nI k + -1))] [] T o) := by
  intro k
  induction k with
  | zero =>
    intro u n T hk hkz hL hx ht
    refine ⟨T, hFr.rf _ _, fun _ _ => rfl, ht, fun o q => ?_⟩
    iterate 2 refine r_step rfl rfl ?_
    refine r_i_lt (fun _ => q) (fun q => absurd (show nI 0 + -1 < 0 by decide) q)
  | succ k ih =>
    intro u n T hk hkz hL hx ht
    obtain ⟨nn, hn, x1, x2, x3⟩ := hx
    have sp := e_speedAgo 8 9 (nI k) nn z T (rv_8_0 hL) x1 hn x2 hz
    rw [if_neg (nI_pos (by omega)), if_pos (nI_lt (by omega) (by omega)), nI_clamp (by omega), x3 k (by omega)] at sp
    obtain ⟨T1, a1, a2, a3, a4⟩ := e_findTurn (x k) u n T hL (by omega) ht
    have f1 : ∀ p, ¬ (p = 51 ∨ p = 52) → T1.2.1 p = T.2.1 p := a2.2.2
    obtain ⟨T2, b1, b2, b3, b4⟩ := ih (uS (x k) u n).1 (uS (x k) u n).2 T1 (by have := uS_n (x k) u n; omega) (by omega) (hL.fr a2) ⟨nn, hn, by rw [f1 8 (by decide)]; exact x1, by rw [f1 8 (by decide)]; exact x2, by rw [f1 9 (by decide)]; exact x3⟩ a4
    refine ⟨T2, a2.trans b1, fun j hj => (b2 j hj).trans (a3 j hj), b3, fun o q => ?_⟩
    rw [nI_m1]
    iterate 2 refine r_step rfl rfl ?_
    refine r_i_lt (fun q => absurd q (nI_pos (by omega))) (fun _ => ?_)
    iterate 3 refine r_step rfl rfl ?_
    refine r_call rfl rfl sp ?_
    refine r_callv rfl rfl a1 ?_
    iterate 2 refine r_step rfl rfl ?_
    exact b4 o q
theorem uo_l (x : Nat → Int32) : ∀ (k n : Nat) (T : hS) (l3 : Option hV), k + n ≤ 40 → hLay T → (∀ i, i < k → T.2.1 58 (19 + i) = x i) → Rn hc_X10_unlikeOnes 12 [some (.inr (some (10, 57))), some (.inl (nI n)), some (.inl (nI k + -1)), l3] [] T (some (nI (uP x k (T.2.1 66) n).2), hRow T 66 (uP x k (T.2.1 66) n).1) := by
  intro k
  induction k with
  | zero =>
    intro n T l3 hk hL hx
    iterate 2 refine r_step rfl rfl ?_
    refine r_i_lt (fun _ => ?_) (fun q => absurd (show nI 0 + -1 < 0 by decide) q)
    refine r_step rfl rfl ?_
    exact r_reti rfl rfl (hRow_self T 66).symm
  | succ k ih =>
    intro n T l3 hk hL hx
    rw [nI_m1]
    iterate 2 refine r_step rfl rfl ?_
    refine r_i_lt (fun q => absurd q (nI_pos (by omega))) (fun _ => ?_)
    refine r_step rfl rfl ?_
    refine r_getr rfl (rv_57_0 hL) ?_
    iterate 3 refine r_step rfl rfl ?_
    refine r_iald rfl (19 + k) (by rw [show (19 : Int32) + nI k = nI (19 + k) from nI_add 19 k]; exact ti (by omega)) ⟨⟨by decide, by decide⟩, by show 19 + k < 59; omega⟩ ?_
    rw [hx k (by omega)]
    have push : ¬ (¬ n = 0 ∧ T.2.1 66 (n - 1) = x k) → Rn hc_X10_unlikeOnes 42 [some (.inr (some (10, 57))), some (.inl (nI n)), some (.inl (nI k)), some (.inl (x k))] [] T (some (nI (uP x (k + 1) (T.2.1 66) n).2), hRow T 66 (uP x (k + 1) (T.2.1 66) n).1) := by
      intro c
      have e : uS (x k) (T.2.1 66) n = (upd (T.2.1 66) n (x k), n + 1) := if_neg c
      have k1 := ih (n + 1) (hPut T 66 n (x k)) (some (.inl (x k))) (by omega) (hL.put _ _ _) (fun i hi => by rw [hPut_ne (by decide)]; exact hx i (by omega))
      rw [hPut_at, hPut_eq, hRow_row] at k1
      rw [uP_s, e]
      refine r_step rfl rfl ?_
      refine r_getr rfl (rv_57_16 hL) ?_
      iterate 2 refine r_step rfl rfl ?_
      refine r_iast0 rfl n (ti (by omega)) ⟨⟨by decide, by decide⟩, by show n < 40; omega⟩ ?_
      iterate 3 refine r_step rfl rfl ?_
      show Rn hc_X10_unlikeOnes 12 [some (.inr (some (10, 57))), some (.inl (nI n + 1)), some (.inl (nI k + -1)), some (.inl (x k))] [] (hPut T 66 n (x k)) _
      rw [nI_s1, hPut_eq]
      exact k1
    iterate 3 refine r_step rfl rfl ?_
    refine r_i_eq (fun q => push (fun w => w.1 ((nI_eq (by omega) (by decide)).1 (show nI n = nI 0 from q)))) (fun q => ?_)
    have n0 : ¬ n = 0 := fun w => q (by rw [w]; rfl)
    obtain ⟨m, rfl⟩ : ∃ m, n = m + 1 := ⟨n - 1, by omega⟩
    refine r_step rfl rfl ?_
    refine r_getr rfl (rv_57_16 hL) ?_
    iterate 3 refine r_step rfl rfl ?_
    refine r_iald rfl m (by rw [nI_pred]; exact ti (by omega)) ⟨⟨by decide, by decide⟩, by show m < 40; omega⟩ ?_
    iterate 2 refine r_step rfl rfl ?_
    refine r_i_eq (fun c => ?_) (fun c => push (fun w => c w.2))
    have e : uS (x k) (T.2.1 66) (m + 1) = (T.2.1 66, m + 1) := if_pos ⟨n0, c⟩
    rw [uP_s, e]
    iterate 2 refine r_step rfl rfl ?_
    exact ih (m + 1) T _ (by omega) hL (fun i hi => hx i (by omega))
theorem e_unlikeOnes (x : Nat → Int32) (z : Nat) (hz : z ≤ 40) (S : hS) (hL : hLay S) (h18 : S.2.1 58 18 = nI z) (hx : ∀ i, i < z → S.2.1 58 (19 + i) = x i) : Ev 24 [.inr (some (10, 57))] S (some (nI (uP x z (S.2.1 66) 0).2), hRow S 66 (uP x z (S.2.1 66) 0).1) := by
  show Rn hc_X10_unlikeOnes 0 [some (.inr (some (10, 57))), none, none, none] [] S _
  iterate 3 refine r_step rfl rfl ?_
  refine r_getr rfl (rv_57_0 hL) ?_
  refine r_step rfl rfl ?_
  refine r_iald rfl 18 rfl ⟨⟨by decide, by decide⟩, by decide⟩ ?_
  rw [h18]
  iterate 3 refine r_step rfl rfl ?_
  have e : nI z - 1 = nI z + -1 := Int32.sub_eq_add_neg ..
  rw [e]
  exact uo_l x z 0 S none (by omega) hL hx
def mOk (T : hS) (TL : List Int32) : Prop := rL (T.2.1 67) TL ∧ T.2.1 57 18 = nI TL.length
theorem ftm_push (l1 : Option hV) (i : Nat) (l3 : Option hV) (T : hS) (TL : List Int32) (o : Option Int32 × hS) (hL : hLay T) (hc : T.2.1 57 18 = nI TL.length) (hl : TL.length < 40) (hi : i < 40) (k : Rn hc_X10_findsTurns 12 [some (.inr (some (10, 57))), l1, some (.inl (nI (i + 1))), some (.inl 1)] [] (hPut (hPut T 67 TL.length (T.2.1 66 i)) 57 18 (nI (TL.length + 1))) o) : Rn hc_X10_findsTurns 75 [some (.inr (some (10, 57))), l1, some (.inl (nI i)), l3] [] T o := by
  iterate 6 refine r_step rfl rfl ?_
  refine r_getr rfl (rv_57_17 hL) ?_
  iterate 3 refine r_step rfl rfl ?_
  refine r_getr rfl (rv_57_16 hL) ?_
  refine r_step rfl rfl ?_
  refine r_iald rfl i (ti (by omega)) ⟨⟨by decide, by decide⟩, hi⟩ ?_
  refine r_iast0 rfl TL.length (by rw [hc]; exact ti (by omega)) ⟨⟨by decide, by decide⟩, hl⟩ ?_
  iterate 6 refine r_step rfl rfl ?_
  rw [hPut_ne (show 57 ≠ 67 by decide), hc, nI_s1]
  iterate 2 refine r_step rfl rfl ?_
  show Rn hc_X10_findsTurns 12 [some (.inr (some (10, 57))), l1, some (.inl (nI i + 1)), some (.inl 1)] [] _ _
  rw [nI_s1]
  exact k
