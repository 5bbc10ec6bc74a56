/-! The model's rain. -/
def hvM (S : hS) (g : List (Nat × Nat)) : Prop := ∀ n, n < 1000 → S.2.1 69 n = nI (cnt g n)
theorem hvM.add {S : hS} {g : List (Nat × Nat)} (h : hvM S g) {n : Nat} (w : Nat) {T : hS} (hn : n < 1000) (e : T.2.1 69 = upd (S.2.1 69) n (S.2.1 69 n + nI w)) : hvM T ((n, w) :: g) := by
  intro m hm
  rw [e, cnt_s]
  by_cases c : m = n
  · subst c
    rw [pk_us, h m hm, nI_add, if_pos rfl, Nat.add_comm]
  · rw [pk_un c, h m hm, if_neg (fun q => c q.symm), Nat.zero_add]
def mrOk (S : hS) (z : List Int32 × Nat × List (Nat × Nat)) : Prop := rL (S.2.1 68) z.1 ∧ S.2.1 57 20 = nI z.1.length ∧ S.2.1 57 22 = nI z.2.1 ∧ hvM S z.2.2
theorem e_closes0 (S : hS) (n : Nat) (hs : S.2.1 57 20 = nI n) (hn : n < 4) : Ev 58 [.inr (some (10, 57))] S (some 0, S) := by
  show Rn hc_X10_closes 0 [some (.inr (some (10, 57))), none] [] S _
  iterate 4 refine r_step rfl rfl ?_
  rw [hs]
  refine r_i_ge (fun q => absurd q (lt_lit (N := 4) rfl (by decide) hn)) (fun _ => ?_)
  refine r_step rfl rfl ?_
  exact r_retz rfl (Or.inl rfl) rfl rfl
theorem e_closes (x3 x2 x1 x0 : Int32) (R : List Int32) (S : hS) (hL : hLay S) (hR : rL (S.2.1 68) (x3 :: x2 :: x1 :: x0 :: R)) (hs : S.2.1 57 20 = nI (R.length + 4)) (hl : R.length + 4 ≤ 40) (b3 : bt x3 0 999) (b2 : bt x2 0 999) (b1 : bt x1 0 999) (b0 : bt x0 0 999) : Ev 58 [.inr (some (10, 57))] S (some (if nab x2 x1 ≤ nab x1 x0 ∧ nab x2 x1 ≤ nab x3 x2 then 1 else 0), S) := by
  obtain ⟨r3, r2, r1, r0, -⟩ := hR
  have q3 : S.2.1 68 (R.length + 3) = x3 := r3
  have q2 : S.2.1 68 (R.length + 2) = x2 := r2
  have q1 : S.2.1 68 (R.length + 1) = x1 := r1
  show Rn hc_X10_closes 0 [some (.inr (some (10, 57))), none] [] S _
  iterate 4 refine r_step rfl rfl ?_
  rw [hs]
  refine r_i_ge (fun _ => ?_) (fun q => absurd (nI_le (a := 4) (by omega) (by omega)) q)
  refine r_step rfl rfl ?_
  refine r_getr rfl (rv_57_19 hL) ?_
  iterate 4 refine r_step rfl rfl ?_
  refine r_iald rfl (R.length + 1) (ix (R.length + 1) hs (b := 3) rfl (by omega) (by omega)) ⟨⟨by decide, by decide⟩, by show R.length + 1 < 40; omega⟩ ?_
  refine r_step rfl rfl ?_
  refine r_getr rfl (rv_57_19 hL) ?_
  iterate 4 refine r_step rfl rfl ?_
  refine r_iald rfl (R.length + 2) (ix (R.length + 2) hs (b := 2) rfl (by omega) (by omega)) ⟨⟨by decide, by decide⟩, by show R.length + 2 < 40; omega⟩ ?_
  rw [q1, q2]
  refine r_call rfl rfl (e_away _ _ _) ?_
  rw [nab_away b1 b2, nab_sy x1 x2]
  iterate 3 refine r_step rfl rfl ?_
  refine r_getr rfl (rv_57_19 hL) ?_
  iterate 4 refine r_step rfl rfl ?_
  refine r_iald rfl R.length (ix R.length hs (b := 4) rfl (by omega) (by omega)) ⟨⟨by decide, by decide⟩, by show R.length < 40; omega⟩ ?_
  refine r_step rfl rfl ?_
  refine r_getr rfl (rv_57_19 hL) ?_
  iterate 4 refine r_step rfl rfl ?_
  refine r_iald rfl (R.length + 1) (ix (R.length + 1) hs (b := 3) rfl (by omega) (by omega)) ⟨⟨by decide, by decide⟩, by show R.length + 1 < 40; omega⟩ ?_
  rw [q1, r0]
  refine r_call rfl rfl (e_away _ _ _) ?_
  rw [nab_away b0 b1, nab_sy x0 x1]
  have l1 := nab_lt b1 b0
  have l2 := nab_lt b2 b1
  have l3 := nab_lt b3 b2
  have out : ¬ (nab x2 x1 ≤ nab x1 x0 ∧ nab x2 x1 ≤ nab x3 x2) → Rn hc_X10_closes 98 [some (.inr (some (10, 57))), some (.inl (nI (nab x2 x1)))] [] S (some (if nab x2 x1 ≤ nab x1 x0 ∧ nab x2 x1 ≤ nab x3 x2 then 1 else 0), S) := by
    intro c
    rw [if_neg c]
    refine r_step rfl rfl ?_
    exact r_retz rfl (Or.inl rfl) rfl rfl
  refine r_step rfl rfl ?_
  refine r_i_gt (fun q => out (fun w => by rw [nle_lit (by omega) (by omega)] at q; omega)) (fun q => ?_)
  iterate 2 refine r_step rfl rfl ?_
  refine r_getr rfl (rv_57_19 hL) ?_
  iterate 4 refine r_step rfl rfl ?_
  refine r_iald rfl (R.length + 2) (ix (R.length + 2) hs (b := 2) rfl (by omega) (by omega)) ⟨⟨by decide, by decide⟩, by show R.length + 2 < 40; omega⟩ ?_
  refine r_step rfl rfl ?_
  refine r_getr rfl (rv_57_19 hL) ?_
  iterate 4 refine r_step rfl rfl ?_
  refine r_iald rfl (R.length + 3) (ix (R.length + 3) hs (b := 1) rfl (by omega) (by omega)) ⟨⟨by decide, by decide⟩, by show R.length + 3 < 40; omega⟩ ?_
  rw [q2, q3]
  refine r_call rfl rfl (e_away _ _ _) ?_
  rw [nab_away b2 b3, nab_sy x2 x3]
  refine r_step rfl rfl ?_
  refine r_i_gt (fun q => out (fun w => by rw [nle_lit (by omega) (by omega)] at q; omega)) (fun p => ?_)
  rw [nle_lit (by omega) (by omega)] at p q
  rw [if_pos ⟨by omega, by omega⟩]
  iterate 2 refine r_step rfl rfl ?_
  exact r_retz rfl (Or.inr rfl) rfl rfl
set_option maxHeartbeats 4000000 in
set_option maxRecDepth 100000 in
theorem ml_l (l : Option hV) (i : Nat) (hi : i ≤ 40) : ∀ (d : Nat) (R : List Int32) (c : Nat) (g : List (Nat × Nat)) (T : hS), R.length ≤ d + 3 → gd i (R, c, g) → hLay T → mrOk T (R, c, g) → ∃ T', hFr T T' (fun p => p = 57 ∨ p = 68 ∨ p = 69) ∧ (∀ j, j ≠ 20 → j ≠ 22 → T'.2.1 57 j = T.2.1 57 j) ∧ mrOk T' (cl d R c g) ∧ (∀ o, Rn hc_X10_rains 157 [some (.inr (some (10, 57))), l] [] T' o → Rn hc_X10_rains 71 [some (.inr (some (10, 57))), l] [] T o) := by
  intro d
  have few : ∀ (R : List Int32) (c : Nat) (g : List (Nat × Nat)) (T : hS), R.length < 4 → mrOk T (R, c, g) → (∀ o, Rn hc_X10_rains 157 [some (.inr (some (10, 57))), l] [] T o → Rn hc_X10_rains 71 [some (.inr (some (10, 57))), l] [] T o) := by
    intro R c g T hl ho o k
    refine r_step rfl rfl ?_
    refine r_call rfl rfl (e_closes0 T R.length ho.2.1 hl) ?_
    refine r_step rfl rfl ?_
    exact k
  induction d with
  | zero =>
    intro R c g T hR hg hL ho
    refine ⟨T, hFr.rf _ _, fun _ _ _ => rfl, ?_, few R c g T (by omega) ho⟩
    unfold cl
    exact ho
  | succ d ih =>
    intro R c g T hR hg hL ho
    match R, hR, hg, ho with
    | [], hR, hg, ho => exact ⟨T, hFr.rf _ _, fun _ _ _ => rfl, ho, few [] c g T (show 0 < 4 by omega) ho⟩
    | [y0], hR, hg, ho => exact ⟨T, hFr.rf _ _, fun _ _ _ => rfl, ho, few [y0] c g T (show 1 < 4 by omega) ho⟩
    | [y0, y1], hR, hg, ho => exact ⟨T, hFr.rf _ _, fun _ _ _ => rfl, ho, few [y0, y1] c g T (show 2 < 4 by omega) ho⟩
    | [y0, y1, y2], hR, hg, ho => exact ⟨T, hFr.rf _ _, fun _ _ _ => rfl, ho, few [y0, y1, y2] c g T (show 3 < 4 by omega) ho⟩
    | x3 :: x2 :: x1 :: x0 :: R, hR, hg, ho =>
      obtain ⟨o1, o2, o3, o4⟩ := ho
      have hs : T.2.1 57 20 = nI (R.length + 4) := o2
      have hc7 : T.2.1 57 22 = nI c := o3
      have hl : R.length + 4 + 2 * c = i := hg.2.1
      have hR2 : R.length + 4 ≤ d + 1 + 3 := hR
      have m3 := hg.1 x3 List.mem_cons_self
      have m2 := hg.1 x2 (List.mem_cons_of_mem _ List.mem_cons_self)
      have m1 := hg.1 x1 (List.mem_cons_of_mem _ (List.mem_cons_of_mem _ List.mem_cons_self))
      have m0 := hg.1 x0 (List.mem_cons_of_mem _ (List.mem_cons_of_mem _ (List.mem_cons_of_mem _ List.mem_cons_self)))
      have ins := e_closes x3 x2 x1 x0 R T hL o1 hs (by omega) m3 m2 m1 m0
      have start : ∀ o, Rn hc_X10_rains 75 [some (.inr (some (10, 57))), l] [.inl (if nab x2 x1 ≤ nab x1 x0 ∧ nab x2 x1 ≤ nab x3 x2 then 1 else 0)] T o → Rn hc_X10_rains 71 [some (.inr (some (10, 57))), l] [] T o := by
        intro o k
        refine r_step rfl rfl ?_
        exact r_call rfl rfl ins k
      rw [cl_s]
      by_cases k : nab x2 x1 ≤ nab x1 x0 ∧ nab x2 x1 ≤ nab x3 x2
      · rw [if_pos k] at start ⊢
        obtain ⟨r3, r2, r1, r0, rr⟩ := o1
        have q3 : T.2.1 68 (R.length + 3) = x3 := r3
        have q2 : T.2.1 68 (R.length + 2) = x2 := r2
        have q1 : T.2.1 68 (R.length + 1) = x1 := r1
        have nl := nab_lt m2 m1
        have hL1 : hLay (hPut T 69 (nab x2 x1) (T.2.1 69 (nab x2 x1) + nI 2)) := hL.put _ _ _
        have hL2 : hLay (hPut (hPut T 69 (nab x2 x1) (T.2.1 69 (nab x2 x1) + nI 2)) 57 22 (nI (c + 1))) := hL1.put _ _ _
        have p20 : (hPut (hPut T 69 (nab x2 x1) (T.2.1 69 (nab x2 x1) + nI 2)) 57 22 (nI (c + 1))).2.1 57 20 = nI (R.length + 4) := by rw [hPut_at, pk_un (by decide), hPut_ne (by decide)]; exact hs
        have p22 : (hPut (hPut T 69 (nab x2 x1) (T.2.1 69 (nab x2 x1) + nI 2)) 57 22 (nI (c + 1))).2.1 57 22 = nI (c + 1) := by rw [hPut_at, pk_us]
        have p68 : (hPut (hPut T 69 (nab x2 x1) (T.2.1 69 (nab x2 x1) + nI 2)) 57 22 (nI (c + 1))).2.1 68 = T.2.1 68 := by rw [hPut_ne (by decide), hPut_ne (by decide)]
        have p69 : (hPut (hPut T 69 (nab x2 x1) (T.2.1 69 (nab x2 x1) + nI 2)) 57 22 (nI (c + 1))).2.1 69 = upd (T.2.1 69) (nab x2 x1) (T.2.1 69 (nab x2 x1) + nI 2) := by rw [hPut_ne (by decide), hPut_at]
        have p57 : ∀ j, j ≠ 22 → (hPut (hPut T 69 (nab x2 x1) (T.2.1 69 (nab x2 x1) + nI 2)) 57 22 (nI (c + 1))).2.1 57 j = T.2.1 57 j := fun j hj => by rw [hPut_at, pk_un hj, hPut_ne (by decide)]
        have fr : hFr T (hPut (hPut T 69 (nab x2 x1) (T.2.1 69 (nab x2 x1) + nI 2)) 57 22 (nI (c + 1))) (fun p => p = 57 ∨ p = 68 ∨ p = 69) := (hFr_put _ _ _ _ (Or.inr (Or.inr rfl))).trans (hFr_put _ _ _ _ (Or.inl rfl))
        have wlk : ∀ o, Rn hc_X10_rains 122 [some (.inr (some (10, 57))), l] [] (hPut (hPut T 69 (nab x2 x1) (T.2.1 69 (nab x2 x1) + nI 2)) 57 22 (nI (c + 1))) o → Rn hc_X10_rains 71 [some (.inr (some (10, 57))), l] [] T o := by
          intro o kk
          refine start _ ?_
          iterate 2 refine r_step rfl rfl ?_
          refine r_getr rfl (rv_57_21 hL) ?_
          refine r_step rfl rfl ?_
          refine r_getr rfl (rv_57_19 hL) ?_
          iterate 4 refine r_step rfl rfl ?_
          refine r_iald rfl (R.length + 1) (ix (R.length + 1) hs (b := 3) rfl (by omega) (by omega)) ⟨⟨by decide, by decide⟩, by show R.length + 1 < 40; omega⟩ ?_
          refine r_step rfl rfl ?_
          refine r_getr rfl (rv_57_19 hL) ?_
          iterate 4 refine r_step rfl rfl ?_
          refine r_iald rfl (R.length + 2) (ix (R.length + 2) hs (b := 2) rfl (by omega) (by omega)) ⟨⟨by decide, by decide⟩, by show R.length + 2 < 40; omega⟩ ?_
          rw [q1, q2]
          refine r_call rfl rfl (e_away _ _ _) ?_
          rw [nab_away m1 m2, nab_sy x1 x2]
          refine r_step rfl rfl ?_
          refine r_iald rfl (nab x2 x1) (ti (by omega)) ⟨⟨by decide, by decide⟩, by show nab x2 x1 < 1000; omega⟩ ?_
          iterate 2 refine r_step rfl rfl ?_
          refine r_iast0 rfl (nab x2 x1) (ti (by omega)) ⟨⟨by decide, by decide⟩, by show nab x2 x1 < 1000; omega⟩ ?_
          show Rn hc_X10_rains 112 [some (.inr (some (10, 57))), l] [] (hPut T 69 (nab x2 x1) (T.2.1 69 (nab x2 x1) + nI 2)) o
          iterate 6 refine r_step rfl rfl ?_
          rw [hPut_ne (show 57 ≠ 69 by decide), hc7, nI_s1]
          exact kk
        have hv := hvM.add o4 2 nl p69
        generalize hPut (hPut T 69 (nab x2 x1) (T.2.1 69 (nab x2 x1) + nI 2)) 57 22 (nI (c + 1)) = T1 at *
        have hL3 : hLay (hPut (hPut T1 68 (R.length + 1) x3) 57 20 (nI (R.length + 2))) := (hL2.put _ _ _).put _ _ _
        obtain ⟨T2, b2, b3, b4, b1⟩ := ih (x3 :: x0 :: R) (c + 1) ((nab x2 x1, 2) :: g) (hPut (hPut T1 68 (R.length + 1) x3) 57 20 (nI (R.length + 2))) (by show R.length + 1 + 1 ≤ d + 3; omega) (gd_step hg) hL3 (by
          refine ⟨?_, ?_, ?_, ?_⟩
          · show rL _ (x3 :: x0 :: R)
            rw [hPut_ne (by decide), hPut_at, p68]
            exact ⟨pk_us .., by rw [pk_un (by omega)]; exact r0, rL.up rr (by omega)⟩
          · rw [hPut_at, pk_us]; rfl
          · rw [hPut_at, pk_un (by decide), hPut_ne (by decide)]; exact p22
          · intro n hn
            rw [hPut_ne (by decide), hPut_ne (by decide)]
            exact hv n hn)
        have frP : hFr T1 (hPut (hPut T1 68 (R.length + 1) x3) 57 20 (nI (R.length + 2))) (fun p => p = 57 ∨ p = 68 ∨ p = 69) := (hFr_put _ _ _ _ (Or.inr (Or.inl rfl))).trans (hFr_put _ _ _ _ (Or.inl rfl))
        refine ⟨T2, (fr.trans frP).trans b2, fun j h3 h6 => ?_, b4, fun o kk => wlk _ ?_⟩
        · rw [b3 j h3 h6, hPut_at, pk_un h3, hPut_ne (by decide), p57 j h6]
        · refine r_step rfl rfl ?_
          refine r_getr rfl (rv_57_19 hL2) ?_
          iterate 5 refine r_step rfl rfl ?_
          refine r_getr rfl (rv_57_19 hL2) ?_
          iterate 4 refine r_step rfl rfl ?_
          refine r_iald rfl (R.length + 3) (ix (R.length + 3) p20 (b := 1) rfl (by omega) (by omega)) ⟨⟨by decide, by decide⟩, by show R.length + 3 < 40; omega⟩ ?_
          rw [p68, q3]
          refine r_iast0 rfl (R.length + 1) (ix (R.length + 1) p20 (b := 3) rfl (by omega) (by omega)) ⟨⟨by decide, by decide⟩, by show R.length + 1 < 40; omega⟩ ?_
          iterate 6 refine r_step rfl rfl ?_
          rw [hPut_ne (show 57 ≠ 68 by decide), p20, show nI (R.length + 4) - 2 = nI (R.length + 2) from sub_lit (a := R.length + 2) (b := 2) (x := 2) rfl (by omega)]
          refine r_step rfl rfl ?_
          exact b1 o kk
      · rw [if_neg k] at start ⊢
        refine ⟨T, hFr.rf _ _, fun _ _ _ => rfl, ⟨o1, o2, o3, o4⟩, fun o kk => start _ ?_⟩
        refine r_step rfl rfl ?_
        exact kk
