/-! The class's row on the roof. -/
def cl : Nat → List Int32 → Nat → List (Nat × Nat) → List Int32 × Nat × List (Nat × Nat)
  | d + 1, x3 :: x2 :: x1 :: x0 :: R, c, g => if nab x2 x1 ≤ nab x1 x0 ∧ nab x2 x1 ≤ nab x3 x2 then cl d (x3 :: x0 :: R) (c + 1) ((nab x2 x1, 2) :: g) else (x3 :: x2 :: x1 :: x0 :: R, c, g)
  | _, R, c, g => (R, c, g)
theorem cl_s (d : Nat) (x3 x2 x1 x0 : Int32) (R : List Int32) (c : Nat) (g : List (Nat × Nat)) : cl (d + 1) (x3 :: x2 :: x1 :: x0 :: R) c g = if nab x2 x1 ≤ nab x1 x0 ∧ nab x2 x1 ≤ nab x3 x2 then cl d (x3 :: x0 :: R) (c + 1) ((nab x2 x1, 2) :: g) else (x3 :: x2 :: x1 :: x0 :: R, c, g) := rfl
def gd (i : Nat) (z : List Int32 × Nat × List (Nat × Nat)) : Prop := (∀ x ∈ z.1, bt x 0 999) ∧ z.1.length + 2 * z.2.1 = i ∧ z.2.2.length = z.2.1 ∧ (∀ y ∈ z.2.2, y.1 < 1000) ∧ tw z.2.2 = 2 * z.2.1
theorem gd_step {i : Nat} {x3 x2 x1 x0 : Int32} {R : List Int32} {c : Nat} {g : List (Nat × Nat)} (h : gd i (x3 :: x2 :: x1 :: x0 :: R, c, g)) : gd i (x3 :: x0 :: R, c + 1, (nab x2 x1, 2) :: g) := by
  obtain ⟨a, b, d, e, f⟩ := h
  have b' : R.length + 4 + 2 * c = i := b
  have d' : g.length = c := d
  have f' : tw g = 2 * c := f
  refine ⟨fun x hx => a x ?_, ?_, ?_, fun y hy => ?_, ?_⟩
  · rcases List.mem_cons.1 hx with rfl | hx
    · exact List.mem_cons_self
    · rcases List.mem_cons.1 hx with rfl | hx
      · exact List.mem_cons_of_mem _ (List.mem_cons_of_mem _ (List.mem_cons_of_mem _ List.mem_cons_self))
      · exact List.mem_cons_of_mem _ (List.mem_cons_of_mem _ (List.mem_cons_of_mem _ (List.mem_cons_of_mem _ hx)))
  · show R.length + 1 + 1 + 2 * (c + 1) = i
    omega
  · show g.length + 1 = c + 1
    omega
  · rcases List.mem_cons.1 hy with rfl | hy
    · exact nab_lt (a _ (List.mem_cons_of_mem _ List.mem_cons_self)) (a _ (List.mem_cons_of_mem _ (List.mem_cons_of_mem _ List.mem_cons_self)))
    · exact e y hy
  · show 2 + tw g = 2 * (c + 1)
    omega
theorem gd_cl (i : Nat) : ∀ (d : Nat) (R : List Int32) (c : Nat) (g : List (Nat × Nat)), gd i (R, c, g) → gd i (cl d R c g)
  | 0, R, c, g, h => by unfold cl; exact h
  | d + 1, [], c, g, h => h
  | d + 1, [_], c, g, h => h
  | d + 1, [_, _], c, g, h => h
  | d + 1, [_, _, _], c, g, h => h
  | d + 1, x3 :: x2 :: x1 :: x0 :: R, c, g, h => by
    rw [cl_s]
    by_cases k : nab x2 x1 ≤ nab x1 x0 ∧ nab x2 x1 ≤ nab x3 x2
    · rw [if_pos k]; exact gd_cl i d _ _ _ (gd_step h)
    · rw [if_neg k]; exact h
theorem ix {s x : Int32} {n b : Nat} (a : Nat) (hs : s = nI n) (hx : x = nI b) (h : n = a + b) (hn : n < 2147483648) : (s - x).toInt = (a : Int) := by
  rw [hs, h, sub_lit hx (by omega)]
  exact ti (by omega)
theorem nle_lit {a b : Nat} (ha : a < 2147483648) (hb : b < 2147483648) : nI b < nI a ↔ b < a := by
  rw [i_lt, ti ha, ti hb]
  omega
theorem e_inside (x3 x2 x1 x0 : Int32) (R : List Int32) (S : hS) (hL : hLay S) (hR : rL (S.2.1 53) (x3 :: x2 :: x1 :: x0 :: R)) (hs : S.2.1 51 3 = nI (R.length + 4)) (hl : R.length + 4 ≤ 40) (b3 : bt x3 0 999) (b2 : bt x2 0 999) (b1 : bt x1 0 999) (b0 : bt x0 0 999) : Ev 75 [.inr (some (2, 51))] S (some (if nab x2 x1 ≤ nab x1 x0 ∧ nab x2 x1 ≤ nab x3 x2 then 1 else 0), S) := by
  obtain ⟨r3, r2, r1, r0, -⟩ := hR
  have q3 : S.2.1 53 (R.length + 3) = x3 := r3
  have q2 : S.2.1 53 (R.length + 2) = x2 := r2
  have q1 : S.2.1 53 (R.length + 1) = x1 := r1
  show Rn hc_X2_isCycleInside 0 [some (.inr (some (2, 51))), none, none, none] [] S _
  refine r_step rfl rfl ?_
  refine r_getr rfl (rv_51_2 hL) ?_
  iterate 4 refine r_step rfl rfl ?_
  refine r_iald rfl (R.length + 1) (ix (R.length + 1) hs (b := 3) rfl (by omega) (by omega)) ⟨⟨by decide, by decide⟩, by show R.length + 1 < 40; omega⟩ ?_
  refine r_step rfl rfl ?_
  refine r_getr rfl (rv_51_2 hL) ?_
  iterate 4 refine r_step rfl rfl ?_
  refine r_iald rfl R.length (ix R.length hs (b := 4) rfl (by omega) (by omega)) ⟨⟨by decide, by decide⟩, by show R.length < 40; omega⟩ ?_
  refine r_step rfl rfl ?_
  rw [q1, r0]
  refine r_call rfl rfl (e_abs _ _) ?_
  rw [nab_abs b1 b0]
  iterate 2 refine r_step rfl rfl ?_
  refine r_getr rfl (rv_51_2 hL) ?_
  iterate 4 refine r_step rfl rfl ?_
  refine r_iald rfl (R.length + 2) (ix (R.length + 2) hs (b := 2) rfl (by omega) (by omega)) ⟨⟨by decide, by decide⟩, by show R.length + 2 < 40; omega⟩ ?_
  refine r_step rfl rfl ?_
  refine r_getr rfl (rv_51_2 hL) ?_
  iterate 4 refine r_step rfl rfl ?_
  refine r_iald rfl (R.length + 1) (ix (R.length + 1) hs (b := 3) rfl (by omega) (by omega)) ⟨⟨by decide, by decide⟩, by show R.length + 1 < 40; omega⟩ ?_
  refine r_step rfl rfl ?_
  rw [q1, q2]
  refine r_call rfl rfl (e_abs _ _) ?_
  rw [nab_abs b2 b1]
  iterate 2 refine r_step rfl rfl ?_
  refine r_getr rfl (rv_51_2 hL) ?_
  iterate 4 refine r_step rfl rfl ?_
  refine r_iald rfl (R.length + 3) (ix (R.length + 3) hs (b := 1) rfl (by omega) (by omega)) ⟨⟨by decide, by decide⟩, by show R.length + 3 < 40; omega⟩ ?_
  refine r_step rfl rfl ?_
  refine r_getr rfl (rv_51_2 hL) ?_
  iterate 4 refine r_step rfl rfl ?_
  refine r_iald rfl (R.length + 2) (ix (R.length + 2) hs (b := 2) rfl (by omega) (by omega)) ⟨⟨by decide, by decide⟩, by show R.length + 2 < 40; omega⟩ ?_
  refine r_step rfl rfl ?_
  rw [q2, q3]
  refine r_call rfl rfl (e_abs _ _) ?_
  rw [nab_abs b3 b2]
  have l1 := nab_lt b1 b0
  have l2 := nab_lt b2 b1
  have l3 := nab_lt b3 b2
  have out : ¬ (nab x2 x1 ≤ nab x1 x0 ∧ nab x2 x1 ≤ nab x3 x2) → Rn hc_X2_isCycleInside 95 [some (.inr (some (2, 51))), some (.inl (nI (nab x1 x0))), some (.inl (nI (nab x2 x1))), some (.inl (nI (nab x3 x2)))] [] S (some (if nab x2 x1 ≤ nab x1 x0 ∧ nab x2 x1 ≤ nab x3 x2 then 1 else 0), S) := by
    intro c
    rw [if_neg c]
    refine r_step rfl rfl ?_
    exact r_retz rfl (Or.inl rfl) rfl rfl
  iterate 4 refine r_step rfl rfl ?_
  refine r_i_gt (fun q => out (fun w => by rw [nle_lit (by omega) (by omega)] at q; omega)) (fun q => ?_)
  iterate 3 refine r_step rfl rfl ?_
  refine r_i_gt (fun q => out (fun w => by rw [nle_lit (by omega) (by omega)] at q; omega)) (fun p => ?_)
  rw [nle_lit (by omega) (by omega)] at p q
  rw [if_pos ⟨by omega, by omega⟩]
  iterate 2 refine r_step rfl rfl ?_
  exact r_retz rfl (Or.inr rfl) rfl rfl
def rOk (S : hS) (z : List Int32 × Nat × List (Nat × Nat)) : Prop := rL (S.2.1 53) z.1 ∧ S.2.1 51 3 = nI z.1.length ∧ S.2.1 51 7 = nI z.2.1 ∧ hvC S z.2.2
theorem hvC.congr {S S' : hS} {g : List (Nat × Nat)} (h : hvC S g) (e6 : S'.2.1 51 6 = S.2.1 51 6) (e4 : S'.2.1 54 = S.2.1 54) (e5 : S'.2.1 55 = S.2.1 55) : hvC S' g := by
  unfold hvC at *
  rw [e6, e4, e5]
  exact h
set_option maxHeartbeats 4000000 in
set_option maxRecDepth 100000 in
theorem atr_l (x : Int32) (i : Nat) (hi : i ≤ 40) : ∀ (d : Nat) (R : List Int32) (c : Nat) (g : List (Nat × Nat)) (T : hS), R.length ≤ d + 3 → gd i (R, c, g) → hLay T → rOk T (R, c, g) → ∃ T', Rn hc_X2_addToRow 30 [some (.inr (some (2, 51))), some (.inl x)] [] T (none, T') ∧ hFr T T' (fun p => p = 51 ∨ p = 53 ∨ p = 54 ∨ p = 55) ∧ (∀ j, j ≠ 3 → j ≠ 6 → j ≠ 7 → T'.2.1 51 j = T.2.1 51 j) ∧ rOk T' (cl d R c g) := by
  intro d
  have few : ∀ (R : List Int32) (c : Nat) (g : List (Nat × Nat)) (T : hS), R.length < 4 → hLay T → rOk T (R, c, g) → Rn hc_X2_addToRow 30 [some (.inr (some (2, 51))), some (.inl x)] [] T (none, T) := by
    intro R c g T hl hL ho
    have hs : T.2.1 51 3 = nI R.length := ho.2.1
    iterate 4 refine r_step rfl rfl ?_
    rw [hs]
    refine r_i_lt (fun _ => r_retn rfl rfl) (fun q => absurd (nI_lt (b := 4) hl (by decide)) q)
  induction d with
  | zero =>
    intro R c g T hR hg hL ho
    refine ⟨T, few R c g T (by omega) hL ho, hFr.rf _ _, fun _ _ _ _ => rfl, ?_⟩
    unfold cl
    exact ho
  | succ d ih =>
    intro R c g T hR hg hL ho
    match R, hR, hg, ho with
    | [], hR, hg, ho => exact ⟨T, few [] c g T (show 0 < 4 by omega) hL ho, hFr.rf _ _, fun _ _ _ _ => rfl, ho⟩
    | [y0], hR, hg, ho => exact ⟨T, few [y0] c g T (show 1 < 4 by omega) hL ho, hFr.rf _ _, fun _ _ _ _ => rfl, ho⟩
    | [y0, y1], hR, hg, ho => exact ⟨T, few [y0, y1] c g T (show 2 < 4 by omega) hL ho, hFr.rf _ _, fun _ _ _ _ => rfl, ho⟩
    | [y0, y1, y2], hR, hg, ho => exact ⟨T, few [y0, y1, y2] c g T (show 3 < 4 by omega) hL ho, hFr.rf _ _, fun _ _ _ _ => rfl, ho⟩
    | x3 :: x2 :: x1 :: x0 :: R, hR, hg, ho =>
      obtain ⟨o1, o2, o3, o4⟩ := ho
      have hs : T.2.1 51 3 = nI (R.length + 4) := o2
      have hc7 : T.2.1 51 7 = nI c := o3
      have hl : R.length + 4 + 2 * c = i := hg.2.1
      have hgl : g.length = c := hg.2.2.1
      have hR2 : R.length + 4 ≤ d + 1 + 3 := hR
      have m3 := hg.1 x3 List.mem_cons_self
      have m2 := hg.1 x2 (List.mem_cons_of_mem _ List.mem_cons_self)
      have m1 := hg.1 x1 (List.mem_cons_of_mem _ (List.mem_cons_of_mem _ List.mem_cons_self))
      have m0 := hg.1 x0 (List.mem_cons_of_mem _ (List.mem_cons_of_mem _ (List.mem_cons_of_mem _ List.mem_cons_self)))
      have ins := e_inside x3 x2 x1 x0 R T hL o1 hs (by omega) m3 m2 m1 m0
      have start : ∀ o, Rn hc_X2_addToRow 42 [some (.inr (some (2, 51))), some (.inl x)] [.inl (if nab x2 x1 ≤ nab x1 x0 ∧ nab x2 x1 ≤ nab x3 x2 then 1 else 0)] T o → Rn hc_X2_addToRow 30 [some (.inr (some (2, 51))), some (.inl x)] [] T o := by
        intro o k
        iterate 4 refine r_step rfl rfl ?_
        rw [hs]
        refine r_i_lt (fun q => absurd q (by rw [show (4 : Int32) = nI 4 from rfl, nle_lit (by decide) (by omega)]; omega)) (fun _ => ?_)
        refine r_step rfl rfl ?_
        exact r_call rfl rfl ins k
      rw [cl_s]
      by_cases k : nab x2 x1 ≤ nab x1 x0 ∧ nab x2 x1 ≤ nab x3 x2
      · rw [if_pos k] at start ⊢
        obtain ⟨r3, r2, r1, r0, rr⟩ := o1
        have q3 : T.2.1 53 (R.length + 3) = x3 := r3
        have q2 : T.2.1 53 (R.length + 2) = x2 := r2
        have q1 : T.2.1 53 (R.length + 1) = x1 := r1
        have hL1 : hLay (hPut T 51 7 (nI (c + 1))) := hL.put _ _ _
        have hc1 : hvC (hPut T 51 7 (nI (c + 1))) g := o4.congr (by rw [hPut_at, pk_un (by decide)]) (hPut_ne (by decide)) (hPut_ne (by decide))
        obtain ⟨T1, a1, a2, a3, a4⟩ := e_addHalves (nab x2 x1) 2 (nab_lt m2 m1) (by decide) (hPut T 51 7 (nI (c + 1))) g hL1 hc1 (by omega)
        have hL2 := hL1.fr a2
        have p3 : T1.2.1 51 3 = nI (R.length + 4) := by rw [a3 3 (by decide), hPut_at, pk_un (by decide)]; exact hs
        have p7 : T1.2.1 51 7 = nI (c + 1) := by rw [a3 7 (by decide), hPut_at, pk_us]
        have p53 : T1.2.1 53 = T.2.1 53 := by rw [a2.2.2 53 (by decide), hPut_ne (by decide)]
        have hL3 : hLay (hPut (hPut T1 53 (R.length + 1) x3) 51 3 (nI (R.length + 2))) := (hL2.put _ _ _).put _ _ _
        obtain ⟨T2, b1, b2, b3, b4⟩ := ih (x3 :: x0 :: R) (c + 1) ((nab x2 x1, 2) :: g) (hPut (hPut T1 53 (R.length + 1) x3) 51 3 (nI (R.length + 2))) (by show R.length + 1 + 1 ≤ d + 3; omega) (gd_step hg) hL3 (by
          refine ⟨?_, ?_, ?_, ?_⟩
          · show rL _ (x3 :: x0 :: R)
            rw [hPut_ne (by decide), hPut_at, p53]
            exact ⟨pk_us .., by rw [pk_un (by omega)]; exact r0, rL.up rr (by omega)⟩
          · rw [hPut_at, pk_us]; rfl
          · rw [hPut_at, pk_un (by decide), hPut_ne (by decide)]; exact p7
          · exact a4.congr (by rw [hPut_at, pk_un (by decide), hPut_ne (by decide)]) (by rw [hPut_ne (by decide), hPut_ne (by decide)]) (by rw [hPut_ne (by decide), hPut_ne (by decide)]))
        have frP : hFr T1 (hPut (hPut T1 53 (R.length + 1) x3) 51 3 (nI (R.length + 2))) (fun p => p = 51 ∨ p = 53 ∨ p = 54 ∨ p = 55) := (hFr_put _ _ _ _ (Or.inr (Or.inl rfl))).trans (hFr_put _ _ _ _ (Or.inl rfl))
        refine ⟨T2, start _ ?_, ((((hFr_put T 51 7 (nI (c + 1)) (Or.inl rfl))).trans (a2.mono (fun p hp => by omega))).trans frP).trans b2, fun j h3 h6 h7 => ?_, b4⟩
        · iterate 8 refine r_step rfl rfl ?_
          rw [hc7, nI_s1]
          refine r_step rfl rfl ?_
          refine r_getr rfl (rv_51_2 hL1) ?_
          have s1 : (hPut T 51 7 (nI (c + 1))).2.1 51 3 = nI (R.length + 4) := by rw [hPut_at, pk_un (by decide)]; exact hs
          have s53 : (hPut T 51 7 (nI (c + 1))).2.1 53 = T.2.1 53 := hPut_ne (by decide)
          iterate 4 refine r_step rfl rfl ?_
          refine r_iald rfl (R.length + 2) (ix (R.length + 2) s1 (b := 2) rfl (by omega) (by omega)) ⟨⟨by decide, by decide⟩, by show R.length + 2 < 40; omega⟩ ?_
          refine r_step rfl rfl ?_
          refine r_getr rfl (rv_51_2 hL1) ?_
          iterate 4 refine r_step rfl rfl ?_
          refine r_iald rfl (R.length + 1) (ix (R.length + 1) s1 (b := 3) rfl (by omega) (by omega)) ⟨⟨by decide, by decide⟩, by show R.length + 1 < 40; omega⟩ ?_
          refine r_step rfl rfl ?_
          rw [s53, q2, q1]
          refine r_call rfl rfl (e_abs _ _) ?_
          rw [nab_abs m2 m1]
          refine r_step rfl rfl ?_
          refine r_callv rfl rfl a1 ?_
          refine r_step rfl rfl ?_
          refine r_getr rfl (rv_51_2 hL2) ?_
          iterate 5 refine r_step rfl rfl ?_
          refine r_getr rfl (rv_51_2 hL2) ?_
          iterate 4 refine r_step rfl rfl ?_
          refine r_iald rfl (R.length + 3) (ix (R.length + 3) p3 (b := 1) rfl (by omega) (by omega)) ⟨⟨by decide, by decide⟩, by show R.length + 3 < 40; omega⟩ ?_
          rw [p53, q3]
          refine r_iast0 rfl (R.length + 1) (ix (R.length + 1) p3 (b := 3) rfl (by omega) (by omega)) ⟨⟨by decide, by decide⟩, by show R.length + 1 < 40; omega⟩ ?_
          iterate 6 refine r_step rfl rfl ?_
          rw [hPut_ne (show 51 ≠ 53 by decide), p3, show nI (R.length + 4) - 2 = nI (R.length + 2) from sub_lit (a := R.length + 2) (b := 2) (x := 2) rfl (by omega)]
          refine r_step rfl rfl ?_
          exact b1
        · rw [b3 j h3 h6 h7, hPut_at, pk_un h3, hPut_ne (by decide), a3 j h6, hPut_at, pk_un h7]
      · rw [if_neg k] at start ⊢
        refine ⟨T, start _ ?_, hFr.rf _ _, fun _ _ _ _ => rfl, o1, o2, o3, o4⟩
        refine r_step rfl rfl ?_
        exact r_retn rfl rfl
