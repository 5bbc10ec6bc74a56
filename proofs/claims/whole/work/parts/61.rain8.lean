/-! halves and rain, the calls. -/
theorem rain_rel {S S1 T1 : hS} (h : Rel S) (a : hFr S S1 (fun p => 51 ≤ p ∧ p ≤ 55)) (b : hFr S1 T1 (fun p => p = 57 ∨ (66 ≤ p ∧ p ≤ 69))) (k : ∀ j, j ≠ 18 → j ≠ 20 → j ≠ 22 → T1.2.1 57 j = S1.2.1 57 j) : Rel T1 := by
  have e : S1.2.1 57 = S.2.1 57 := a.2.2 57 (by omega)
  refine rel_scr h ((a.mono (fun p hp => by unfold pScr; omega)).trans (b.mono (fun p hp => by unfold pScr; omega))) ?_ ?_ ?_
  · rw [k 3 (by decide) (by decide) (by decide), e]
  · rw [k 8 (by decide) (by decide) (by decide), e]
  · rw [k 24 (by decide) (by decide) (by decide), e]
theorem a_halves {S : hS} (h : Rel S) (x : Int32) : Alk 140 132 [.inl x] S := by
  have hL := h.1
  rcases mIn_iff (v := x) (lo := 0) (hi := 999) with ⟨kx, -⟩ | ⟨kx, x1, x2⟩
  · refine ⟨-1, S, S, ?_, ?_, h⟩
    · show Rn hc_X9_halves 0 [some (.inr (some (9, 0))), some (.inl x)] [] S _
      iterate 3 refine r_step rfl rfl ?_
      refine r_call rfl rfl (e_within _ _ _ _) ?_
      rw [kx]
      iterate 2 refine r_step rfl rfl ?_
      exact r_reti rfl rfl rfl
    · show Rn hc_X10_halves 0 [some (.inr (some (10, 57))), some (.inl x)] [] S _
      iterate 3 refine r_step rfl rfl ?_
      refine r_call rfl rfl (e_in _ _ _ _) ?_
      rw [kx]
      iterate 2 refine r_step rfl rfl ?_
      exact r_reti rfl rfl rfl
  have l9 : (999 : Int32).toInt = 999 := rfl
  obtain ⟨k, hk, rfl⟩ := bt_nI (hi := 999) (x := x) ⟨x1, by omega⟩ (by decide)
  obtain ⟨S1, g, c, y, a1, a2, a3, a4, a5, a6, a7, a8, a9⟩ := rain_both h
  have hL1 := hL.fr a2
  obtain ⟨T1, b1, b2, b3, b4, b5, b6⟩ := a9 S1 hL1 (a2.2.2 58 (by omega)) (a2.2.2 66 (by omega))
  refine ⟨nI (cnt g k), S1, T1, ?_, ?_, rain_rel h a2 b2 b3⟩
  · show Rn hc_X9_halves 0 [some (.inr (some (9, 0))), some (.inl (nI k))] [] S _
    iterate 3 refine r_step rfl rfl ?_
    refine r_call rfl rfl (e_within _ _ _ _) ?_
    rw [kx]
    iterate 2 refine r_step rfl rfl ?_
    refine r_getr rfl (rv_0_8 hL) ?_
    refine r_step rfl rfl ?_
    refine r_getr rfl (rv_0_3 hL) ?_
    refine r_getr rfl (rv_6_1 hL) ?_
    refine r_callv rfl rfl a1 ?_
    refine r_step rfl rfl ?_
    refine r_getr rfl (rv_0_8 hL1) ?_
    refine r_step rfl rfl ?_
    refine r_call rfl rfl (e_hvOf k (by omega) S1 g hL1 a5 a6) ?_
    exact r_reti rfl rfl rfl
  · have ho : Ev 115 [.inr (some (10, 57)), .inl (nI k)] S1 (some (nI (cnt g k)), T1) := by
      show Rn hc_X10_halvesOf 0 [some (.inr (some (10, 57))), some (.inl (nI k))] [] S1 _
      refine r_step rfl rfl ?_
      refine r_callv rfl rfl b1 ?_
      refine r_step rfl rfl ?_
      refine r_getr rfl (rv_57_21 (hL1.fr b2)) ?_
      refine r_step rfl rfl ?_
      refine r_iald rfl k (ti (by omega)) ⟨⟨by decide, by decide⟩, by show k < 1000; omega⟩ ?_
      exact r_reti rfl (b6 k (by omega)) rfl
    show Rn hc_X10_halves 0 [some (.inr (some (10, 57))), some (.inl (nI k))] [] S1 _
    iterate 3 refine r_step rfl rfl ?_
    refine r_call rfl rfl (e_in _ _ _ _) ?_
    rw [kx]
    iterate 3 refine r_step rfl rfl ?_
    refine r_call rfl rfl ho ?_
    refine r_step rfl rfl ?_
    exact r_reti rfl rfl rfl
theorem rain_l (g : List (Nat × Nat)) (hg : tw g < 1000) (x : Int32) (T : hS) (hL : hLay T) (hv : hvM T g) : ∀ (d i : Nat) (o : Option Int32 × hS), i + d = 1000 → Rn hc_X10_rain 87 [some (.inr (some (10, 57))), some (.inl x), some (.inl (nI (sumN (fun n => if cnt g n = 0 then 0 else 1) 1000))), some (.inl (best (fun n => nI (cnt g n)) 1000)), some (.inl (nI (sumN (fun n => cnt g n) 1000))), some (.inl (nI 1000))] [] T o → Rn hc_X10_rain 26 [some (.inr (some (10, 57))), some (.inl x), some (.inl (nI (sumN (fun n => if cnt g n = 0 then 0 else 1) i))), some (.inl (best (fun n => nI (cnt g n)) i)), some (.inl (nI (sumN (fun n => cnt g n) i))), some (.inl (nI i))] [] T o := by
  intro d
  induction d with
  | zero =>
    intro i o hi k
    have : i = 1000 := by omega
    subst this
    iterate 3 refine r_step rfl rfl ?_
    exact r_i_ge (fun _ => k) (fun q => absurd (show (1000 : Int32) ≤ nI 1000 by decide) q)
  | succ d ih =>
    intro i o hi k
    have ct := cnt_tw g i
    have ihk := ih (i + 1) o (by omega) k
    have z0 : ∀ n : Nat, n < 2147483648 → (nI n ≤ 0 ↔ n = 0) := fun n hn => by rw [i_le, ti hn, i_z]; omega
    have rd : ∀ (st : List hV) (q : Nat) (nx : Nat) (p0 a b d q2 : Nat) (v : Int32) (L : List (Option hV)) (_ : hFetch hc_X10_rain q = some (p0, .iaload, nx, a, b, d, q2, v)), Rn hc_X10_rain nx L (.inl (nI (cnt g i)) :: st) T o → Rn hc_X10_rain q L (.inl (nI i) :: .inr (some (11000, 69)) :: st) T o := by
      intro st q nx p0 a b d q2 v L hf kk
      refine r_iald hf i (ti (by omega)) ⟨⟨by decide, by decide⟩, by show i < 1000; omega⟩ ?_
      rw [hv i (by omega)]
      exact kk
    iterate 3 refine r_step rfl rfl ?_
    refine r_i_ge (fun q => absurd q (lt_lit (N := 1000) rfl (by decide) (by omega))) (fun _ => ?_)
    iterate 2 refine r_step rfl rfl ?_
    refine r_getr rfl (rv_57_21 hL) ?_
    refine r_step rfl rfl ?_
    refine rd _ _ _ _ _ _ _ _ _ _ rfl ?_
    refine r_step rfl rfl ?_
    by_cases c : cnt g i = 0
    · have e1 : sumN (fun n => if cnt g n = 0 then 0 else 1) (i + 1) = sumN (fun n => if cnt g n = 0 then 0 else 1) i + 0 := by
        show sumN (fun n => if cnt g n = 0 then 0 else 1) i + (if cnt g i = 0 then 0 else 1) = _
        rw [if_pos c]
      have e2 : best (fun n => nI (cnt g n)) (i + 1) = best (fun n => nI (cnt g n)) i := by
        rw [best_s]
        show (if nI (cnt g i) = 0 then _ else _) = _
        rw [if_pos (show nI (cnt g i) = 0 by rw [c]; rfl)]
      rw [e1, e2] at ihk
      refine r_i_le (fun _ => ?_) (fun q => absurd ((z0 _ (by omega)).2 c) q)
      iterate 2 refine r_step rfl rfl ?_
      rw [show (0 : Int32) = nI 0 from rfl, nI_add]
      iterate 2 refine r_step rfl rfl ?_
      refine r_getr rfl (rv_57_21 hL) ?_
      refine r_step rfl rfl ?_
      refine rd _ _ _ _ _ _ _ _ _ _ rfl ?_
      refine r_step rfl rfl ?_
      refine r_i_le (fun _ => ?_) (fun q => absurd ((z0 _ (by omega)).2 c) q)
      iterate 4 refine r_step rfl rfl ?_
      refine r_getr rfl (rv_57_21 hL) ?_
      refine r_step rfl rfl ?_
      refine rd _ _ _ _ _ _ _ _ _ _ rfl ?_
      refine r_step rfl rfl ?_
      rw [nI_add]
      iterate 3 refine r_step rfl rfl ?_
      show Rn hc_X10_rain 26 [some (.inr (some (10, 57))), some (.inl x), some (.inl (nI (sumN (fun n => if cnt g n = 0 then 0 else 1) i + 0))), some (.inl (best (fun n => nI (cnt g n)) i)), some (.inl (nI (sumN (fun n => cnt g n) i + cnt g i))), some (.inl (nI i + 1))] [] _ _
      rw [nI_s1]
      exact ihk
    · have e1 : sumN (fun n => if cnt g n = 0 then 0 else 1) (i + 1) = sumN (fun n => if cnt g n = 0 then 0 else 1) i + 1 := by
        show sumN (fun n => if cnt g n = 0 then 0 else 1) i + (if cnt g i = 0 then 0 else 1) = _
        rw [if_neg c]
      have e2 : best (fun n => nI (cnt g n)) (i + 1) = nI i := by
        rw [best_s]
        show (if nI (cnt g i) = 0 then _ else _) = _
        rw [if_neg (show ¬ nI (cnt g i) = 0 from fun q => c ((nI_eq (by omega) (by decide)).1 (show nI (cnt g i) = nI 0 from q)))]
      rw [e1, e2] at ihk
      refine r_i_le (fun q => absurd ((z0 _ (by omega)).1 q) c) (fun _ => ?_)
      iterate 3 refine r_step rfl rfl ?_
      rw [nI_s1]
      iterate 2 refine r_step rfl rfl ?_
      refine r_getr rfl (rv_57_21 hL) ?_
      refine r_step rfl rfl ?_
      refine rd _ _ _ _ _ _ _ _ _ _ rfl ?_
      refine r_step rfl rfl ?_
      refine r_i_le (fun q => absurd ((z0 _ (by omega)).1 q) c) (fun _ => ?_)
      iterate 5 refine r_step rfl rfl ?_
      refine r_getr rfl (rv_57_21 hL) ?_
      refine r_step rfl rfl ?_
      refine rd _ _ _ _ _ _ _ _ _ _ rfl ?_
      refine r_step rfl rfl ?_
      rw [nI_add]
      iterate 3 refine r_step rfl rfl ?_
      show Rn hc_X10_rain 26 [some (.inr (some (10, 57))), some (.inl x), some (.inl (nI (sumN (fun n => if cnt g n = 0 then 0 else 1) i + 1))), some (.inl (nI i)), some (.inl (nI (sumN (fun n => cnt g n) i + cnt g i))), some (.inl (nI i + 1))] [] _ _
      rw [nI_s1]
      exact ihk
set_option maxHeartbeats 4000000 in
set_option maxRecDepth 100000 in
theorem a_rain {S : hS} (h : Rel S) (x : Int32) : Alk 144 119 [.inl x] S := by
  have hL := h.1
  rcases mIn_iff (v := x) (lo := 0) (hi := 4) with ⟨kx, -⟩ | ⟨kx, x1, x2⟩
  · refine ⟨-1, S, S, ?_, ?_, h⟩
    · show Rn hc_X9_rain 0 [some (.inr (some (9, 0))), some (.inl x)] [] S _
      iterate 3 refine r_step rfl rfl ?_
      refine r_call rfl rfl (e_within _ _ _ _) ?_
      rw [kx]
      iterate 2 refine r_step rfl rfl ?_
      exact r_reti rfl rfl rfl
    · show Rn hc_X10_rain 0 [some (.inr (some (10, 57))), some (.inl x), none, none, none, none] [] S _
      iterate 3 refine r_step rfl rfl ?_
      refine r_call rfl rfl (e_in _ _ _ _) ?_
      rw [kx]
      iterate 2 refine r_step rfl rfl ?_
      exact r_reti rfl rfl rfl
  have l9 : (4 : Int32).toInt = 4 := rfl
  obtain ⟨k, hk, rfl⟩ := bt_nI (hi := 4) (x := x) ⟨x1, by omega⟩ (by decide)
  obtain ⟨S1, g, c, y, a1, a2, a3, a4, a5, a6, a7, a8, a9⟩ := rain_both h
  have hL1 := hL.fr a2
  obtain ⟨T1, b1, b2, b3, b4, b5, b6⟩ := a9 S1 hL1 (a2.2.2 58 (by omega)) (a2.2.2 66 (by omega))
  have hLT := hL1.fr b2
  have startC : ∀ o, Rn hc_X9_rain 26 [some (.inr (some (9, 0))), some (.inl (nI k))] [.inl (nI k)] S1 o → Ev 144 [.inr (some (9, 0)), .inl (nI k)] S o := by
    intro o q
    show Rn hc_X9_rain 0 [some (.inr (some (9, 0))), some (.inl (nI k))] [] S _
    iterate 3 refine r_step rfl rfl ?_
    refine r_call rfl rfl (e_within _ _ _ _) ?_
    rw [kx]
    iterate 2 refine r_step rfl rfl ?_
    refine r_getr rfl (rv_0_8 hL) ?_
    refine r_step rfl rfl ?_
    refine r_getr rfl (rv_0_3 hL) ?_
    refine r_getr rfl (rv_6_1 hL) ?_
    refine r_callv rfl rfl a1 ?_
    refine r_step rfl rfl ?_
    exact q
  have startM : ∀ o, Rn hc_X10_rain 87 [some (.inr (some (10, 57))), some (.inl (nI k)), some (.inl (nI (kd g))), some (.inl (best (fun n => nI (cnt g n)) 1000)), some (.inl (nI (tw g))), some (.inl (nI 1000))] [] T1 o → Ev 119 [.inr (some (10, 57)), .inl (nI k)] S1 o := by
    intro o q
    show Rn hc_X10_rain 0 [some (.inr (some (10, 57))), some (.inl (nI k)), none, none, none, none] [] S1 _
    iterate 3 refine r_step rfl rfl ?_
    refine r_call rfl rfl (e_in _ _ _ _) ?_
    rw [kx]
    iterate 2 refine r_step rfl rfl ?_
    refine r_callv rfl rfl b1 ?_
    iterate 8 refine r_step rfl rfl ?_
    refine rain_l g a8 (nI k) T1 hLT b6 1000 0 o (by omega) ?_
    rw [kd_sum a7, tw_sum a7]
    exact q
  have rel := rain_rel h a2 b2 b3
  match k, hk, startC, startM with
  | 0, _, startC, startM =>
    refine ⟨nI (kd g), S1, T1, startC _ ?_, startM _ ?_, rel⟩
    · refine r_tsw 56 rfl (by decide) ?_
      refine r_step rfl rfl ?_
      refine r_getr rfl (rv_0_8 hL1) ?_
      refine r_step rfl rfl ?_
      obtain ⟨d, h6, -⟩ := a5
      exact r_reti rfl h6 rfl
    · iterate 4 refine r_step rfl rfl ?_
      exact r_reti rfl rfl rfl
  | 1, _, startC, startM =>
    obtain ⟨r, r1, r2⟩ := e_greatest S1 g hL1 a5 a6
    refine ⟨r, S1, T1, startC _ ?_, startM _ ?_, rel⟩
    · refine r_tsw 64 rfl (by decide) ?_
      refine r_step rfl rfl ?_
      refine r_getr rfl (rv_0_8 hL1) ?_
      refine r_call rfl rfl r2 ?_
      exact r_reti rfl rfl rfl
    · iterate 7 refine r_step rfl rfl ?_
      exact r_reti rfl (mxP_eq (best_mxP a7 a8) r1) rfl
  | 2, _, startC, startM =>
    refine ⟨nI (tw g), S1, T1, startC _ ?_, startM _ ?_, rel⟩
    · refine r_tsw 72 rfl (by decide) ?_
      refine r_step rfl rfl ?_
      refine r_getr rfl (rv_0_8 hL1) ?_
      refine r_call rfl rfl (e_allHalves S1 g hL1 a5 a6) ?_
      exact r_reti rfl rfl rfl
    · iterate 10 refine r_step rfl rfl ?_
      exact r_reti rfl rfl rfl
  | 3, _, startC, startM =>
    refine ⟨nI y, S1, T1, startC _ ?_, startM _ ?_, rel⟩
    · refine r_tsw 80 rfl (by decide) ?_
      refine r_step rfl rfl ?_
      refine r_getr rfl (rv_0_8 hL1) ?_
      refine r_step rfl rfl ?_
      exact r_reti rfl a4 rfl
    · iterate 14 refine r_step rfl rfl ?_
      exact r_reti rfl b5 rfl
  | 4, _, startC, startM =>
    refine ⟨nI c, S1, T1, startC _ ?_, startM _ ?_, rel⟩
    · refine r_tsw 88 rfl (by decide) ?_
      refine r_step rfl rfl ?_
      refine r_getr rfl (rv_0_8 hL1) ?_
      refine r_step rfl rfl ?_
      exact r_reti rfl a3 rfl
    · iterate 13 refine r_step rfl rfl ?_
      exact r_reti rfl b4 rfl
  | n + 5, hk, _, _ => exact absurd hk (by omega)
