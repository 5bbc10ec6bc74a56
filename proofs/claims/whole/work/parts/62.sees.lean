/-! sees. -/
theorem e_seenAdd (a b v : Int32) (z : Nat) (S : hS) (hL : hLay S) (hz : S.2.1 46 4 = nI z) (hl : z < 6) : Ev 33 [.inr (some (4, 46)), .inl a, .inl b, .inl v] S (none, hPut (hPut (hPut (hPut S 47 z a) 48 z b) 49 z v) 46 4 (nI (z + 1))) := by
  show Rn hc_X4_add 0 [some (.inr (some (4, 46))), some (.inl a), some (.inl b), some (.inl v)] [] S _
  iterate 3 refine r_step rfl rfl ?_
  rw [hz]
  refine r_i_lt (fun q => absurd q (nI_pos (by omega))) (fun _ => ?_)
  iterate 4 refine r_step rfl rfl ?_
  rw [hz]
  refine r_i_ge (fun q => absurd q (lt_lit (N := 6) rfl (by decide) hl)) (fun _ => ?_)
  refine r_step rfl rfl ?_
  refine r_getr rfl (rv_46_0 hL) ?_
  iterate 3 refine r_step rfl rfl ?_
  refine r_iast0 rfl z (by rw [hz]; exact ti (by omega)) ⟨⟨by decide, by decide⟩, hl⟩ ?_
  refine r_step rfl rfl ?_
  refine r_getr rfl (rv_46_1 (hL.put _ _ _)) ?_
  iterate 3 refine r_step rfl rfl ?_
  refine r_iast0 rfl z (by rw [hPut_ne (by decide), hz]; exact ti (by omega)) ⟨⟨by decide, by decide⟩, hl⟩ ?_
  refine r_step rfl rfl ?_
  refine r_getr rfl (rv_46_2 ((hL.put _ _ _).put _ _ _)) ?_
  iterate 3 refine r_step rfl rfl ?_
  refine r_iast0 rfl z (by rw [hPut_ne (by decide), hPut_ne (by decide), hz]; exact ti (by omega)) ⟨⟨by decide, by decide⟩, hl⟩ ?_
  iterate 6 refine r_step rfl rfl ?_
  rw [hPut_ne (show 46 ≠ 49 by decide), hPut_ne (show 46 ≠ 48 by decide), hPut_ne (show 46 ≠ 47 by decide), hz, nI_s1]
  exact r_retn rfl rfl
set_option maxHeartbeats 4000000 in
set_option maxRecDepth 100000 in
theorem a_sees {S : hS} (h : Rel S) (x y v : Int32) : Alk 94 68 [.inl x, .inl y, .inl v] S := by
  have hL := h.1
  obtain ⟨z, k1, k2, k3, k4⟩ := h.2.2.2.2.2.2
  have outC : Rn hc_X9_sees 31 [some (.inr (some (9, 0))), some (.inl x), some (.inl y), some (.inl v)] [] S (some (-1), S) := by
    refine r_step rfl rfl ?_
    exact r_reti rfl rfl rfl
  have outM : Rn hc_X10_sees 31 [some (.inr (some (10, 57))), some (.inl x), some (.inl y), some (.inl v)] [] S (some (-1), S) := by
    refine r_step rfl rfl ?_
    exact r_reti rfl rfl rfl
  have startC : ∀ o, Rn hc_X9_sees 7 [some (.inr (some (9, 0))), some (.inl x), some (.inl y), some (.inl v)] [.inl (mIn x 1 20)] S o → Ev 94 [.inr (some (9, 0)), .inl x, .inl y, .inl v] S o := by
    intro o q
    show Rn hc_X9_sees 0 [some (.inr (some (9, 0))), some (.inl x), some (.inl y), some (.inl v)] [] S _
    iterate 3 refine r_step rfl rfl ?_
    exact r_call rfl rfl (e_within _ _ _ _) q
  have startM : ∀ T o, Rn hc_X10_sees 7 [some (.inr (some (10, 57))), some (.inl x), some (.inl y), some (.inl v)] [.inl (mIn x 1 20)] T o → Ev 68 [.inr (some (10, 57)), .inl x, .inl y, .inl v] T o := by
    intro T o q
    show Rn hc_X10_sees 0 [some (.inr (some (10, 57))), some (.inl x), some (.inl y), some (.inl v)] [] T _
    iterate 3 refine r_step rfl rfl ?_
    exact r_call rfl rfl (e_in _ _ _ _) q
  have l1 : (1 : Int32).toInt = 1 := rfl
  have l20 : (20 : Int32).toInt = 20 := rfl
  have l40 : (40 : Int32).toInt = 40 := rfl
  have l999 : (999 : Int32).toInt = 999 := rfl
  rcases mIn_iff (v := x) (lo := 1) (hi := 20) with ⟨kx, -⟩ | ⟨kx, x1, x2⟩
  · rw [kx] at startC startM
    refine ⟨-1, S, S, startC _ ?_, startM _ _ ?_, h⟩
    · refine r_step rfl rfl ?_
      exact outC
    · refine r_step rfl rfl ?_
      exact outM
  rw [kx] at startC startM
  have startC2 : ∀ o, Rn hc_X9_sees 17 [some (.inr (some (9, 0))), some (.inl x), some (.inl y), some (.inl v)] [.inl (mIn y 0 40)] S o → Ev 94 [.inr (some (9, 0)), .inl x, .inl y, .inl v] S o := by
    intro o q
    refine startC _ ?_
    iterate 4 refine r_step rfl rfl ?_
    exact r_call rfl rfl (e_within _ _ _ _) q
  have startM2 : ∀ T o, Rn hc_X10_sees 17 [some (.inr (some (10, 57))), some (.inl x), some (.inl y), some (.inl v)] [.inl (mIn y 0 40)] T o → Ev 68 [.inr (some (10, 57)), .inl x, .inl y, .inl v] T o := by
    intro T o q
    refine startM _ _ ?_
    iterate 4 refine r_step rfl rfl ?_
    exact r_call rfl rfl (e_in _ _ _ _) q
  rcases mIn_iff (v := y) (lo := 0) (hi := 40) with ⟨ky, -⟩ | ⟨ky, y1, y2⟩
  · rw [ky] at startC2 startM2
    refine ⟨-1, S, S, startC2 _ ?_, startM2 _ _ ?_, h⟩
    · refine r_step rfl rfl ?_
      exact outC
    · refine r_step rfl rfl ?_
      exact outM
  rw [ky] at startC2 startM2
  have startC3 : ∀ o, Rn hc_X9_sees 28 [some (.inr (some (9, 0))), some (.inl x), some (.inl y), some (.inl v)] [.inl (mIn v 0 999)] S o → Ev 94 [.inr (some (9, 0)), .inl x, .inl y, .inl v] S o := by
    intro o q
    refine startC2 _ ?_
    iterate 4 refine r_step rfl rfl ?_
    exact r_call rfl rfl (e_within _ _ _ _) q
  have startM3 : ∀ T o, Rn hc_X10_sees 28 [some (.inr (some (10, 57))), some (.inl x), some (.inl y), some (.inl v)] [.inl (mIn v 0 999)] T o → Ev 68 [.inr (some (10, 57)), .inl x, .inl y, .inl v] T o := by
    intro T o q
    refine startM2 _ _ ?_
    iterate 4 refine r_step rfl rfl ?_
    exact r_call rfl rfl (e_in _ _ _ _) q
  rcases mIn_iff (v := v) (lo := 0) (hi := 999) with ⟨kv, -⟩ | ⟨kv, v1, v2⟩
  · rw [kv] at startC3 startM3
    refine ⟨-1, S, S, startC3 _ ?_, startM3 _ _ ?_, h⟩
    · refine r_step rfl rfl ?_
      exact outC
    · refine r_step rfl rfl ?_
      exact outM
  rw [kv] at startC3 startM3
  by_cases c : z = 6
  · subst c
    refine ⟨-3, S, S, startC3 _ ?_, startM3 _ _ ?_, h⟩
    · iterate 2 refine r_step rfl rfl ?_
      refine r_getr rfl (rv_0_7 hL) ?_
      iterate 3 refine r_step rfl rfl ?_
      rw [k2]
      refine r_i_lt (fun q => absurd q (by decide)) (fun _ => ?_)
      refine r_step rfl rfl ?_
      exact r_reti rfl rfl rfl
    · iterate 5 refine r_step rfl rfl ?_
      rw [k3]
      refine r_i_ne (fun q => absurd (show nI 6 = 6 by decide) q) (fun _ => ?_)
      refine r_step rfl rfl ?_
      exact r_reti rfl rfl rfl
  have hz : z < 6 := by omega
  have q1 : (hPut (hPut (hPut (hPut S 47 z x) 48 z y) 49 z v) 46 4 (nI (z + 1))).2.1 57 24 = nI z := by rw [hPut_ne (by decide), hPut_ne (by decide), hPut_ne (by decide), hPut_ne (by decide)]; exact k3
  have frC : hFr S (hPut (hPut (hPut (hPut S 47 z x) 48 z y) 49 z v) 46 4 (nI (z + 1))) (fun p => p = 2 ∨ p = 3 ∨ p = 64 ∨ p = 57 ∨ p = 46 ∨ p = 47 ∨ p = 48 ∨ p = 49 ∨ p = 70) := (((hFr_put S 47 z x (by omega)).trans (hFr_put _ _ _ _ (by omega))).trans (hFr_put _ _ _ _ (by omega))).trans (hFr_put _ _ _ _ (by omega))
  have p46 : (hPut (hPut (hPut (hPut S 47 z x) 48 z y) 49 z v) 46 4 (nI (z + 1))).2.1 46 4 = nI (z + 1) := by rw [hPut_at, pk_us]
  have p47 : (hPut (hPut (hPut (hPut S 47 z x) 48 z y) 49 z v) 46 4 (nI (z + 1))).2.1 47 = upd (S.2.1 47) z x := by rw [hPut_ne (by decide), hPut_ne (by decide), hPut_ne (by decide), hPut_at]
  have p48 : (hPut (hPut (hPut (hPut S 47 z x) 48 z y) 49 z v) 46 4 (nI (z + 1))).2.1 48 = upd (S.2.1 48) z y := by rw [hPut_ne (by decide), hPut_ne (by decide), hPut_at, hPut_ne (by decide)]
  have p49 : (hPut (hPut (hPut (hPut S 47 z x) 48 z y) 49 z v) 46 4 (nI (z + 1))).2.1 49 = upd (S.2.1 49) z v := by rw [hPut_ne (by decide), hPut_at, hPut_ne (by decide), hPut_ne (by decide)]
  have p57 : (hPut (hPut (hPut (hPut S 47 z x) 48 z y) 49 z v) 46 4 (nI (z + 1))).2.1 57 = S.2.1 57 := by rw [hPut_ne (by decide), hPut_ne (by decide), hPut_ne (by decide), hPut_ne (by decide)]
  have p70 : (hPut (hPut (hPut (hPut S 47 z x) 48 z y) 49 z v) 46 4 (nI (z + 1))).2.1 70 = S.2.1 70 := by rw [hPut_ne (by decide), hPut_ne (by decide), hPut_ne (by decide), hPut_ne (by decide)]
  have hL1 : hLay (hPut (hPut (hPut (hPut S 47 z x) 48 z y) 49 z v) 46 4 (nI (z + 1))) := hL.fr frC
  have eC := e_seenAdd x y v z S hL k2 hz
  have pX : ∀ p, p ≠ 46 → p ≠ 47 → p ≠ 48 → p ≠ 49 → (hPut (hPut (hPut (hPut S 47 z x) 48 z y) 49 z v) 46 4 (nI (z + 1))).2.1 p = S.2.1 p := fun p g1 g2 g3 g4 => by rw [hPut_ne g1, hPut_ne g4, hPut_ne g3, hPut_ne g2]
  generalize hPut (hPut (hPut (hPut S 47 z x) 48 z y) 49 z v) 46 4 (nI (z + 1)) = S1 at *
  have r57 : (hPut (hPut (hPut (hPut S1 70 (3 * z) x) 70 (3 * z + 1) y) 70 (3 * z + 2) v) 57 24 (nI (z + 1))).2.1 57 = upd (S1.2.1 57) 24 (nI (z + 1)) := by rw [hPut_at, hPut_ne (by decide), hPut_ne (by decide), hPut_ne (by decide)]
  have r70 : (hPut (hPut (hPut (hPut S1 70 (3 * z) x) 70 (3 * z + 1) y) 70 (3 * z + 2) v) 57 24 (nI (z + 1))).2.1 70 = upd (upd (upd (S1.2.1 70) (3 * z) x) (3 * z + 1) y) (3 * z + 2) v := by rw [hPut_ne (by decide), hPut_at, hPut_at, hPut_at]
  have rx : ∀ p, p ≠ 57 → p ≠ 70 → (hPut (hPut (hPut (hPut S1 70 (3 * z) x) 70 (3 * z + 1) y) 70 (3 * z + 2) v) 57 24 (nI (z + 1))).2.1 p = S1.2.1 p := fun p h1 h2 => by rw [hPut_ne h1, hPut_ne h2, hPut_ne h2, hPut_ne h2]
  have frM : hFr S1 (hPut (hPut (hPut (hPut S1 70 (3 * z) x) 70 (3 * z + 1) y) 70 (3 * z + 2) v) 57 24 (nI (z + 1))) (fun p => p = 2 ∨ p = 3 ∨ p = 64 ∨ p = 57 ∨ p = 46 ∨ p = 47 ∨ p = 48 ∨ p = 49 ∨ p = 70) := (((hFr_put S1 70 _ x (by omega)).trans (hFr_put _ _ _ _ (by omega))).trans (hFr_put _ _ _ _ (by omega))).trans (hFr_put _ _ _ _ (by omega))
  refine ⟨nI (z + 1), S1, hPut (hPut (hPut (hPut S1 70 (3 * z) x) 70 (3 * z + 1) y) 70 (3 * z + 2) v) 57 24 (nI (z + 1)), startC3 _ ?_, startM3 _ _ ?_, ?_⟩
  · iterate 2 refine r_step rfl rfl ?_
    refine r_getr rfl (rv_0_7 hL) ?_
    iterate 3 refine r_step rfl rfl ?_
    rw [k2]
    refine r_i_lt (fun _ => ?_) (fun q => absurd (nI_lt (b := 6) hz (by decide)) q)
    refine r_step rfl rfl ?_
    refine r_getr rfl (rv_0_7 hL) ?_
    iterate 3 refine r_step rfl rfl ?_
    refine r_callv rfl rfl eC ?_
    refine r_step rfl rfl ?_
    refine r_getr rfl (rv_0_7 hL1) ?_
    refine r_step rfl rfl ?_
    exact r_reti rfl p46 rfl
  · iterate 5 refine r_step rfl rfl ?_
    rw [q1]
    refine r_i_ne (fun _ => ?_) (fun q => absurd ((nI_eq (by omega) (by decide)).1 (show nI z = nI 6 from q)) c)
    refine r_step rfl rfl ?_
    refine r_getr rfl (rv_57_23 hL1) ?_
    iterate 5 refine r_step rfl rfl ?_
    rw [q1, mul_lit (x := 3) (a := 3) (b := z) rfl]
    refine r_iast0 rfl (3 * z) (ti (by omega)) ⟨⟨by decide, by decide⟩, by show 3 * z < 18; omega⟩ ?_
    refine r_step rfl rfl ?_
    refine r_getr rfl (rv_57_23 (hL1.put _ _ _)) ?_
    iterate 7 refine r_step rfl rfl ?_
    rw [hPut_ne (show 57 ≠ 70 by decide), q1, mul_lit (x := 3) (a := 3) (b := z) rfl, nI_s1]
    refine r_iast0 rfl (3 * z + 1) (ti (by omega)) ⟨⟨by decide, by decide⟩, by show 3 * z + 1 < 18; omega⟩ ?_
    refine r_step rfl rfl ?_
    refine r_getr rfl (rv_57_23 ((hL1.put _ _ _).put _ _ _)) ?_
    iterate 7 refine r_step rfl rfl ?_
    rw [hPut_ne (show 57 ≠ 70 by decide), hPut_ne (show 57 ≠ 70 by decide), q1, mul_lit (x := 3) (a := 3) (b := z) rfl, add_lit (x := 2) (b := 2) rfl]
    refine r_iast0 rfl (3 * z + 2) (ti (by omega)) ⟨⟨by decide, by decide⟩, by show 3 * z + 2 < 18; omega⟩ ?_
    iterate 6 refine r_step rfl rfl ?_
    rw [hPut_ne (show 57 ≠ 70 by decide), hPut_ne (show 57 ≠ 70 by decide), hPut_ne (show 57 ≠ 70 by decide), q1, nI_s1]
    iterate 2 refine r_step rfl rfl ?_
    exact r_reti rfl (by rw [hPut_at, pk_us]) rfl
  · refine rel_ts h (frC.trans frM) ?_ ?_ ?_
    · rw [r57, pk_un (by decide), p57]
    · rw [r57, pk_un (by decide), rx 2 (by decide) (by decide), rx 3 (by decide) (by decide), rx 64 (by decide) (by decide), p57, pX 2 (by decide) (by decide) (by decide) (by decide), pX 3 (by decide) (by decide) (by decide) (by decide), pX 64 (by decide) (by decide) (by decide) (by decide)]
      exact h.2.2.1
    · refine ⟨z + 1, by omega, ?_, ?_, fun i hi => ?_⟩
      · rw [rx 46 (by decide) (by decide)]; exact p46
      · rw [r57, pk_us]
      · rw [rx 47 (by decide) (by decide), rx 48 (by decide) (by decide), rx 49 (by decide) (by decide), r70, p47, p48, p49, p70]
        by_cases ci : i = z
        · subst ci
          rw [pk_us, pk_us, pk_us, pk_us, pk_un (show 3 * i + 1 ≠ 3 * i + 2 by omega), pk_us, pk_un (show 3 * i ≠ 3 * i + 2 by omega), pk_un (show 3 * i ≠ 3 * i + 1 by omega), pk_us]
          exact ⟨⟨rfl, rfl, rfl⟩, ⟨by omega, by omega⟩, ⟨by rw [i_z] at y1; exact y1, by omega⟩, ⟨by rw [i_z] at v1; exact v1, by omega⟩⟩
        · rw [pk_un ci, pk_un ci, pk_un ci]
          have e : ∀ j, j < 3 * z → upd (upd (upd (S.2.1 70) (3 * z) x) (3 * z + 1) y) (3 * z + 2) v j = S.2.1 70 j := fun j hj => by rw [pk_un (by omega), pk_un (by omega), pk_un (by omega)]
          rw [e (3 * i) (by omega), e (3 * i + 1) (by omega), e (3 * i + 2) (by omega)]
          exact k4 i (by omega)
