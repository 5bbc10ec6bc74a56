theorem nI_s1 (n : Nat) : nI n + 1 = nI (n + 1) := nI_1 n
theorem lit80 : (80 : Int32) = nI 80 := rfl
theorem lit6 : (6 : Int32) = nI 6 := rfl
theorem e_append (x : Int32) (n : Nat) (S : hS) (hL : hLay S) (hn : S.2.1 2 1 = nI n) (hl : n < 80) : Ev 38 [.inr (some (6, 2)), .inl x] S (none, hPut (hPut S 3 n x) 2 1 (nI (n + 1))) := by
  show Rn hc_X6_append 0 [some (.inr (some (6, 2))), some (.inl x)] [] S _
  iterate 3 refine r_step rfl rfl ?_
  refine r_i_lt (fun q => absurd (hn ▸ q) (nI_pos (by omega))) (fun _ => ?_)
  iterate 3 refine r_step rfl rfl ?_
  refine r_getr rfl (rv_2_0 hL) ?_
  iterate 2 refine r_step rfl rfl ?_
  refine r_i_ge (fun q => absurd (hn ▸ q) (nI_ge (b := 80) hl (by decide))) (fun _ => ?_)
  refine r_step rfl rfl ?_
  refine r_getr rfl (rv_2_0 hL) ?_
  iterate 3 refine r_step rfl rfl ?_
  refine r_iast0 rfl n (by rw [hn]; exact nI_toInt (by omega)) ⟨⟨by decide, by decide⟩, hl⟩ ?_
  repeat' (first | refine r_retn rfl ?_ | refine r_step rfl rfl ?_ | with_reducible refine r_i_eq (fun c => ?_) (fun c => ?_) | with_reducible refine r_i_ne (fun c => ?_) (fun c => ?_) | with_reducible refine r_i_lt (fun c => ?_) (fun c => ?_) | with_reducible refine r_i_ge (fun c => ?_) (fun c => ?_) | with_reducible refine r_i_gt (fun c => ?_) (fun c => ?_) | with_reducible refine r_i_le (fun c => ?_) (fun c => ?_))
  rw [hPut_ne (by decide), hn, nI_s1]
theorem a_type {S : hS} (h : Rel S) (x : Int32) : Alk 96 70 [.inl x] S := by
  have hL := h.1
  obtain ⟨n, hn, e1, e2, h3⟩ := h.2.2.1
  rcases mIn_iff (v := x) (lo := 0) (hi := 255) with ⟨k, q⟩ | ⟨k, q1, q2⟩
  · refine ⟨-1, S, S, ?_, ?_, h⟩
    · show Rn hc_X9_type 0 [some (.inr (some (9, 0))), some (.inl x)] [] S _
      iterate 3 refine r_step rfl rfl ?_
      refine r_call rfl rfl (e_within _ _ _ _) ?_
      rw [k]
      repeat' (first | refine r_reti rfl ?_ rfl | refine r_step rfl rfl ?_ | with_reducible refine r_i_eq (fun c => ?_) (fun c => ?_) | with_reducible refine r_i_ne (fun c => ?_) (fun c => ?_) | with_reducible refine r_i_lt (fun c => ?_) (fun c => ?_) | with_reducible refine r_i_ge (fun c => ?_) (fun c => ?_) | with_reducible refine r_i_gt (fun c => ?_) (fun c => ?_) | with_reducible refine r_i_le (fun c => ?_) (fun c => ?_))
      rfl
    · show Rn hc_X10_type 0 [some (.inr (some (10, 57))), some (.inl x)] [] S _
      iterate 3 refine r_step rfl rfl ?_
      refine r_call rfl rfl (e_in _ _ _ _) ?_
      rw [k]
      repeat' (first | refine r_reti rfl ?_ rfl | refine r_step rfl rfl ?_ | with_reducible refine r_i_eq (fun c => ?_) (fun c => ?_) | with_reducible refine r_i_ne (fun c => ?_) (fun c => ?_) | with_reducible refine r_i_lt (fun c => ?_) (fun c => ?_) | with_reducible refine r_i_ge (fun c => ?_) (fun c => ?_) | with_reducible refine r_i_gt (fun c => ?_) (fun c => ?_) | with_reducible refine r_i_le (fun c => ?_) (fun c => ?_))
      rfl
  · rcases Nat.lt_or_ge n 80 with hl | hl
    · have g1 : nI n < 80 := nI_lt (b := 80) hl (by decide)
      have g2 : ¬ nI n = 80 := fun q => by rw [lit80, nI_eq (by omega) (by omega)] at q; omega
      refine ⟨nI (n + 1), hPut (hPut S 3 n x) 2 1 (nI (n + 1)), hPut (hPut (hPut (hPut S 3 n x) 2 1 (nI (n + 1))) 64 n x) 57 8 (nI (n + 1)), ?_, ?_, ?_⟩
      · show Rn hc_X9_type 0 [some (.inr (some (9, 0))), some (.inl x)] [] S _
        iterate 3 refine r_step rfl rfl ?_
        refine r_call rfl rfl (e_within _ _ _ _) ?_
        rw [k]
        iterate 2 refine r_step rfl rfl ?_
        refine r_getr rfl (rv_0_1 hL) ?_
        iterate 3 refine r_step rfl rfl ?_
        refine r_i_lt (fun _ => ?_) (fun q => absurd (e1 ▸ g1) q)
        refine r_step rfl rfl ?_
        refine r_getr rfl (rv_0_1 hL) ?_
        refine r_step rfl rfl ?_
        refine r_callv rfl rfl (e_append x n S hL e1 hl) ?_
        refine r_step rfl rfl ?_
        refine r_getr rfl (rv_0_1 hL) ?_
        refine r_step rfl rfl ?_
        exact r_reti rfl (by rw [hPut_at, pk_us]) rfl
      · show Rn hc_X10_type 0 [some (.inr (some (10, 57))), some (.inl x)] [] (hPut (hPut S 3 n x) 2 1 (nI (n + 1))) _
        have e3 : (hPut (hPut S 3 n x) 2 1 (nI (n + 1))).2.1 57 8 = nI n := by rw [hPut_ne (by decide), hPut_ne (by decide)]; exact e2
        have r7 : (hPut (hPut S 3 n x) 2 1 (nI (n + 1))).2.2 57 7 = some (10080, 64) := rv_57_7 hL
        generalize hPut (hPut S 3 n x) 2 1 (nI (n + 1)) = T at *
        iterate 3 refine r_step rfl rfl ?_
        refine r_call rfl rfl (e_in _ _ _ _) ?_
        rw [k]
        iterate 5 refine r_step rfl rfl ?_
        refine r_i_ne (fun _ => ?_) (fun q => absurd (e3 ▸ q) g2)
        refine r_step rfl rfl ?_
        refine r_getr rfl r7 ?_
        iterate 3 refine r_step rfl rfl ?_
        refine r_iast0 rfl n (by rw [e3]; exact nI_toInt (by omega)) ⟨⟨by decide, by decide⟩, hl⟩ ?_
        have e4 : (hPut T 64 n x).2.1 57 8 = nI n := by rw [hPut_ne (by decide)]; exact e3
        iterate 6 refine r_step rfl rfl ?_
        rw [e4, nI_s1]
        iterate 2 refine r_step rfl rfl ?_
        exact r_reti rfl (by rw [hPut_at, pk_us]) rfl
      · refine rel_ts h ((hFr_put _ _ _ _ (Or.inr (Or.inl rfl))).trans ((hFr_put _ _ _ _ (Or.inl rfl)).trans ((hFr_put _ _ _ _ (Or.inr (Or.inr (Or.inl rfl)))).trans (hFr_put _ _ _ _ (Or.inr (Or.inr (Or.inr (Or.inl rfl)))))))) ?_ ?_ ?_
        · rw [hPut_at, pk_un (by decide), hPut_ne (by decide), hPut_ne (by decide), hPut_ne (by decide)]
        · refine ⟨n + 1, by omega, ?_, ?_, fun j hj => ?_⟩
          · rw [hPut_ne (by decide), hPut_ne (by decide), hPut_at, pk_us]
          · rw [hPut_at, pk_us]
          · rw [hPut_ne (by decide), hPut_ne (by decide), hPut_ne (by decide), hPut_at, hPut_ne (show 64 ≠ 57 by decide), hPut_at, hPut_ne (show 64 ≠ 2 by decide), hPut_ne (show 64 ≠ 3 by decide)]
            by_cases hjn : j = n
            · subst hjn
              rw [pk_us, pk_us]
              exact ⟨rfl, q1, q2⟩
            · rw [pk_un hjn, pk_un hjn]
              exact h3 j (by omega)
        · obtain ⟨z, k1, k2, k3, k4⟩ := h.2.2.2.2.2.2
          refine ⟨z, k1, ?_, ?_, ?_⟩
          · rw [hPut_ne (by decide), hPut_ne (by decide), hPut_ne (by decide), hPut_ne (by decide)]; exact k2
          · rw [hPut_at, pk_un (by decide), hPut_ne (by decide), hPut_ne (by decide), hPut_ne (by decide)]; exact k3
          · have e : ∀ p, p ≠ 57 → p ≠ 64 → p ≠ 2 → p ≠ 3 → (hPut (hPut (hPut (hPut S 3 n x) 2 1 (nI (n + 1))) 64 n x) 57 8 (nI (n + 1))).2.1 p = S.2.1 p := fun p a b c d => by rw [hPut_ne a, hPut_ne b, hPut_ne c, hPut_ne d]
            rw [e 47 (by decide) (by decide) (by decide) (by decide), e 48 (by decide) (by decide) (by decide) (by decide), e 49 (by decide) (by decide) (by decide) (by decide), e 70 (by decide) (by decide) (by decide) (by decide)]
            exact k4
    · have hn8 : n = 80 := by omega
      subst hn8
      refine ⟨-3, S, S, ?_, ?_, h⟩
      · show Rn hc_X9_type 0 [some (.inr (some (9, 0))), some (.inl x)] [] S _
        iterate 3 refine r_step rfl rfl ?_
        refine r_call rfl rfl (e_within _ _ _ _) ?_
        rw [k]
        iterate 2 refine r_step rfl rfl ?_
        refine r_getr rfl (rv_0_1 hL) ?_
        iterate 3 refine r_step rfl rfl ?_
        refine r_i_lt (fun q => absurd (e1 ▸ q) (by decide)) (fun q => ?_)
        refine r_step rfl rfl ?_
        exact r_reti rfl rfl rfl
      · show Rn hc_X10_type 0 [some (.inr (some (10, 57))), some (.inl x)] [] S _
        iterate 3 refine r_step rfl rfl ?_
        refine r_call rfl rfl (e_in _ _ _ _) ?_
        rw [k]
        iterate 5 refine r_step rfl rfl ?_
        refine r_i_ne (fun q => absurd (e2.trans lit80.symm) q) (fun q => ?_)
        refine r_step rfl rfl ?_
        exact r_reti rfl rfl rfl
theorem ts_out {pc : Nat} {d lo hi : Int} {offs : Array Int} {x : Int32} (t : Nat) (h : x.toInt < lo ∨ hi < x.toInt) (ht : ((pc : Int) + d).toNat = t) : hTs pc d lo hi offs x = t := (hTs_out h).trans ht
theorem a_count {S : hS} (h : Rel S) (x : Int32) : Alk 50 8 [.inl x] S := by
  have hL := h.1
  obtain ⟨hs, ⟨n, -, e1, e2, -⟩, ⟨⟨-, m1, m2, m3, -⟩, -⟩, ⟨p, z, -, -, -, e3, e4, -⟩, -, ⟨y, -, e5, e6, -⟩⟩ := h.2
  rcases mIn_iff (v := x) (lo := 0) (hi := 5) with ⟨k, q⟩ | ⟨k, q1, q2⟩
  · have q0 : x.toInt < 0 ∨ 5 < x.toInt := by
      have l5 : (5 : Int32).toInt = 5 := rfl
      rw [i_z, l5] at q
      omega
    refine ⟨-1, S, S, ?_, ?_, h⟩
    · show Rn hc_X9_count 0 [some (.inr (some (9, 0))), some (.inl x)] [] S _
      refine r_step rfl rfl ?_
      refine r_tsw 91 rfl (ts_out 91 q0 rfl) ?_
      refine r_step rfl rfl ?_
      exact r_reti rfl rfl rfl
    · show Rn hc_X10_count 0 [some (.inr (some (10, 57))), some (.inl x)] [] S _
      refine r_step rfl rfl ?_
      refine r_tsw 79 rfl (ts_out 79 q0 rfl) ?_
      refine r_step rfl rfl ?_
      exact r_reti rfl rfl rfl
  · obtain ⟨j, hj, rfl⟩ := bt_nI (hi := 5) (x := x) ⟨q1, q2⟩ (by decide)
    match j, hj with
    | 0, _ =>
      refine ⟨S.2.1 58 16, S, S, ?_, ?_, h⟩
      · show Rn hc_X9_count 0 [some (.inr (some (9, 0))), some (.inl (nI 0))] [] S _
        refine r_step rfl rfl ?_
        refine r_tsw 40 rfl (by decide) ?_
        repeat' (first | refine r_getr rfl (rv_0_3 hL) ?_ | refine r_reti rfl ?_ rfl | refine r_step rfl rfl ?_ | with_reducible refine r_i_eq (fun c => ?_) (fun c => ?_) | with_reducible refine r_i_ne (fun c => ?_) (fun c => ?_) | with_reducible refine r_i_lt (fun c => ?_) (fun c => ?_) | with_reducible refine r_i_ge (fun c => ?_) (fun c => ?_) | with_reducible refine r_i_gt (fun c => ?_) (fun c => ?_) | with_reducible refine r_i_le (fun c => ?_) (fun c => ?_))
        exact m1
      · show Rn hc_X10_count 0 [some (.inr (some (10, 57))), some (.inl (nI 0))] [] S _
        refine r_step rfl rfl ?_
        refine r_tsw 40 rfl (by decide) ?_
        repeat' (first | refine r_getr rfl (rv_57_0 hL) ?_ | refine r_reti rfl ?_ rfl | refine r_iald rfl 16 rfl ⟨⟨by decide, by decide⟩, by decide⟩ ?_ | refine r_iald rfl 17 rfl ⟨⟨by decide, by decide⟩, by decide⟩ ?_ | refine r_iald rfl 18 rfl ⟨⟨by decide, by decide⟩, by decide⟩ ?_ | refine r_step rfl rfl ?_ | with_reducible refine r_i_eq (fun c => ?_) (fun c => ?_) | with_reducible refine r_i_ne (fun c => ?_) (fun c => ?_) | with_reducible refine r_i_lt (fun c => ?_) (fun c => ?_) | with_reducible refine r_i_ge (fun c => ?_) (fun c => ?_) | with_reducible refine r_i_gt (fun c => ?_) (fun c => ?_) | with_reducible refine r_i_le (fun c => ?_) (fun c => ?_))
        rfl
    | 1, _ =>
      refine ⟨S.2.1 58 18, S, S, ?_, ?_, h⟩
      · show Rn hc_X9_count 0 [some (.inr (some (9, 0))), some (.inl (nI 1))] [] S _
        refine r_step rfl rfl ?_
        refine r_tsw 48 rfl (by decide) ?_
        repeat' (first | refine r_getr rfl (rv_0_3 hL) ?_ | refine r_getr rfl (rv_6_1 hL) ?_ | refine r_reti rfl ?_ rfl | refine r_step rfl rfl ?_ | with_reducible refine r_i_eq (fun c => ?_) (fun c => ?_) | with_reducible refine r_i_ne (fun c => ?_) (fun c => ?_) | with_reducible refine r_i_lt (fun c => ?_) (fun c => ?_) | with_reducible refine r_i_ge (fun c => ?_) (fun c => ?_) | with_reducible refine r_i_gt (fun c => ?_) (fun c => ?_) | with_reducible refine r_i_le (fun c => ?_) (fun c => ?_))
        exact m3
      · show Rn hc_X10_count 0 [some (.inr (some (10, 57))), some (.inl (nI 1))] [] S _
        refine r_step rfl rfl ?_
        refine r_tsw 48 rfl (by decide) ?_
        repeat' (first | refine r_getr rfl (rv_57_0 hL) ?_ | refine r_reti rfl ?_ rfl | refine r_iald rfl 16 rfl ⟨⟨by decide, by decide⟩, by decide⟩ ?_ | refine r_iald rfl 17 rfl ⟨⟨by decide, by decide⟩, by decide⟩ ?_ | refine r_iald rfl 18 rfl ⟨⟨by decide, by decide⟩, by decide⟩ ?_ | refine r_step rfl rfl ?_ | with_reducible refine r_i_eq (fun c => ?_) (fun c => ?_) | with_reducible refine r_i_ne (fun c => ?_) (fun c => ?_) | with_reducible refine r_i_lt (fun c => ?_) (fun c => ?_) | with_reducible refine r_i_ge (fun c => ?_) (fun c => ?_) | with_reducible refine r_i_gt (fun c => ?_) (fun c => ?_) | with_reducible refine r_i_le (fun c => ?_) (fun c => ?_))
        rfl
    | 2, _ =>
      refine ⟨S.2.1 58 17, S, S, ?_, ?_, h⟩
      · show Rn hc_X9_count 0 [some (.inr (some (9, 0))), some (.inl (nI 2))] [] S _
        refine r_step rfl rfl ?_
        refine r_tsw 59 rfl (by decide) ?_
        repeat' (first | refine r_getr rfl (rv_0_3 hL) ?_ | refine r_reti rfl ?_ rfl | refine r_step rfl rfl ?_ | with_reducible refine r_i_eq (fun c => ?_) (fun c => ?_) | with_reducible refine r_i_ne (fun c => ?_) (fun c => ?_) | with_reducible refine r_i_lt (fun c => ?_) (fun c => ?_) | with_reducible refine r_i_ge (fun c => ?_) (fun c => ?_) | with_reducible refine r_i_gt (fun c => ?_) (fun c => ?_) | with_reducible refine r_i_le (fun c => ?_) (fun c => ?_))
        exact m2
      · show Rn hc_X10_count 0 [some (.inr (some (10, 57))), some (.inl (nI 2))] [] S _
        refine r_step rfl rfl ?_
        refine r_tsw 56 rfl (by decide) ?_
        repeat' (first | refine r_getr rfl (rv_57_0 hL) ?_ | refine r_reti rfl ?_ rfl | refine r_iald rfl 16 rfl ⟨⟨by decide, by decide⟩, by decide⟩ ?_ | refine r_iald rfl 17 rfl ⟨⟨by decide, by decide⟩, by decide⟩ ?_ | refine r_iald rfl 18 rfl ⟨⟨by decide, by decide⟩, by decide⟩ ?_ | refine r_step rfl rfl ?_ | with_reducible refine r_i_eq (fun c => ?_) (fun c => ?_) | with_reducible refine r_i_ne (fun c => ?_) (fun c => ?_) | with_reducible refine r_i_lt (fun c => ?_) (fun c => ?_) | with_reducible refine r_i_ge (fun c => ?_) (fun c => ?_) | with_reducible refine r_i_gt (fun c => ?_) (fun c => ?_) | with_reducible refine r_i_le (fun c => ?_) (fun c => ?_))
        rfl
    | 3, _ =>
      refine ⟨nI y, S, S, ?_, ?_, h⟩
      · show Rn hc_X9_count 0 [some (.inr (some (9, 0))), some (.inl (nI 3))] [] S _
        refine r_step rfl rfl ?_
        refine r_tsw 67 rfl (by decide) ?_
        repeat' (first | refine r_getr rfl (rv_0_7 hL) ?_ | refine r_reti rfl ?_ rfl | refine r_step rfl rfl ?_ | with_reducible refine r_i_eq (fun c => ?_) (fun c => ?_) | with_reducible refine r_i_ne (fun c => ?_) (fun c => ?_) | with_reducible refine r_i_lt (fun c => ?_) (fun c => ?_) | with_reducible refine r_i_ge (fun c => ?_) (fun c => ?_) | with_reducible refine r_i_gt (fun c => ?_) (fun c => ?_) | with_reducible refine r_i_le (fun c => ?_) (fun c => ?_))
        exact e5
      · show Rn hc_X10_count 0 [some (.inr (some (10, 57))), some (.inl (nI 3))] [] S _
        refine r_step rfl rfl ?_
        refine r_tsw 64 rfl (by decide) ?_
        repeat' (first | refine r_reti rfl ?_ rfl | refine r_step rfl rfl ?_ | with_reducible refine r_i_eq (fun c => ?_) (fun c => ?_) | with_reducible refine r_i_ne (fun c => ?_) (fun c => ?_) | with_reducible refine r_i_lt (fun c => ?_) (fun c => ?_) | with_reducible refine r_i_ge (fun c => ?_) (fun c => ?_) | with_reducible refine r_i_gt (fun c => ?_) (fun c => ?_) | with_reducible refine r_i_le (fun c => ?_) (fun c => ?_))
        exact e6
    | 4, _ =>
      refine ⟨nI n, S, S, ?_, ?_, h⟩
      · show Rn hc_X9_count 0 [some (.inr (some (9, 0))), some (.inl (nI 4))] [] S _
        refine r_step rfl rfl ?_
        refine r_tsw 75 rfl (by decide) ?_
        repeat' (first | refine r_getr rfl (rv_0_1 hL) ?_ | refine r_reti rfl ?_ rfl | refine r_step rfl rfl ?_ | with_reducible refine r_i_eq (fun c => ?_) (fun c => ?_) | with_reducible refine r_i_ne (fun c => ?_) (fun c => ?_) | with_reducible refine r_i_lt (fun c => ?_) (fun c => ?_) | with_reducible refine r_i_ge (fun c => ?_) (fun c => ?_) | with_reducible refine r_i_gt (fun c => ?_) (fun c => ?_) | with_reducible refine r_i_le (fun c => ?_) (fun c => ?_))
        exact e1
      · show Rn hc_X10_count 0 [some (.inr (some (10, 57))), some (.inl (nI 4))] [] S _
        refine r_step rfl rfl ?_
        refine r_tsw 69 rfl (by decide) ?_
        repeat' (first | refine r_reti rfl ?_ rfl | refine r_step rfl rfl ?_ | with_reducible refine r_i_eq (fun c => ?_) (fun c => ?_) | with_reducible refine r_i_ne (fun c => ?_) (fun c => ?_) | with_reducible refine r_i_lt (fun c => ?_) (fun c => ?_) | with_reducible refine r_i_ge (fun c => ?_) (fun c => ?_) | with_reducible refine r_i_gt (fun c => ?_) (fun c => ?_) | with_reducible refine r_i_le (fun c => ?_) (fun c => ?_))
        exact e2
    | 5, _ =>
      refine ⟨nI z, S, S, ?_, ?_, h⟩
      · show Rn hc_X9_count 0 [some (.inr (some (9, 0))), some (.inl (nI 5))] [] S _
        refine r_step rfl rfl ?_
        refine r_tsw 83 rfl (by decide) ?_
        repeat' (first | refine r_getr rfl (rv_0_4 hL) ?_ | refine r_reti rfl ?_ rfl | refine r_step rfl rfl ?_ | with_reducible refine r_i_eq (fun c => ?_) (fun c => ?_) | with_reducible refine r_i_ne (fun c => ?_) (fun c => ?_) | with_reducible refine r_i_lt (fun c => ?_) (fun c => ?_) | with_reducible refine r_i_ge (fun c => ?_) (fun c => ?_) | with_reducible refine r_i_gt (fun c => ?_) (fun c => ?_) | with_reducible refine r_i_le (fun c => ?_) (fun c => ?_))
        exact e3
      · show Rn hc_X10_count 0 [some (.inr (some (10, 57))), some (.inl (nI 5))] [] S _
        refine r_step rfl rfl ?_
        refine r_tsw 74 rfl (by decide) ?_
        repeat' (first | refine r_reti rfl ?_ rfl | refine r_step rfl rfl ?_ | with_reducible refine r_i_eq (fun c => ?_) (fun c => ?_) | with_reducible refine r_i_ne (fun c => ?_) (fun c => ?_) | with_reducible refine r_i_lt (fun c => ?_) (fun c => ?_) | with_reducible refine r_i_ge (fun c => ?_) (fun c => ?_) | with_reducible refine r_i_gt (fun c => ?_) (fun c => ?_) | with_reducible refine r_i_le (fun c => ?_) (fun c => ?_))
        exact e4
    | n + 6, hh => exact absurd hh (by omega)
