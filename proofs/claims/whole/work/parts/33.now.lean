/-! record, now. -/
theorem a_record {S : hS} (h : Rel S) (k : Int32) : Alk 113 18 [.inl k] S := by
  have hL := h.1
  obtain ⟨h1, h2, h3, h4, n, z, g1, g2, g3, g4, g5⟩ := h.2.2.2.1.1
  by_cases c0 : 0 ≤ k
  · have c0' : ¬ k < 0 := by rw [i_lt]; rw [i_le] at c0; omega
    have sp := e_speedAgo 8 9 k n z S (rv_8_0 hL) g3 g1 (show S.2.1 8 2 = nI z by rw [← g4]; exact h4) g2
    rw [if_neg c0'] at sp
    have startC : ∀ r, Ev 86 [.inr (some (7, 8)), .inl k] S (some r, S) → Ev 113 [.inr (some (9, 0)), .inl k] S (some r, S) := by
      intro r q
      show Rn hc_X9_record 0 [some (.inr (some (9, 0))), some (.inl k)] [] S _
      iterate 2 refine r_step rfl rfl ?_
      refine r_i_ge (fun _ => ?_) (fun q => absurd c0 q)
      refine r_step rfl rfl ?_
      refine r_getr rfl (rv_0_3 hL) ?_
      refine r_getr rfl (rv_6_1 hL) ?_
      refine r_step rfl rfl ?_
      refine r_call rfl rfl q ?_
      exact r_reti rfl rfl rfl
    have startM : ∀ o, Rn hc_X10_record 14 [some (.inr (some (10, 57))), some (.inl k)] [.inl (nI z), .inl k] S o → Ev 18 [.inr (some (10, 57)), .inl k] S o := by
      intro o q
      show Rn hc_X10_record 0 [some (.inr (some (10, 57))), some (.inl k)] [] S _
      iterate 2 refine r_step rfl rfl ?_
      refine r_i_ge (fun _ => ?_) (fun q => absurd c0 q)
      iterate 2 refine r_step rfl rfl ?_
      refine r_getr rfl (rv_57_0 hL) ?_
      refine r_step rfl rfl ?_
      refine r_iald rfl 18 rfl ⟨⟨by decide, by decide⟩, by decide⟩ ?_
      rw [g4]
      exact q
    by_cases c1 : k < nI z
    · rw [if_pos c1] at sp
      obtain ⟨j, hj, rfl⟩ := nI_of c0'
      have hjz : j < z := (nI_ltI hj (by omega)).mp c1
      rw [nI_clamp hj] at sp
      refine ⟨_, S, S, startC _ sp, startM _ ?_, h⟩
      refine r_step rfl rfl ?_
      refine r_i_ge (fun q => absurd q (nI_ge hjz (by omega))) (fun _ => ?_)
      refine r_step rfl rfl ?_
      refine r_getr rfl (rv_57_0 hL) ?_
      iterate 3 refine r_step rfl rfl ?_
      rw [show (19 : Int32) + nI j = nI (19 + j) from nI_add 19 j]
      refine r_iald rfl (19 + j) (ti (by omega)) ⟨⟨by decide, by decide⟩, by show 19 + j < 59; omega⟩ ?_
      refine r_step rfl rfl ?_
      exact r_reti rfl (g5 j hjz).symm rfl
    · rw [if_neg c1] at sp
      refine ⟨_, S, S, startC _ sp, startM _ ?_, h⟩
      refine r_step rfl rfl ?_
      refine r_i_ge (fun _ => ?_) (fun q => absurd (by rw [i_le]; rw [i_lt] at c1; omega) q)
      refine r_step rfl rfl ?_
      exact r_reti rfl rfl rfl
  · refine ⟨-1, S, S, ?_, ?_, h⟩
    · show Rn hc_X9_record 0 [some (.inr (some (9, 0))), some (.inl k)] [] S _
      iterate 2 refine r_step rfl rfl ?_
      refine r_i_ge (fun q => absurd q c0) (fun _ => ?_)
      iterate 2 refine r_step rfl rfl ?_
      exact r_reti rfl rfl rfl
    · show Rn hc_X10_record 0 [some (.inr (some (10, 57))), some (.inl k)] [] S _
      iterate 2 refine r_step rfl rfl ?_
      refine r_i_ge (fun q => absurd q c0) (fun _ => ?_)
      refine r_step rfl rfl ?_
      exact r_reti rfl rfl rfl
def wTell (w : Nat → Int32) (j : Nat) : Int32 := if j < 16 then w j else if j = 16 then wDrive w (wError w) else wError w
theorem wTell_lo (w : Nat → Int32) {j : Nat} (h : j < 16) : wTell w j = w j := if_pos h
theorem wTell_16 (w : Nat → Int32) : wTell w 16 = wDrive w (wError w) := (if_neg (by decide)).trans (if_pos rfl)
theorem wTell_17 (w : Nat → Int32) : wTell w 17 = wError w := (if_neg (by decide)).trans (if_neg (by decide))
theorem e_tell (S : hS) (c j : Nat) (hj : j < 18) (b9 : isB (S.2.1 c 9)) (b10 : isB (S.2.1 c 10)) (b15 : isB (S.2.1 c 15)) : Ev 112 [.inr (some (8, c)), .inl (nI j)] S (some (wTell (S.2.1 c) j), S) := by
  show Rn hc_X8_tell 0 [some (.inr (some (8, c))), some (.inl (nI j))] [] S _
  refine r_step rfl rfl ?_
  match j, hj with
  | 0, _ =>
    rw [wTell_lo _ (by decide)]
    refine r_tsw 84 rfl (by decide) ?_
    iterate 2 refine r_step rfl rfl ?_
    exact r_reti rfl rfl rfl
  | 1, _ =>
    rw [wTell_lo _ (by decide)]
    refine r_tsw 89 rfl (by decide) ?_
    iterate 2 refine r_step rfl rfl ?_
    exact r_reti rfl rfl rfl
  | 2, _ =>
    rw [wTell_lo _ (by decide)]
    refine r_tsw 94 rfl (by decide) ?_
    iterate 2 refine r_step rfl rfl ?_
    exact r_reti rfl rfl rfl
  | 3, _ =>
    rw [wTell_lo _ (by decide)]
    refine r_tsw 99 rfl (by decide) ?_
    iterate 2 refine r_step rfl rfl ?_
    exact r_reti rfl rfl rfl
  | 4, _ =>
    rw [wTell_lo _ (by decide)]
    refine r_tsw 104 rfl (by decide) ?_
    iterate 2 refine r_step rfl rfl ?_
    exact r_reti rfl rfl rfl
  | 5, _ =>
    rw [wTell_lo _ (by decide)]
    refine r_tsw 109 rfl (by decide) ?_
    iterate 2 refine r_step rfl rfl ?_
    exact r_reti rfl rfl rfl
  | 6, _ =>
    rw [wTell_lo _ (by decide)]
    refine r_tsw 114 rfl (by decide) ?_
    iterate 2 refine r_step rfl rfl ?_
    exact r_reti rfl rfl rfl
  | 7, _ =>
    rw [wTell_lo _ (by decide)]
    refine r_tsw 119 rfl (by decide) ?_
    iterate 2 refine r_step rfl rfl ?_
    exact r_reti rfl rfl rfl
  | 8, _ =>
    rw [wTell_lo _ (by decide)]
    refine r_tsw 124 rfl (by decide) ?_
    iterate 2 refine r_step rfl rfl ?_
    exact r_reti rfl rfl rfl
  | 9, _ =>
    rw [wTell_lo _ (by decide)]
    refine r_tsw 129 rfl (by decide) ?_
    iterate 3 refine r_step rfl rfl ?_
    rcases b9 with b | b
    · refine r_i_eq (fun _ => ?_) (fun q => absurd b q)
      refine r_step rfl rfl ?_
      exact r_reti rfl b.symm rfl
    · refine r_i_eq (fun q => absurd (b.symm.trans q) (by decide)) (fun _ => ?_)
      iterate 2 refine r_step rfl rfl ?_
      exact r_reti rfl b.symm rfl
  | 10, _ =>
    rw [wTell_lo _ (by decide)]
    refine r_tsw 142 rfl (by decide) ?_
    iterate 3 refine r_step rfl rfl ?_
    rcases b10 with b | b
    · refine r_i_eq (fun _ => ?_) (fun q => absurd b q)
      refine r_step rfl rfl ?_
      exact r_reti rfl b.symm rfl
    · refine r_i_eq (fun q => absurd (b.symm.trans q) (by decide)) (fun _ => ?_)
      iterate 2 refine r_step rfl rfl ?_
      exact r_reti rfl b.symm rfl
  | 11, _ =>
    rw [wTell_lo _ (by decide)]
    refine r_tsw 155 rfl (by decide) ?_
    iterate 2 refine r_step rfl rfl ?_
    exact r_reti rfl rfl rfl
  | 12, _ =>
    rw [wTell_lo _ (by decide)]
    refine r_tsw 160 rfl (by decide) ?_
    iterate 2 refine r_step rfl rfl ?_
    exact r_reti rfl rfl rfl
  | 13, _ =>
    rw [wTell_lo _ (by decide)]
    refine r_tsw 165 rfl (by decide) ?_
    iterate 2 refine r_step rfl rfl ?_
    exact r_reti rfl rfl rfl
  | 14, _ =>
    rw [wTell_lo _ (by decide)]
    refine r_tsw 170 rfl (by decide) ?_
    iterate 2 refine r_step rfl rfl ?_
    exact r_reti rfl rfl rfl
  | 15, _ =>
    rw [wTell_lo _ (by decide)]
    refine r_tsw 175 rfl (by decide) ?_
    iterate 3 refine r_step rfl rfl ?_
    rcases b15 with b | b
    · refine r_i_eq (fun _ => ?_) (fun q => absurd b q)
      refine r_step rfl rfl ?_
      exact r_reti rfl b.symm rfl
    · refine r_i_eq (fun q => absurd (b.symm.trans q) (by decide)) (fun _ => ?_)
      iterate 2 refine r_step rfl rfl ?_
      exact r_reti rfl b.symm rfl
  | 16, _ =>
    rw [wTell_16]
    refine r_tsw 188 rfl (by decide) ?_
    iterate 2 refine r_step rfl rfl ?_
    refine r_call rfl rfl (e_error c S) ?_
    refine r_call rfl rfl (e_drive c _ S) ?_
    exact r_reti rfl rfl rfl
  | 17, _ =>
    rw [wTell_17]
    refine r_tsw 197 rfl (by decide) ?_
    refine r_step rfl rfl ?_
    refine r_call rfl rfl (e_error c S) ?_
    exact r_reti rfl rfl rfl
  | n + 18, h => exact absurd h (by omega)
theorem wDrive_congr {u v : Nat → Int32} (h2 : u 2 = v 2) (h4 : u 4 = v 4) (h8 : u 8 = v 8) (e : Int32) : wDrive u e = wDrive v e := by
  unfold wDrive
  rw [h2, h4, h8]
theorem a_now {S : hS} (h : Rel S) (x : Int32) : Alk 128 118 [.inl x] S := by
  have hL := h.1
  have hm := h.2.2.2.1
  have m := hm.1.1
  have hr := hm.2.1
  rcases mIn_iff (v := x) (lo := 0) (hi := 17) with ⟨kx, -⟩ | ⟨kx, x1, x2⟩
  · refine ⟨-1000000, S, S, ?_, ?_, h⟩
    · show Rn hc_X9_now 0 [some (.inr (some (9, 0))), some (.inl x)] [] S _
      iterate 3 refine r_step rfl rfl ?_
      refine r_call rfl rfl (e_within _ _ _ _) ?_
      rw [kx]
      iterate 2 refine r_step rfl rfl ?_
      exact r_reti rfl rfl rfl
    · show Rn hc_X10_now 0 [some (.inr (some (10, 57))), some (.inl x)] [] S _
      iterate 3 refine r_step rfl rfl ?_
      refine r_call rfl rfl (e_in _ _ _ _) ?_
      rw [kx]
      iterate 2 refine r_step rfl rfl ?_
      exact r_reti rfl rfl rfl
  obtain ⟨j, hj, rfl⟩ := bt_nI (hi := 17) (x := x) ⟨x1, x2⟩ (by decide)
  have tl := e_tell S 7 j (by omega) (by rw [show S.2.1 7 9 = _ from m 9 (by decide)]; exact hr.2.2.2.2.2.2.2.2.2.1) (by rw [show S.2.1 7 10 = _ from m 10 (by decide)]; exact hr.2.2.2.2.2.2.2.2.2.2.1) (by rw [show S.2.1 7 15 = _ from m 15 (by decide)]; exact hr.2.2.2.2.2.2.2.2.2.2.2)
  have startM : ∀ o, Rn hc_X10_now 13 [some (.inr (some (10, 57))), some (.inl (nI j))] [] S o → Ev 118 [.inr (some (10, 57)), .inl (nI j)] S o := by
    intro o k
    show Rn hc_X10_now 0 [some (.inr (some (10, 57))), some (.inl (nI j))] [] S _
    iterate 3 refine r_step rfl rfl ?_
    refine r_call rfl rfl (e_in _ _ _ _) ?_
    rw [kx]
    refine r_step rfl rfl ?_
    exact k
  refine ⟨wTell (S.2.1 7) j, S, S, ?_, startM _ ?_, h⟩
  · show Rn hc_X9_now 0 [some (.inr (some (9, 0))), some (.inl (nI j))] [] S _
    iterate 3 refine r_step rfl rfl ?_
    refine r_call rfl rfl (e_within _ _ _ _) ?_
    rw [kx]
    iterate 2 refine r_step rfl rfl ?_
    refine r_getr rfl (rv_0_3 hL) ?_
    refine r_getr rfl (rv_6_0 hL) ?_
    refine r_step rfl rfl ?_
    refine r_call rfl rfl tl ?_
    refine r_step rfl rfl ?_
    exact r_reti rfl rfl rfl
  · have er := err_eq (w := S.2.1 58) hr.2.2.2.2.2.1 hr.2.2.2.2.2.2.1
    have e7 : wError (S.2.1 7) = wError (S.2.1 58) := wError_congr (m 5 (by decide)) (m 6 (by decide))
    rcases Nat.lt_or_ge j 16 with c | c
    · iterate 3 refine r_step rfl rfl ?_
      refine r_i_ge (fun q => absurd q (lt_lit (N := 16) rfl (by decide) c)) (fun _ => ?_)
      refine r_step rfl rfl ?_
      refine r_getr rfl (rv_57_0 hL) ?_
      refine r_step rfl rfl ?_
      refine r_iald rfl j (ti (by omega)) ⟨⟨by decide, by decide⟩, by show j < 59; omega⟩ ?_
      refine r_step rfl rfl ?_
      refine r_reti rfl ?_ rfl
      unfold wTell
      rw [if_pos c]
      exact (m j c).symm
    · have g : (16 : Int32) ≤ nI j := nI_le (a := 16) c (by omega)
      iterate 3 refine r_step rfl rfl ?_
      refine r_i_ge (fun _ => ?_) (fun q => absurd g q)
      by_cases c2 : j = 16
      · subst c2
        iterate 3 refine r_step rfl rfl ?_
        refine r_i_ne (fun q => absurd rfl q) (fun _ => ?_)
        iterate 2 refine r_step rfl rfl ?_
        refine r_getr rfl (rv_57_0 hL) ?_
        refine r_call rfl rfl (e_driveOf 58 S) ?_
        refine r_step rfl rfl ?_
        refine r_reti rfl ?_ rfl
        rw [mDrive_eq hr.2.2.2.2.2.1 hr.2.2.2.2.2.2.1]
        unfold wTell
        rw [if_neg (by decide), if_pos rfl, e7]
        exact (wDrive_congr (m 2 (by decide)) (m 4 (by decide)) (m 8 (by decide)) _).symm
      · iterate 3 refine r_step rfl rfl ?_
        refine r_i_ne (fun _ => ?_) (fun q => absurd ((nI_eq (b := 16) (by omega) (by omega)).mp q) c2)
        iterate 2 refine r_step rfl rfl ?_
        refine r_getr rfl (rv_57_0 hL) ?_
        refine r_call rfl rfl (e_errorOf 58 S) ?_
        refine r_reti rfl ?_ rfl
        rw [er.1]
        unfold wTell
        rw [if_neg (by omega), if_neg c2, e7]
