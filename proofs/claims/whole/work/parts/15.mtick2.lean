theorem e_towards (f t b : Int32) (S : hS) : Ev 20 [.inl f, .inl t, .inl b] S (some (mTow f t b), S) := by
  show Rn hc_X10_towards 0 [some (.inl f), some (.inl t), some (.inl b)] [] S _
  repeat' (first | refine r_step rfl rfl ?_ | with_reducible refine r_i_eq (fun c => ?_) (fun c => ?_) | with_reducible refine r_i_ne (fun c => ?_) (fun c => ?_) | with_reducible refine r_i_lt (fun c => ?_) (fun c => ?_) | with_reducible refine r_i_ge (fun c => ?_) (fun c => ?_) | with_reducible refine r_i_gt (fun c => ?_) (fun c => ?_) | with_reducible refine r_i_le (fun c => ?_) (fun c => ?_))
  all_goals refine r_reti rfl ?_ rfl
  all_goals simp only [mTow, *, if_true, if_false]
def mPG (st w : Nat → Int32) : Int32 := if w 0 = 3 then (if 0 ≤ w 2 + (w 1 - st 0) / 4 then (if w 2 + (w 1 - st 0) / 4 ≤ 90 then w 2 + (w 1 - st 0) / 4 else 90) else 0) else if w 0 = 1 then 20 else if w 0 = 2 then 0 else 90
set_option maxHeartbeats 4000000 in
set_option maxRecDepth 100000 in
theorem e_pitchGoal (r : Nat) (S : hS) (hs : S.2.2 57 6 = some (10006, 63)) : Ev 16 [.inr (some (10, 57)), .inr (some (10059, r))] S (some (mPG (S.2.1 63) (S.2.1 r)), S) := by
  show Rn hc_X10_pitchGoal 0 [some (.inr (some (10, 57))), some (.inr (some (10059, r))), none, none] [] S _
  repeat' (first | refine r_getr rfl hs ?_ | refine r_iald rfl 0 rfl ⟨⟨by decide, by decide⟩, by decide⟩ ?_ | refine r_iald rfl 1 rfl ⟨⟨by decide, by decide⟩, by decide⟩ ?_ | refine r_iald rfl 2 rfl ⟨⟨by decide, by decide⟩, by decide⟩ ?_ | refine r_step rfl rfl ?_ | refine r_div rfl (by decide) ?_ | with_reducible refine r_i_eq (fun c => ?_) (fun c => ?_) | with_reducible refine r_i_ne (fun c => ?_) (fun c => ?_) | with_reducible refine r_i_lt (fun c => ?_) (fun c => ?_) | with_reducible refine r_i_ge (fun c => ?_) (fun c => ?_) | with_reducible refine r_i_gt (fun c => ?_) (fun c => ?_) | with_reducible refine r_i_le (fun c => ?_) (fun c => ?_))
  all_goals refine r_reti rfl ?_ rfl
  all_goals simp only [mPG, *, if_true, if_false, md_01, md_02, md_03, md_04, md_05, md_10, md_12, md_13, md_14, md_15, md_20, md_21, md_23, md_24, md_25, md_30, md_31, md_32, md_34, md_35, md_40, md_41, md_42, md_43, md_45, md_50, md_51, md_52, md_53, md_54]
def mH1 (st w : Nat → Int32) : Nat → Int32 := upd w 2 (mTow (w 2) (mPG st w) (if w 0 = 5 then 2 * st 5 else st 5))
def mGoal (st w : Nat → Int32) : Int32 := if w 0 = 2 then w 1 / 2 else if w 0 = 3 then st 0 / 2 else 0
def mH2 (st w : Nat → Int32) : Nat → Int32 := upd w 3 (if w 9 = 0 then 0 else mTow (w 3) (mGoal st w) 10)
def mDrag (w : Nat → Int32) : Int32 := if w 1 = 0 then 0 else w 1 / 10 + 1
def mFl (x : Int32) : Int32 := if x < 0 then -((7 - x) / 8) else x / 8
def mH3 (w : Nat → Int32) : Nat → Int32 := upd w 1 (w 1 + mFl (mDrive w - w 3 - mDrag w))
def mH4 (w : Nat → Int32) : Nat → Int32 := upd w 1 (if 0 ≤ w 1 then w 1 else 0)
def mHolds (st w : Nat → Int32) : Nat → Int32 := mH4 (mH3 (mH2 st (mH1 st w)))
section
variable (r : Nat) (S : hS)
set_option maxHeartbeats 4000000 in
set_option maxRecDepth 100000 in
theorem e_h156 (x2 x3 x4 : Int32) : Rn hc_X10_holds 156 [some (.inr (some (10, 57))), some (.inr (some (10059, r))), some (.inl x2), some (.inl x3), some (.inl x4)] [] S (none, hRow S r (mH4 (S.2.1 r))) := by
  repeat' (first | refine r_retn rfl ?_ | refine r_iald rfl 0 rfl ⟨⟨by decide, by decide⟩, by decide⟩ ?_ | refine r_iald rfl 1 rfl ⟨⟨by decide, by decide⟩, by decide⟩ ?_ | refine r_iald rfl 2 rfl ⟨⟨by decide, by decide⟩, by decide⟩ ?_ | refine r_iald rfl 3 rfl ⟨⟨by decide, by decide⟩, by decide⟩ ?_ | refine r_iald rfl 5 rfl ⟨⟨by decide, by decide⟩, by decide⟩ ?_ | refine r_iald rfl 9 rfl ⟨⟨by decide, by decide⟩, by decide⟩ ?_ | refine r_iast0 rfl 0 rfl ⟨⟨by decide, by decide⟩, by decide⟩ ?_ | refine r_iast0 rfl 1 rfl ⟨⟨by decide, by decide⟩, by decide⟩ ?_ | refine r_iast0 rfl 2 rfl ⟨⟨by decide, by decide⟩, by decide⟩ ?_ | refine r_iast0 rfl 3 rfl ⟨⟨by decide, by decide⟩, by decide⟩ ?_ | refine r_iast0 rfl 9 rfl ⟨⟨by decide, by decide⟩, by decide⟩ ?_ | refine r_step rfl rfl ?_ | with_reducible refine r_i_eq (fun c => ?_) (fun c => ?_) | with_reducible refine r_i_ne (fun c => ?_) (fun c => ?_) | with_reducible refine r_i_lt (fun c => ?_) (fun c => ?_) | with_reducible refine r_i_ge (fun c => ?_) (fun c => ?_) | with_reducible refine r_i_gt (fun c => ?_) (fun c => ?_) | with_reducible refine r_i_le (fun c => ?_) (fun c => ?_))
  all_goals simp only [mH4, *, if_true, if_false, hPut_eq]
set_option maxHeartbeats 4000000 in
set_option maxRecDepth 100000 in
theorem e_h96 (x2 : Int32) : Rn hc_X10_holds 96 [some (.inr (some (10, 57))), some (.inr (some (10059, r))), some (.inl x2), none, none] [] S (none, hRow S r (mH4 (mH3 (S.2.1 r)))) := by
  repeat' (first | refine r_eq ?_ (e_h156 _ _ _ _ _) | refine r_iald rfl 0 rfl ⟨⟨by decide, by decide⟩, by decide⟩ ?_ | refine r_iald rfl 1 rfl ⟨⟨by decide, by decide⟩, by decide⟩ ?_ | refine r_iald rfl 2 rfl ⟨⟨by decide, by decide⟩, by decide⟩ ?_ | refine r_iald rfl 3 rfl ⟨⟨by decide, by decide⟩, by decide⟩ ?_ | refine r_iald rfl 5 rfl ⟨⟨by decide, by decide⟩, by decide⟩ ?_ | refine r_iald rfl 9 rfl ⟨⟨by decide, by decide⟩, by decide⟩ ?_ | refine r_iast0 rfl 0 rfl ⟨⟨by decide, by decide⟩, by decide⟩ ?_ | refine r_iast0 rfl 1 rfl ⟨⟨by decide, by decide⟩, by decide⟩ ?_ | refine r_iast0 rfl 2 rfl ⟨⟨by decide, by decide⟩, by decide⟩ ?_ | refine r_iast0 rfl 3 rfl ⟨⟨by decide, by decide⟩, by decide⟩ ?_ | refine r_iast0 rfl 9 rfl ⟨⟨by decide, by decide⟩, by decide⟩ ?_ | refine r_step rfl rfl ?_ | refine r_call rfl rfl (e_driveOf _ _) ?_ | refine r_div rfl (by decide) ?_ | with_reducible refine r_i_eq (fun c => ?_) (fun c => ?_) | with_reducible refine r_i_ne (fun c => ?_) (fun c => ?_) | with_reducible refine r_i_lt (fun c => ?_) (fun c => ?_) | with_reducible refine r_i_ge (fun c => ?_) (fun c => ?_) | with_reducible refine r_i_gt (fun c => ?_) (fun c => ?_) | with_reducible refine r_i_le (fun c => ?_) (fun c => ?_))
  all_goals simp only [mH3, mFl, mDrag, *, if_true, if_false, hPut_at, hPut_eq, hRow_at, hRow_row]
set_option maxHeartbeats 4000000 in
set_option maxRecDepth 100000 in
theorem e_h73 (g : Int32) (hg : g = mGoal (S.2.1 63) (S.2.1 r)) : Rn hc_X10_holds 73 [some (.inr (some (10, 57))), some (.inr (some (10059, r))), some (.inl g), none, none] [] S (none, hRow S r (mH4 (mH3 (mH2 (S.2.1 63) (S.2.1 r))))) := by
  subst hg
  repeat' (first | refine r_eq ?_ (e_h96 _ _ _) | refine r_iald rfl 0 rfl ⟨⟨by decide, by decide⟩, by decide⟩ ?_ | refine r_iald rfl 1 rfl ⟨⟨by decide, by decide⟩, by decide⟩ ?_ | refine r_iald rfl 2 rfl ⟨⟨by decide, by decide⟩, by decide⟩ ?_ | refine r_iald rfl 3 rfl ⟨⟨by decide, by decide⟩, by decide⟩ ?_ | refine r_iald rfl 5 rfl ⟨⟨by decide, by decide⟩, by decide⟩ ?_ | refine r_iald rfl 9 rfl ⟨⟨by decide, by decide⟩, by decide⟩ ?_ | refine r_iast0 rfl 0 rfl ⟨⟨by decide, by decide⟩, by decide⟩ ?_ | refine r_iast0 rfl 1 rfl ⟨⟨by decide, by decide⟩, by decide⟩ ?_ | refine r_iast0 rfl 2 rfl ⟨⟨by decide, by decide⟩, by decide⟩ ?_ | refine r_iast0 rfl 3 rfl ⟨⟨by decide, by decide⟩, by decide⟩ ?_ | refine r_iast0 rfl 9 rfl ⟨⟨by decide, by decide⟩, by decide⟩ ?_ | refine r_step rfl rfl ?_ | refine r_call rfl rfl (e_towards _ _ _ _) ?_ | with_reducible refine r_i_eq (fun c => ?_) (fun c => ?_) | with_reducible refine r_i_ne (fun c => ?_) (fun c => ?_) | with_reducible refine r_i_lt (fun c => ?_) (fun c => ?_) | with_reducible refine r_i_ge (fun c => ?_) (fun c => ?_) | with_reducible refine r_i_gt (fun c => ?_) (fun c => ?_) | with_reducible refine r_i_le (fun c => ?_) (fun c => ?_))
  all_goals simp only [mH2, *, if_true, if_false, hPut_at, hPut_eq, hRow_at, hRow_row]
set_option maxHeartbeats 4000000 in
set_option maxRecDepth 100000 in
theorem e_h38 (hs : S.2.2 57 6 = some (10006, 63)) : Rn hc_X10_holds 38 [some (.inr (some (10, 57))), some (.inr (some (10059, r))), none, none, none] [] S (none, hRow S r (mH4 (mH3 (mH2 (S.2.1 63) (S.2.1 r))))) := by
  repeat' (first | refine r_getr rfl hs ?_ | refine e_h73 _ _ _ ?_ | refine r_iald rfl 0 rfl ⟨⟨by decide, by decide⟩, by decide⟩ ?_ | refine r_iald rfl 1 rfl ⟨⟨by decide, by decide⟩, by decide⟩ ?_ | refine r_iald rfl 2 rfl ⟨⟨by decide, by decide⟩, by decide⟩ ?_ | refine r_iald rfl 3 rfl ⟨⟨by decide, by decide⟩, by decide⟩ ?_ | refine r_iald rfl 5 rfl ⟨⟨by decide, by decide⟩, by decide⟩ ?_ | refine r_iald rfl 9 rfl ⟨⟨by decide, by decide⟩, by decide⟩ ?_ | refine r_iast0 rfl 0 rfl ⟨⟨by decide, by decide⟩, by decide⟩ ?_ | refine r_iast0 rfl 1 rfl ⟨⟨by decide, by decide⟩, by decide⟩ ?_ | refine r_iast0 rfl 2 rfl ⟨⟨by decide, by decide⟩, by decide⟩ ?_ | refine r_iast0 rfl 3 rfl ⟨⟨by decide, by decide⟩, by decide⟩ ?_ | refine r_iast0 rfl 9 rfl ⟨⟨by decide, by decide⟩, by decide⟩ ?_ | refine r_step rfl rfl ?_ | refine r_div rfl (by decide) ?_ | with_reducible refine r_i_eq (fun c => ?_) (fun c => ?_) | with_reducible refine r_i_ne (fun c => ?_) (fun c => ?_) | with_reducible refine r_i_lt (fun c => ?_) (fun c => ?_) | with_reducible refine r_i_ge (fun c => ?_) (fun c => ?_) | with_reducible refine r_i_gt (fun c => ?_) (fun c => ?_) | with_reducible refine r_i_le (fun c => ?_) (fun c => ?_))
  all_goals simp only [mGoal, *, if_true, if_false, md_32]
set_option maxHeartbeats 4000000 in
set_option maxRecDepth 100000 in
theorem e_holds (hs : S.2.2 57 6 = some (10006, 63)) (hne : 63 ≠ r) : Ev 116 [.inr (some (10, 57)), .inr (some (10059, r))] S (none, hRow S r (mHolds (S.2.1 63) (S.2.1 r))) := by
  show Rn hc_X10_holds 0 [some (.inr (some (10, 57))), some (.inr (some (10059, r))), none, none, none] [] S _
  repeat' (first | refine r_getr rfl hs ?_ | refine r_eq ?_ (e_h38 _ _ hs) | refine r_iald rfl 0 rfl ⟨⟨by decide, by decide⟩, by decide⟩ ?_ | refine r_iald rfl 1 rfl ⟨⟨by decide, by decide⟩, by decide⟩ ?_ | refine r_iald rfl 2 rfl ⟨⟨by decide, by decide⟩, by decide⟩ ?_ | refine r_iald rfl 3 rfl ⟨⟨by decide, by decide⟩, by decide⟩ ?_ | refine r_iald rfl 5 rfl ⟨⟨by decide, by decide⟩, by decide⟩ ?_ | refine r_iald rfl 9 rfl ⟨⟨by decide, by decide⟩, by decide⟩ ?_ | refine r_iast0 rfl 0 rfl ⟨⟨by decide, by decide⟩, by decide⟩ ?_ | refine r_iast0 rfl 1 rfl ⟨⟨by decide, by decide⟩, by decide⟩ ?_ | refine r_iast0 rfl 2 rfl ⟨⟨by decide, by decide⟩, by decide⟩ ?_ | refine r_iast0 rfl 3 rfl ⟨⟨by decide, by decide⟩, by decide⟩ ?_ | refine r_iast0 rfl 9 rfl ⟨⟨by decide, by decide⟩, by decide⟩ ?_ | refine r_step rfl rfl ?_ | refine r_call rfl rfl (e_pitchGoal _ _ hs) ?_ | refine r_call rfl rfl (e_towards _ _ _ _) ?_ | with_reducible refine r_i_eq (fun c => ?_) (fun c => ?_) | with_reducible refine r_i_ne (fun c => ?_) (fun c => ?_) | with_reducible refine r_i_lt (fun c => ?_) (fun c => ?_) | with_reducible refine r_i_ge (fun c => ?_) (fun c => ?_) | with_reducible refine r_i_gt (fun c => ?_) (fun c => ?_) | with_reducible refine r_i_le (fun c => ?_) (fun c => ?_))
  all_goals simp only [mHolds, mH1, *, if_true, if_false, hPut_at, hPut_eq, hRow_at, hRow_row, hRow_ne _ _ hne, hPut_ne hne]
set_option maxHeartbeats 4000000 in
set_option maxRecDepth 100000 in
theorem e_turns (d : Int32) : Ev 22 [.inr (some (10, 57)), .inr (some (10059, r)), .inl d] S (none, hRow S r (wTurnBy (S.2.1 r) d)) := by
  show Rn hc_X10_turns 0 [some (.inr (some (10, 57))), some (.inr (some (10059, r))), some (.inl d)] [] S _
  repeat' (first | refine r_retn rfl ?_ | refine r_iald rfl 6 rfl ⟨⟨by decide, by decide⟩, by decide⟩ ?_ | refine r_iald rfl 7 rfl ⟨⟨by decide, by decide⟩, by decide⟩ ?_ | refine r_iast0 rfl 6 rfl ⟨⟨by decide, by decide⟩, by decide⟩ ?_ | refine r_iast0 rfl 7 rfl ⟨⟨by decide, by decide⟩, by decide⟩ ?_ | refine r_step rfl rfl ?_ | refine r_rem rfl (by decide) ?_ | with_reducible refine r_i_eq (fun c => ?_) (fun c => ?_) | with_reducible refine r_i_ne (fun c => ?_) (fun c => ?_) | with_reducible refine r_i_lt (fun c => ?_) (fun c => ?_) | with_reducible refine r_i_ge (fun c => ?_) (fun c => ?_) | with_reducible refine r_i_gt (fun c => ?_) (fun c => ?_) | with_reducible refine r_i_le (fun c => ?_) (fun c => ?_))
  all_goals simp only [hPut_at, hPut_eq, hRow_at, hRow_row]
  all_goals rfl
end
/-- turned, unwound -/
def mL1 (e : Int32) (w : Nat → Int32) : Nat → Int32 := upd w 14 (if e ≤ 2 then 0 else w 14 + 1)
def mBeg (st w : Nat → Int32) : Int32 := if w 0 = 0 then (if mWd st w = 0 then 0 else 1) else 0
def mEnds (w : Nat → Int32) : Int32 := if w 7 = 0 then 1 else if w 0 = 0 then 0 else 1
def mL2 (b e : Int32) (w : Nat → Int32) : Nat → Int32 := upd w 15 (if e = 0 then (if b = 0 then w 15 else 1) else 0)
def mBy (w : Nat → Int32) : Int32 := if 18 < (w 5 - w 6 + 36) - (w 5 - w 6 + 36) / 36 * 36 then -1 else 1
def mL3 (st w : Nat → Int32) : Nat → Int32 :=
  if w 15 = 1 then wTurnBy w (if w 7 ≤ 0 then 1 else -1) else
  if 3 < w 0 then w else if w 14 < 3 then w else if st 4 < mAway (w 7 + mBy w) 0 then w else wTurnBy w (mBy w)
section
variable (r : Nat) (S : hS)
set_option maxHeartbeats 4000000 in
set_option maxRecDepth 100000 in
theorem e_l84 (hs : S.2.2 57 6 = some (10006, 63)) (e x3 x4 : Int32) : Rn hc_X10_looksUp 84 [some (.inr (some (10, 57))), some (.inr (some (10059, r))), some (.inl e), some (.inl x3), some (.inl x4), none, none] [] S (none, hRow S r (mL3 (S.2.1 63) (S.2.1 r))) := by
  repeat' (first | refine r_getr rfl hs ?_ | refine r_retn rfl ?_ | refine r_iald rfl 0 rfl ⟨⟨by decide, by decide⟩, by decide⟩ ?_ | refine r_iald rfl 4 rfl ⟨⟨by decide, by decide⟩, by decide⟩ ?_ | refine r_iald rfl 5 rfl ⟨⟨by decide, by decide⟩, by decide⟩ ?_ | refine r_iald rfl 6 rfl ⟨⟨by decide, by decide⟩, by decide⟩ ?_ | refine r_iald rfl 7 rfl ⟨⟨by decide, by decide⟩, by decide⟩ ?_ | refine r_iald rfl 14 rfl ⟨⟨by decide, by decide⟩, by decide⟩ ?_ | refine r_iald rfl 15 rfl ⟨⟨by decide, by decide⟩, by decide⟩ ?_ | refine r_iast0 rfl 0 rfl ⟨⟨by decide, by decide⟩, by decide⟩ ?_ | refine r_iast0 rfl 5 rfl ⟨⟨by decide, by decide⟩, by decide⟩ ?_ | refine r_iast0 rfl 6 rfl ⟨⟨by decide, by decide⟩, by decide⟩ ?_ | refine r_iast0 rfl 7 rfl ⟨⟨by decide, by decide⟩, by decide⟩ ?_ | refine r_iast0 rfl 14 rfl ⟨⟨by decide, by decide⟩, by decide⟩ ?_ | refine r_iast0 rfl 15 rfl ⟨⟨by decide, by decide⟩, by decide⟩ ?_ | refine r_step rfl rfl ?_ | refine r_call rfl rfl (e_away _ _ _) ?_ | refine r_callv rfl rfl (e_turns _ _ _) ?_ | refine r_rem rfl (by decide) ?_ | with_reducible refine r_i_eq (fun c => ?_) (fun c => ?_) | with_reducible refine r_i_ne (fun c => ?_) (fun c => ?_) | with_reducible refine r_i_lt (fun c => ?_) (fun c => ?_) | with_reducible refine r_i_ge (fun c => ?_) (fun c => ?_) | with_reducible refine r_i_gt (fun c => ?_) (fun c => ?_) | with_reducible refine r_i_le (fun c => ?_) (fun c => ?_))
  all_goals simp only [mL3, mBy, *, if_true, if_false, hRow_self]
end
