section
variable (r : Nat) (S : hS)
/-- the tick of the model -/
def mG1 (st w : Nat → Int32) : Nat → Int32 := upd (upd w 17 (w 17 + (if mMode st w = 5 then (if w 0 = 5 then 0 else 1) else 0))) 0 (mMode st w)
def mGoes (st w : Nat → Int32) : Nat → Int32 := mLooks st (mHolds st (mG1 st (mCounts st w))) (mErr (mG1 st (mCounts st w)))
set_option maxHeartbeats 4000000 in
set_option maxRecDepth 100000 in
theorem e_g39 (hs : S.2.2 57 6 = some (10006, 63)) (hne : 63 ≠ r) (m : Int32) : Rn hc_X10_goesOn 39 [some (.inr (some (10, 57))), some (.inr (some (10059, r))), some (.inl m), none] [] S (none, hRow S r (mLooks (S.2.1 63) (mHolds (S.2.1 63) (S.2.1 r)) (mErr (S.2.1 r)))) := by
  iterate 2 refine r_step rfl rfl ?_
  refine r_call rfl rfl (e_errorOf r S) ?_
  iterate 3 refine r_step rfl rfl ?_
  refine r_callv rfl rfl (e_holds r S hs hne) ?_
  iterate 3 refine r_step rfl rfl ?_
  refine r_callv rfl rfl (e_looksUp r (hRow S r (mHolds (S.2.1 63) (S.2.1 r))) hs hne _) ?_
  refine r_retn rfl ?_
  rw [hRow_at, hRow_row, hRow_ne _ _ hne]
set_option maxHeartbeats 4000000 in
set_option maxRecDepth 100000 in
theorem e_goesOn (hs : S.2.2 57 6 = some (10006, 63)) (hne : 63 ≠ r) (hm : isMode (S.2.1 r 0)) : Ev 131 [.inr (some (10, 57)), .inr (some (10059, r))] S (none, hRow S r (mGoes (S.2.1 63) (S.2.1 r))) := by
  show Rn hc_X10_goesOn 0 [some (.inr (some (10, 57))), some (.inr (some (10059, r))), none, none] [] S _
  have hm1 : isMode ((hRow S r (mCounts (S.2.1 63) (S.2.1 r))).2.1 r 0) := by rw [hRow_at]; exact hm
  iterate 2 refine r_step rfl rfl ?_
  refine r_callv rfl rfl (e_counts _ _ hs hne) ?_
  iterate 2 refine r_step rfl rfl ?_
  refine r_call rfl rfl (e_modeOf _ _ hs hm1) ?_
  repeat' (first | refine r_eq ?_ (e_g39 r (hPut (hPut (hRow S r _) r 17 _) r 0 _) hs hne _) | refine r_iald rfl 0 rfl ⟨⟨by decide, by decide⟩, by decide⟩ ?_ | refine r_iald rfl 17 rfl ⟨⟨by decide, by decide⟩, by decide⟩ ?_ | refine r_iast0 rfl 0 rfl ⟨⟨by decide, by decide⟩, by decide⟩ ?_ | refine r_iast0 rfl 17 rfl ⟨⟨by decide, by decide⟩, by decide⟩ ?_ | refine r_step rfl rfl ?_ | with_reducible refine r_i_eq (fun c => ?_) (fun c => ?_) | with_reducible refine r_i_ne (fun c => ?_) (fun c => ?_) | with_reducible refine r_i_lt (fun c => ?_) (fun c => ?_) | with_reducible refine r_i_ge (fun c => ?_) (fun c => ?_) | with_reducible refine r_i_gt (fun c => ?_) (fun c => ?_) | with_reducible refine r_i_le (fun c => ?_) (fun c => ?_))
  all_goals simp only [mGoes, mG1, hRow_at, hRow_row, hRow_ne _ _ hne, hPut_eq] at *
  all_goals simp only [*, if_true, if_false, hPut_at, hPut_ne hne]
end
