/-! The JDK's methods, and the wheel's. -/
def jmin (a b : Int32) : Int32 := if b < a then b else a
def jmax (a b : Int32) : Int32 := if a < b then b else a
def jabs (a : Int32) : Int32 := if 0 ≤ a then a else -a
def jfdiv (a b : Int32) : Int32 := if 0 ≤ (a ^^^ b) then a / b else if a / b * b = a then a / b else a / b - 1
def jfmod (a b : Int32) : Int32 := if 0 ≤ (a ^^^ b) then a - a / b * b else if a - a / b * b = 0 then a - a / b * b else a - a / b * b + b
theorem e_max (a b : Int32) (S : hS) : Ev 4 [.inl a, .inl b] S (some (jmax a b), S) := by
  show Rn hc_J9_max_7cf53 0 [some (.inl a), some (.inl b)] [] S _
  repeat' (first | refine r_step rfl rfl ?_ | with_reducible refine r_i_eq (fun c => ?_) (fun c => ?_) | with_reducible refine r_i_ne (fun c => ?_) (fun c => ?_) | with_reducible refine r_i_lt (fun c => ?_) (fun c => ?_) | with_reducible refine r_i_ge (fun c => ?_) (fun c => ?_) | with_reducible refine r_i_gt (fun c => ?_) (fun c => ?_) | with_reducible refine r_i_le (fun c => ?_) (fun c => ?_))
  all_goals refine r_reti rfl ?_ rfl
  all_goals simp only [jmax, *, if_true, if_false]
theorem e_min (a b : Int32) (S : hS) : Ev 5 [.inl a, .inl b] S (some (jmin a b), S) := by
  show Rn hc_J9_min_7cf53 0 [some (.inl a), some (.inl b)] [] S _
  repeat' (first | refine r_step rfl rfl ?_ | with_reducible refine r_i_eq (fun c => ?_) (fun c => ?_) | with_reducible refine r_i_ne (fun c => ?_) (fun c => ?_) | with_reducible refine r_i_lt (fun c => ?_) (fun c => ?_) | with_reducible refine r_i_ge (fun c => ?_) (fun c => ?_) | with_reducible refine r_i_gt (fun c => ?_) (fun c => ?_) | with_reducible refine r_i_le (fun c => ?_) (fun c => ?_))
  all_goals refine r_reti rfl ?_ rfl
  all_goals simp only [jmin, *, if_true, if_false]
theorem e_abs (a : Int32) (S : hS) : Ev 1 [.inl a] S (some (jabs a), S) := by
  show Rn hc_J9_abs_0f7a4 0 [some (.inl a)] [] S _
  repeat' (first | refine r_step rfl rfl ?_ | with_reducible refine r_i_eq (fun c => ?_) (fun c => ?_) | with_reducible refine r_i_ne (fun c => ?_) (fun c => ?_) | with_reducible refine r_i_lt (fun c => ?_) (fun c => ?_) | with_reducible refine r_i_ge (fun c => ?_) (fun c => ?_) | with_reducible refine r_i_gt (fun c => ?_) (fun c => ?_) | with_reducible refine r_i_le (fun c => ?_) (fun c => ?_))
  all_goals refine r_reti rfl ?_ rfl
  all_goals simp only [jabs, *, if_true, if_false]
theorem e_floorDiv (a b : Int32) (S : hS) (hb : ¬ b = 0) : Ev 2 [.inl a, .inl b] S (some (jfdiv a b), S) := by
  show Rn hc_J9_floorDiv_7cf53 0 [some (.inl a), some (.inl b), none] [] S _
  repeat' (first | refine r_step rfl rfl ?_ | refine r_div rfl hb ?_ | with_reducible refine r_i_eq (fun c => ?_) (fun c => ?_) | with_reducible refine r_i_ne (fun c => ?_) (fun c => ?_) | with_reducible refine r_i_lt (fun c => ?_) (fun c => ?_) | with_reducible refine r_i_ge (fun c => ?_) (fun c => ?_) | with_reducible refine r_i_gt (fun c => ?_) (fun c => ?_) | with_reducible refine r_i_le (fun c => ?_) (fun c => ?_))
  all_goals refine r_reti rfl ?_ rfl
  all_goals simp only [jfdiv, *, if_true, if_false]
theorem e_floorMod (a b : Int32) (S : hS) (hb : ¬ b = 0) : Ev 3 [.inl a, .inl b] S (some (jfmod a b), S) := by
  show Rn hc_J9_floorMod_7cf53 0 [some (.inl a), some (.inl b), none] [] S _
  repeat' (first | refine r_step rfl rfl ?_ | refine r_rem rfl hb ?_ | with_reducible refine r_i_eq (fun c => ?_) (fun c => ?_) | with_reducible refine r_i_ne (fun c => ?_) (fun c => ?_) | with_reducible refine r_i_lt (fun c => ?_) (fun c => ?_) | with_reducible refine r_i_ge (fun c => ?_) (fun c => ?_) | with_reducible refine r_i_gt (fun c => ?_) (fun c => ?_) | with_reducible refine r_i_le (fun c => ?_) (fun c => ?_))
  all_goals refine r_reti rfl ?_ rfl
  all_goals simp only [jfmod, *, if_true, if_false]
/-- the wheel's fields: 0 mode, 1 speed, 2 pitch, 3 torque, 4 wind, 5 from, 6 heading, 7 twist, 8 ice, 9 gridThere, 10 wanted, 11 good, 12 storm, 13 away, 14 off, 15 unwinding -/
def wAhead (w : Nat → Int32) : Int32 := if w 6 ≤ w 5 then w 5 - w 6 else w 5 - w 6 + 36
def wError (w : Nat → Int32) : Int32 := jmin (wAhead w) (36 - wAhead w)
def wDrive (w : Nat → Int32) (e : Int32) : Int32 := w 4 * jmax 0 (9 - e) * (10 - w 8) * (90 - w 2) / 1620
def wDrag (w : Nat → Int32) : Int32 := if w 1 = 0 then 0 else w 1 / 10 + 1
def wNear (v a m : Int32) : Int32 := if a ≤ v then jmax a (v - m) else jmin a (v + m)
def wWound (w : Nat → Int32) (lim : Int32) : Prop := lim ≤ w 7 ∨ w 7 ≤ -lim
def wWd (w : Nat → Int32) (lim : Int32) : Int32 := if lim ≤ w 7 then 1 else if -lim < w 7 then 0 else 1
theorem e_ahead (c : Nat) (S : hS) : Ev 41 [.inr (some (8, c))] S (some (wAhead (S.2.1 c)), S) := by
  show Rn hc_X8_ahead 0 [some (.inr (some (8, c)))] [] S _
  repeat' (first | refine r_step rfl rfl ?_ | with_reducible refine r_i_eq (fun c => ?_) (fun c => ?_) | with_reducible refine r_i_ne (fun c => ?_) (fun c => ?_) | with_reducible refine r_i_lt (fun c => ?_) (fun c => ?_) | with_reducible refine r_i_ge (fun c => ?_) (fun c => ?_) | with_reducible refine r_i_gt (fun c => ?_) (fun c => ?_) | with_reducible refine r_i_le (fun c => ?_) (fun c => ?_))
  all_goals refine r_reti rfl ?_ rfl
  all_goals simp only [wAhead, *, if_true, if_false]
theorem e_error (c : Nat) (S : hS) : Ev 88 [.inr (some (8, c))] S (some (wError (S.2.1 c)), S) := by
  show Rn hc_X8_error 0 [some (.inr (some (8, c))), none] [] S _
  repeat' (first | refine r_step rfl rfl ?_ | refine r_call rfl rfl (e_ahead _ _) ?_ | refine r_call rfl rfl (e_min _ _ _) ?_ | with_reducible refine r_i_eq (fun c => ?_) (fun c => ?_) | with_reducible refine r_i_ne (fun c => ?_) (fun c => ?_) | with_reducible refine r_i_lt (fun c => ?_) (fun c => ?_) | with_reducible refine r_i_ge (fun c => ?_) (fun c => ?_) | with_reducible refine r_i_gt (fun c => ?_) (fun c => ?_) | with_reducible refine r_i_le (fun c => ?_) (fun c => ?_))
  all_goals refine r_reti rfl ?_ rfl
  all_goals rfl
theorem e_drive (c : Nat) (e : Int32) (S : hS) : Ev 87 [.inr (some (8, c)), .inl e] S (some (wDrive (S.2.1 c) e), S) := by
  show Rn hc_X8_drive 0 [some (.inr (some (8, c))), some (.inl e)] [] S _
  repeat' (first | refine r_step rfl rfl ?_ | refine r_call rfl rfl (e_max _ _ _) ?_ | refine r_div rfl (by decide) ?_ | with_reducible refine r_i_eq (fun c => ?_) (fun c => ?_) | with_reducible refine r_i_ne (fun c => ?_) (fun c => ?_) | with_reducible refine r_i_lt (fun c => ?_) (fun c => ?_) | with_reducible refine r_i_ge (fun c => ?_) (fun c => ?_) | with_reducible refine r_i_gt (fun c => ?_) (fun c => ?_) | with_reducible refine r_i_le (fun c => ?_) (fun c => ?_))
  all_goals refine r_reti rfl ?_ rfl
  all_goals rfl
theorem e_drag (c : Nat) (S : hS) : Ev 43 [.inr (some (8, c))] S (some (wDrag (S.2.1 c)), S) := by
  show Rn hc_X8_drag 0 [some (.inr (some (8, c)))] [] S _
  repeat' (first | refine r_step rfl rfl ?_ | refine r_div rfl (by decide) ?_ | with_reducible refine r_i_eq (fun c => ?_) (fun c => ?_) | with_reducible refine r_i_ne (fun c => ?_) (fun c => ?_) | with_reducible refine r_i_lt (fun c => ?_) (fun c => ?_) | with_reducible refine r_i_ge (fun c => ?_) (fun c => ?_) | with_reducible refine r_i_gt (fun c => ?_) (fun c => ?_) | with_reducible refine r_i_le (fun c => ?_) (fun c => ?_))
  all_goals refine r_reti rfl ?_ rfl
  all_goals simp only [wDrag, *, if_true, if_false]
theorem e_nearer (v a m : Int32) (S : hS) : Ev 90 [.inl v, .inl a, .inl m] S (some (wNear v a m), S) := by
  show Rn hc_X8_nearer 0 [some (.inl v), some (.inl a), some (.inl m)] [] S _
  repeat' (first | refine r_step rfl rfl ?_ | refine r_call rfl rfl (e_max _ _ _) ?_ | refine r_call rfl rfl (e_min _ _ _) ?_ | with_reducible refine r_i_eq (fun c => ?_) (fun c => ?_) | with_reducible refine r_i_ne (fun c => ?_) (fun c => ?_) | with_reducible refine r_i_lt (fun c => ?_) (fun c => ?_) | with_reducible refine r_i_ge (fun c => ?_) (fun c => ?_) | with_reducible refine r_i_gt (fun c => ?_) (fun c => ?_) | with_reducible refine r_i_le (fun c => ?_) (fun c => ?_))
  all_goals refine r_reti rfl ?_ rfl
  all_goals simp only [wNear, *, if_true, if_false]
theorem e_isWound (c : Nat) (lim : Int32) (S : hS) : Ev 44 [.inr (some (8, c)), .inl lim] S (some (wWd (S.2.1 c) lim), S) := by
  show Rn hc_X8_isWound 0 [some (.inr (some (8, c))), some (.inl lim)] [] S _
  repeat' (first | refine r_step rfl rfl ?_ | with_reducible refine r_i_eq (fun c => ?_) (fun c => ?_) | with_reducible refine r_i_ne (fun c => ?_) (fun c => ?_) | with_reducible refine r_i_lt (fun c => ?_) (fun c => ?_) | with_reducible refine r_i_ge (fun c => ?_) (fun c => ?_) | with_reducible refine r_i_gt (fun c => ?_) (fun c => ?_) | with_reducible refine r_i_le (fun c => ?_) (fun c => ?_))
  all_goals refine r_retz rfl (by first | exact Or.inl rfl | exact Or.inr rfl) ?_ rfl
  all_goals simp only [wWd, *, if_true, if_false]
/-- a mode -/
def isMode (x : Int32) : Prop := x = 0 ∨ x = 1 ∨ x = 2 ∨ x = 3 ∨ x = 4 ∨ x = 5
def wPitchAim (st w : Nat → Int32) : Int32 := if w 0 = 1 then 20 else if w 0 = 2 then 0 else if w 0 = 3 then jmax 0 (jmin 90 (w 2 + (w 1 - st 0) / 4)) else 90
def wTorqueAim (st w : Nat → Int32) : Int32 := if w 0 = 2 then w 1 / 2 else if w 0 = 3 then st 0 / 2 else 0
theorem e_pitchAim (c cs : Nat) (S : hS) (hm : isMode (S.2.1 c 0)) : Ev 92 [.inr (some (8, c)), .inr (some (5, cs))] S (some (wPitchAim (S.2.1 cs) (S.2.1 c)), S) := by
  show Rn hc_X8_pitchAim 0 [some (.inr (some (8, c))), some (.inr (some (5, cs)))] [] S _
  iterate 2 refine r_step rfl rfl ?_
  rcases hm with hm | hm | hm | hm | hm | hm
  · refine r_tsw 63 rfl (by rw [hm]; rfl) ?_
    repeat' (first | refine r_step rfl rfl ?_ | with_reducible refine r_i_eq (fun c => ?_) (fun c => ?_) | with_reducible refine r_i_ne (fun c => ?_) (fun c => ?_) | with_reducible refine r_i_lt (fun c => ?_) (fun c => ?_) | with_reducible refine r_i_ge (fun c => ?_) (fun c => ?_) | with_reducible refine r_i_gt (fun c => ?_) (fun c => ?_) | with_reducible refine r_i_le (fun c => ?_) (fun c => ?_))
    refine r_reti rfl ?_ rfl
    simp [wPitchAim, hm]
  · refine r_tsw 32 rfl (by rw [hm]; rfl) ?_
    repeat' (first | refine r_step rfl rfl ?_ | with_reducible refine r_i_eq (fun c => ?_) (fun c => ?_) | with_reducible refine r_i_ne (fun c => ?_) (fun c => ?_) | with_reducible refine r_i_lt (fun c => ?_) (fun c => ?_) | with_reducible refine r_i_ge (fun c => ?_) (fun c => ?_) | with_reducible refine r_i_gt (fun c => ?_) (fun c => ?_) | with_reducible refine r_i_le (fun c => ?_) (fun c => ?_))
    refine r_reti rfl ?_ rfl
    simp [wPitchAim, hm]
  · refine r_tsw 35 rfl (by rw [hm]; rfl) ?_
    repeat' (first | refine r_step rfl rfl ?_ | with_reducible refine r_i_eq (fun c => ?_) (fun c => ?_) | with_reducible refine r_i_ne (fun c => ?_) (fun c => ?_) | with_reducible refine r_i_lt (fun c => ?_) (fun c => ?_) | with_reducible refine r_i_ge (fun c => ?_) (fun c => ?_) | with_reducible refine r_i_gt (fun c => ?_) (fun c => ?_) | with_reducible refine r_i_le (fun c => ?_) (fun c => ?_))
    refine r_reti rfl ?_ rfl
    simp [wPitchAim, hm]
  · refine r_tsw 37 rfl (by rw [hm]; rfl) ?_
    repeat' (first | refine r_step rfl rfl ?_ | refine r_call rfl rfl (e_max _ _ _) ?_ | refine r_call rfl rfl (e_min _ _ _) ?_ | refine r_div rfl (by decide) ?_ | with_reducible refine r_i_eq (fun c => ?_) (fun c => ?_) | with_reducible refine r_i_ne (fun c => ?_) (fun c => ?_) | with_reducible refine r_i_lt (fun c => ?_) (fun c => ?_) | with_reducible refine r_i_ge (fun c => ?_) (fun c => ?_) | with_reducible refine r_i_gt (fun c => ?_) (fun c => ?_) | with_reducible refine r_i_le (fun c => ?_) (fun c => ?_))
    refine r_reti rfl ?_ rfl
    simp [wPitchAim, hm]
  · refine r_tsw 63 rfl (by rw [hm]; rfl) ?_
    repeat' (first | refine r_step rfl rfl ?_ | with_reducible refine r_i_eq (fun c => ?_) (fun c => ?_) | with_reducible refine r_i_ne (fun c => ?_) (fun c => ?_) | with_reducible refine r_i_lt (fun c => ?_) (fun c => ?_) | with_reducible refine r_i_ge (fun c => ?_) (fun c => ?_) | with_reducible refine r_i_gt (fun c => ?_) (fun c => ?_) | with_reducible refine r_i_le (fun c => ?_) (fun c => ?_))
    refine r_reti rfl ?_ rfl
    simp [wPitchAim, hm]
  · refine r_tsw 63 rfl (by rw [hm]; rfl) ?_
    repeat' (first | refine r_step rfl rfl ?_ | with_reducible refine r_i_eq (fun c => ?_) (fun c => ?_) | with_reducible refine r_i_ne (fun c => ?_) (fun c => ?_) | with_reducible refine r_i_lt (fun c => ?_) (fun c => ?_) | with_reducible refine r_i_ge (fun c => ?_) (fun c => ?_) | with_reducible refine r_i_gt (fun c => ?_) (fun c => ?_) | with_reducible refine r_i_le (fun c => ?_) (fun c => ?_))
    refine r_reti rfl ?_ rfl
    simp [wPitchAim, hm]
theorem e_torqueAim (c cs : Nat) (S : hS) (hm : isMode (S.2.1 c 0)) : Ev 46 [.inr (some (8, c)), .inr (some (5, cs))] S (some (wTorqueAim (S.2.1 cs) (S.2.1 c)), S) := by
  show Rn hc_X8_torqueAim 0 [some (.inr (some (8, c))), some (.inr (some (5, cs)))] [] S _
  iterate 2 refine r_step rfl rfl ?_
  rcases hm with hm | hm | hm | hm | hm | hm
  · refine r_lsw 46 rfl (by rw [hm]; rfl) ?_
    repeat' (first | refine r_step rfl rfl ?_ | with_reducible refine r_i_eq (fun c => ?_) (fun c => ?_) | with_reducible refine r_i_ne (fun c => ?_) (fun c => ?_) | with_reducible refine r_i_lt (fun c => ?_) (fun c => ?_) | with_reducible refine r_i_ge (fun c => ?_) (fun c => ?_) | with_reducible refine r_i_gt (fun c => ?_) (fun c => ?_) | with_reducible refine r_i_le (fun c => ?_) (fun c => ?_))
    refine r_reti rfl ?_ rfl
    simp [wTorqueAim, hm]
  · refine r_lsw 46 rfl (by rw [hm]; rfl) ?_
    repeat' (first | refine r_step rfl rfl ?_ | with_reducible refine r_i_eq (fun c => ?_) (fun c => ?_) | with_reducible refine r_i_ne (fun c => ?_) (fun c => ?_) | with_reducible refine r_i_lt (fun c => ?_) (fun c => ?_) | with_reducible refine r_i_ge (fun c => ?_) (fun c => ?_) | with_reducible refine r_i_gt (fun c => ?_) (fun c => ?_) | with_reducible refine r_i_le (fun c => ?_) (fun c => ?_))
    refine r_reti rfl ?_ rfl
    simp [wTorqueAim, hm]
  · refine r_lsw 32 rfl (by rw [hm]; rfl) ?_
    repeat' (first | refine r_step rfl rfl ?_ | refine r_div rfl (by decide) ?_ | with_reducible refine r_i_eq (fun c => ?_) (fun c => ?_) | with_reducible refine r_i_ne (fun c => ?_) (fun c => ?_) | with_reducible refine r_i_lt (fun c => ?_) (fun c => ?_) | with_reducible refine r_i_ge (fun c => ?_) (fun c => ?_) | with_reducible refine r_i_gt (fun c => ?_) (fun c => ?_) | with_reducible refine r_i_le (fun c => ?_) (fun c => ?_))
    refine r_reti rfl ?_ rfl
    simp [wTorqueAim, hm]
  · refine r_lsw 39 rfl (by rw [hm]; rfl) ?_
    repeat' (first | refine r_step rfl rfl ?_ | refine r_div rfl (by decide) ?_ | with_reducible refine r_i_eq (fun c => ?_) (fun c => ?_) | with_reducible refine r_i_ne (fun c => ?_) (fun c => ?_) | with_reducible refine r_i_lt (fun c => ?_) (fun c => ?_) | with_reducible refine r_i_ge (fun c => ?_) (fun c => ?_) | with_reducible refine r_i_gt (fun c => ?_) (fun c => ?_) | with_reducible refine r_i_le (fun c => ?_) (fun c => ?_))
    refine r_reti rfl ?_ rfl
    simp [wTorqueAim, hm]
  · refine r_lsw 46 rfl (by rw [hm]; rfl) ?_
    repeat' (first | refine r_step rfl rfl ?_ | with_reducible refine r_i_eq (fun c => ?_) (fun c => ?_) | with_reducible refine r_i_ne (fun c => ?_) (fun c => ?_) | with_reducible refine r_i_lt (fun c => ?_) (fun c => ?_) | with_reducible refine r_i_ge (fun c => ?_) (fun c => ?_) | with_reducible refine r_i_gt (fun c => ?_) (fun c => ?_) | with_reducible refine r_i_le (fun c => ?_) (fun c => ?_))
    refine r_reti rfl ?_ rfl
    simp [wTorqueAim, hm]
  · refine r_lsw 46 rfl (by rw [hm]; rfl) ?_
    repeat' (first | refine r_step rfl rfl ?_ | with_reducible refine r_i_eq (fun c => ?_) (fun c => ?_) | with_reducible refine r_i_ne (fun c => ?_) (fun c => ?_) | with_reducible refine r_i_lt (fun c => ?_) (fun c => ?_) | with_reducible refine r_i_ge (fun c => ?_) (fun c => ?_) | with_reducible refine r_i_gt (fun c => ?_) (fun c => ?_) | with_reducible refine r_i_le (fun c => ?_) (fun c => ?_))
    refine r_reti rfl ?_ rfl
    simp [wTorqueAim, hm]
def wTurnBy (w : Nat → Int32) (d : Int32) : Nat → Int32 := upd (upd w 6 ((w 6 + d + 36) - (w 6 + d + 36) / 36 * 36)) 7 (w 7 + d)
theorem e_turnBy (c : Nat) (d : Int32) (S : hS) : Ev 47 [.inr (some (8, c)), .inl d] S (none, hRow S c (wTurnBy (S.2.1 c) d)) := by
  show Rn hc_X8_turnBy 0 [some (.inr (some (8, c))), some (.inl d)] [] S _
  repeat' (first | refine r_step rfl rfl ?_ | refine r_rem rfl (by decide) ?_ | with_reducible refine r_i_eq (fun c => ?_) (fun c => ?_) | with_reducible refine r_i_ne (fun c => ?_) (fun c => ?_) | with_reducible refine r_i_lt (fun c => ?_) (fun c => ?_) | with_reducible refine r_i_ge (fun c => ?_) (fun c => ?_) | with_reducible refine r_i_gt (fun c => ?_) (fun c => ?_) | with_reducible refine r_i_le (fun c => ?_) (fun c => ?_))
  refine r_retn rfl ?_
  rw [hPut_eq S, hRow_at, hPut_row]
  rfl
theorem r_getv {C : hC} {pc : Nat} {L : List (Option hV)} {r : List hV} {S : hS} {o : Option Int32 × hS} {p0 nx a b q idx c : Nat} {v x : Int32} (hx : S.2.1 c b = x) (hf : hFetch C pc = some (p0, .getfield idx, nx, a, b, 0, q, v)) (k : Rn C nx L (.inl x :: r) S o) : Rn C pc L (.inr (some (a, c)) :: r) S o := by
  subst hx
  refine r_step hf ?_ k
  show hr (.inr (some (a, c)) :: r) (fun k c r => if k = a then some (.inl (nx, L, .inl (S.2.1 c b) :: r, S)) else none) = _
  unfold hr
  dsimp only
  rw [if_pos rfl]
theorem md_01 : ¬ ((0 : Int32) = 1) := by decide
theorem md_02 : ¬ ((0 : Int32) = 2) := by decide
theorem md_03 : ¬ ((0 : Int32) = 3) := by decide
theorem md_04 : ¬ ((0 : Int32) = 4) := by decide
theorem md_05 : ¬ ((0 : Int32) = 5) := by decide
theorem md_10 : ¬ ((1 : Int32) = 0) := by decide
theorem md_12 : ¬ ((1 : Int32) = 2) := by decide
theorem md_13 : ¬ ((1 : Int32) = 3) := by decide
theorem md_14 : ¬ ((1 : Int32) = 4) := by decide
theorem md_15 : ¬ ((1 : Int32) = 5) := by decide
theorem md_20 : ¬ ((2 : Int32) = 0) := by decide
theorem md_21 : ¬ ((2 : Int32) = 1) := by decide
theorem md_23 : ¬ ((2 : Int32) = 3) := by decide
theorem md_24 : ¬ ((2 : Int32) = 4) := by decide
theorem md_25 : ¬ ((2 : Int32) = 5) := by decide
theorem md_30 : ¬ ((3 : Int32) = 0) := by decide
theorem md_31 : ¬ ((3 : Int32) = 1) := by decide
theorem md_32 : ¬ ((3 : Int32) = 2) := by decide
theorem md_34 : ¬ ((3 : Int32) = 4) := by decide
theorem md_35 : ¬ ((3 : Int32) = 5) := by decide
theorem md_40 : ¬ ((4 : Int32) = 0) := by decide
theorem md_41 : ¬ ((4 : Int32) = 1) := by decide
theorem md_42 : ¬ ((4 : Int32) = 2) := by decide
theorem md_43 : ¬ ((4 : Int32) = 3) := by decide
theorem md_45 : ¬ ((4 : Int32) = 5) := by decide
theorem md_50 : ¬ ((5 : Int32) = 0) := by decide
theorem md_51 : ¬ ((5 : Int32) = 1) := by decide
theorem md_52 : ¬ ((5 : Int32) = 2) := by decide
theorem md_53 : ¬ ((5 : Int32) = 3) := by decide
theorem md_54 : ¬ ((5 : Int32) = 4) := by decide
/-- the mode behind this one -/
def wMode (st w : Nat → Int32) : Int32 :=
  if ¬ w 1 ≤ st 1 ∧ (w 0 = 1 ∨ w 0 = 2 ∨ w 0 = 3 ∨ w 0 = 4) then 5 else
  if (w 0 = 1 ∨ w 0 = 2 ∨ w 0 = 3) ∧ (w 10 = 0 ∨ 2 ≤ w 12 ∨ 4 ≤ w 13 ∨ ¬ wWd w (st 4) = 0) then 4 else
  if w 0 = 0 then (if ¬ w 10 = 0 ∧ ¬ w 11 < 3 ∧ w 13 = 0 ∧ wWd w (st 4) = 0 ∧ w 15 = 0 then 1 else 0) else
  if w 0 = 1 then (if 5 * w 1 < 2 * st 0 then 1 else 2) else
  if w 0 = 2 then (if w 1 < st 0 then (if st 2 ≤ w 4 then 2 else if st 0 ≤ 5 * w 1 then 2 else 4) else 3) else
  if w 0 = 3 then (if w 2 = 0 ∧ ¬ st 0 - 5 ≤ w 1 then 2 else 3) else
  if w 0 = 4 then (if w 1 = 0 ∧ w 2 = 90 then 0 else 4) else w 0
set_option maxHeartbeats 4000000 in
set_option maxRecDepth 100000 in
theorem e_nextMode (c cs : Nat) (S : hS) (hm : isMode (S.2.1 c 0)) : Ev 91 [.inr (some (8, c)), .inr (some (5, cs))] S (some (wMode (S.2.1 cs) (S.2.1 c)), S) := by
  show Rn hc_X8_nextMode 0 [some (.inr (some (8, c))), some (.inr (some (5, cs))), none, none] [] S _
  rcases hm with hm | hm | hm | hm | hm | hm
  · repeat' (first | refine r_getv hm rfl ?_ | refine r_step rfl rfl ?_ | refine r_call rfl rfl (e_isWound _ _ _) ?_ | refine r_tsw 136 rfl rfl ?_ | with_reducible refine r_i_eq (fun c => ?_) (fun c => ?_) | with_reducible refine r_i_ne (fun c => ?_) (fun c => ?_) | with_reducible refine r_i_lt (fun c => ?_) (fun c => ?_) | with_reducible refine r_i_ge (fun c => ?_) (fun c => ?_) | with_reducible refine r_i_gt (fun c => ?_) (fun c => ?_) | with_reducible refine r_i_le (fun c => ?_) (fun c => ?_))
    all_goals refine r_reti rfl ?_ rfl
    all_goals simp only [wMode, hm, md_01, md_02, md_03, md_04, md_05, md_10, md_12, md_13, md_14, md_15, md_20, md_21, md_23, md_24, md_25, md_30, md_31, md_32, md_34, md_35, md_40, md_41, md_42, md_43, md_45, md_50, md_51, md_52, md_53, md_54, *, true_or, or_true, false_or, or_false, true_and, and_true, false_and, and_false, not_true, not_false_eq_true, if_true, if_false, ne_eq, not_true_eq_false]
  · repeat' (first | refine r_getv hm rfl ?_ | refine r_step rfl rfl ?_ | refine r_call rfl rfl (e_isWound _ _ _) ?_ | refine r_tsw 175 rfl rfl ?_ | with_reducible refine r_i_eq (fun c => ?_) (fun c => ?_) | with_reducible refine r_i_ne (fun c => ?_) (fun c => ?_) | with_reducible refine r_i_lt (fun c => ?_) (fun c => ?_) | with_reducible refine r_i_ge (fun c => ?_) (fun c => ?_) | with_reducible refine r_i_gt (fun c => ?_) (fun c => ?_) | with_reducible refine r_i_le (fun c => ?_) (fun c => ?_))
    all_goals refine r_reti rfl ?_ rfl
    all_goals simp only [wMode, hm, md_01, md_02, md_03, md_04, md_05, md_10, md_12, md_13, md_14, md_15, md_20, md_21, md_23, md_24, md_25, md_30, md_31, md_32, md_34, md_35, md_40, md_41, md_42, md_43, md_45, md_50, md_51, md_52, md_53, md_54, *, true_or, or_true, false_or, or_false, true_and, and_true, false_and, and_false, not_true, not_false_eq_true, if_true, if_false, ne_eq, not_true_eq_false]
  · repeat' (first | refine r_getv hm rfl ?_ | refine r_step rfl rfl ?_ | refine r_call rfl rfl (e_isWound _ _ _) ?_ | refine r_tsw 196 rfl rfl ?_ | with_reducible refine r_i_eq (fun c => ?_) (fun c => ?_) | with_reducible refine r_i_ne (fun c => ?_) (fun c => ?_) | with_reducible refine r_i_lt (fun c => ?_) (fun c => ?_) | with_reducible refine r_i_ge (fun c => ?_) (fun c => ?_) | with_reducible refine r_i_gt (fun c => ?_) (fun c => ?_) | with_reducible refine r_i_le (fun c => ?_) (fun c => ?_))
    all_goals refine r_reti rfl ?_ rfl
    all_goals simp only [wMode, hm, md_01, md_02, md_03, md_04, md_05, md_10, md_12, md_13, md_14, md_15, md_20, md_21, md_23, md_24, md_25, md_30, md_31, md_32, md_34, md_35, md_40, md_41, md_42, md_43, md_45, md_50, md_51, md_52, md_53, md_54, *, true_or, or_true, false_or, or_false, true_and, and_true, false_and, and_false, not_true, not_false_eq_true, if_true, if_false, ne_eq, not_true_eq_false]
  · repeat' (first | refine r_getv hm rfl ?_ | refine r_step rfl rfl ?_ | refine r_call rfl rfl (e_isWound _ _ _) ?_ | refine r_tsw 239 rfl rfl ?_ | with_reducible refine r_i_eq (fun c => ?_) (fun c => ?_) | with_reducible refine r_i_ne (fun c => ?_) (fun c => ?_) | with_reducible refine r_i_lt (fun c => ?_) (fun c => ?_) | with_reducible refine r_i_ge (fun c => ?_) (fun c => ?_) | with_reducible refine r_i_gt (fun c => ?_) (fun c => ?_) | with_reducible refine r_i_le (fun c => ?_) (fun c => ?_))
    all_goals refine r_reti rfl ?_ rfl
    all_goals simp only [wMode, hm, md_01, md_02, md_03, md_04, md_05, md_10, md_12, md_13, md_14, md_15, md_20, md_21, md_23, md_24, md_25, md_30, md_31, md_32, md_34, md_35, md_40, md_41, md_42, md_43, md_45, md_50, md_51, md_52, md_53, md_54, *, true_or, or_true, false_or, or_false, true_and, and_true, false_and, and_false, not_true, not_false_eq_true, if_true, if_false, ne_eq, not_true_eq_false]
  · repeat' (first | refine r_getv hm rfl ?_ | refine r_step rfl rfl ?_ | refine r_call rfl rfl (e_isWound _ _ _) ?_ | refine r_tsw 265 rfl rfl ?_ | with_reducible refine r_i_eq (fun c => ?_) (fun c => ?_) | with_reducible refine r_i_ne (fun c => ?_) (fun c => ?_) | with_reducible refine r_i_lt (fun c => ?_) (fun c => ?_) | with_reducible refine r_i_ge (fun c => ?_) (fun c => ?_) | with_reducible refine r_i_gt (fun c => ?_) (fun c => ?_) | with_reducible refine r_i_le (fun c => ?_) (fun c => ?_))
    all_goals refine r_reti rfl ?_ rfl
    all_goals simp_all only [wMode, hm, md_01, md_02, md_03, md_04, md_05, md_10, md_12, md_13, md_14, md_15, md_20, md_21, md_23, md_24, md_25, md_30, md_31, md_32, md_34, md_35, md_40, md_41, md_42, md_43, md_45, md_50, md_51, md_52, md_53, md_54, true_or, or_true, false_or, or_false, true_and, and_true, false_and, and_false, not_true, not_false_eq_true, if_true, if_false, ne_eq, not_true_eq_false]
  · repeat' (first | refine r_getv hm rfl ?_ | refine r_step rfl rfl ?_ | refine r_call rfl rfl (e_isWound _ _ _) ?_ | refine r_tsw 287 rfl rfl ?_ | with_reducible refine r_i_eq (fun c => ?_) (fun c => ?_) | with_reducible refine r_i_ne (fun c => ?_) (fun c => ?_) | with_reducible refine r_i_lt (fun c => ?_) (fun c => ?_) | with_reducible refine r_i_ge (fun c => ?_) (fun c => ?_) | with_reducible refine r_i_gt (fun c => ?_) (fun c => ?_) | with_reducible refine r_i_le (fun c => ?_) (fun c => ?_))
    all_goals refine r_reti rfl ?_ rfl
    all_goals simp only [wMode, hm, md_01, md_02, md_03, md_04, md_05, md_10, md_12, md_13, md_14, md_15, md_20, md_21, md_23, md_24, md_25, md_30, md_31, md_32, md_34, md_35, md_40, md_41, md_42, md_43, md_45, md_50, md_51, md_52, md_53, md_54, *, true_or, or_true, false_or, or_false, true_and, and_true, false_and, and_false, not_true, not_false_eq_true, if_true, if_false, ne_eq, not_true_eq_false]
def wT2 (w : Nat → Int32) : Nat → Int32 := if w 7 = 0 ∨ ¬ w 0 = 0 then upd w 15 0 else w
def wT1 (lim : Int32) (w : Nat → Int32) : Nat → Int32 := if w 0 = 0 ∧ ¬ wWd w lim = 0 then upd w 15 1 else w
def wT3 (lim : Int32) (w : Nat → Int32) : Nat → Int32 :=
  if w 15 = 0 then
    (if 3 < w 0 then w else if w 14 < 3 then w else
      if lim < w 7 + (if 18 < wAhead w then -1 else 1) then w else if w 7 + (if 18 < wAhead w then -1 else 1) < -lim then w else wTurnBy w (if 18 < wAhead w then -1 else 1))
  else wTurnBy w (if w 7 ≤ 0 then 1 else -1)
def wTurn (lim : Int32) (w : Nat → Int32) : Nat → Int32 := wT3 lim (wT2 (wT1 lim w))
set_option maxHeartbeats 4000000 in
set_option maxRecDepth 100000 in
theorem e_t39 (c : Nat) (lim : Int32) (S : hS) : Rn hc_X8_turn 39 [some (.inr (some (8, c))), some (.inl lim), none] [] S (none, hRow S c (wT3 lim (S.2.1 c))) := by
  repeat' (first | refine r_retn rfl ?_ | refine r_step rfl rfl ?_ | refine r_call rfl rfl (e_ahead _ _) ?_ | refine r_callv rfl rfl (e_turnBy _ _ _) ?_ | with_reducible refine r_i_eq (fun c => ?_) (fun c => ?_) | with_reducible refine r_i_ne (fun c => ?_) (fun c => ?_) | with_reducible refine r_i_lt (fun c => ?_) (fun c => ?_) | with_reducible refine r_i_ge (fun c => ?_) (fun c => ?_) | with_reducible refine r_i_gt (fun c => ?_) (fun c => ?_) | with_reducible refine r_i_le (fun c => ?_) (fun c => ?_))
  all_goals simp only [wT3, *, if_true, if_false, hRow_self]
set_option maxHeartbeats 4000000 in
set_option maxRecDepth 100000 in
theorem e_t20 (c : Nat) (lim : Int32) (S : hS) : Rn hc_X8_turn 20 [some (.inr (some (8, c))), some (.inl lim), none] [] S (none, hRow S c (wT3 lim (wT2 (S.2.1 c)))) := by
  repeat' (first | refine r_eq ?_ (e_t39 _ _ _) | refine r_step rfl rfl ?_ | with_reducible refine r_i_eq (fun c => ?_) (fun c => ?_) | with_reducible refine r_i_ne (fun c => ?_) (fun c => ?_) | with_reducible refine r_i_lt (fun c => ?_) (fun c => ?_) | with_reducible refine r_i_ge (fun c => ?_) (fun c => ?_) | with_reducible refine r_i_gt (fun c => ?_) (fun c => ?_) | with_reducible refine r_i_le (fun c => ?_) (fun c => ?_))
  all_goals simp only [wT2, *, if_true, if_false, hPut_at, hPut_eq, hRow_at, hRow_row, true_or, or_true, false_or, not_true_eq_false, not_false_eq_true]
set_option maxHeartbeats 4000000 in
set_option maxRecDepth 100000 in
theorem e_turn (c : Nat) (lim : Int32) (S : hS) : Ev 93 [.inr (some (8, c)), .inl lim] S (none, hRow S c (wTurn lim (S.2.1 c))) := by
  show Rn hc_X8_turn 0 [some (.inr (some (8, c))), some (.inl lim), none] [] S _
  repeat' (first | refine r_eq ?_ (e_t20 _ _ _) | refine r_step rfl rfl ?_ | refine r_call rfl rfl (e_isWound _ _ _) ?_ | with_reducible refine r_i_eq (fun c => ?_) (fun c => ?_) | with_reducible refine r_i_ne (fun c => ?_) (fun c => ?_) | with_reducible refine r_i_lt (fun c => ?_) (fun c => ?_) | with_reducible refine r_i_ge (fun c => ?_) (fun c => ?_) | with_reducible refine r_i_gt (fun c => ?_) (fun c => ?_) | with_reducible refine r_i_le (fun c => ?_) (fun c => ?_))
  all_goals simp only [wTurn, wT1, *, if_true, if_false, hPut_at, hPut_eq, hRow_at, hRow_row, true_and, and_true, false_and, and_false, not_true_eq_false, not_false_eq_true]
/-- the tick -/
def wS1 (st w : Nat → Int32) : Nat → Int32 := upd w 11 (if w 4 < st 2 then 0 else if st 3 ≤ w 4 then 0 else w 11 + 1)
def wS2 (st w : Nat → Int32) : Nat → Int32 := upd w 12 (if w 4 < st 3 then 0 else w 12 + 1)
def wS3 (w : Nat → Int32) : Nat → Int32 := upd w 13 (if w 9 = 0 then w 13 + 1 else 0)
def wS4 (st w : Nat → Int32) : Nat → Int32 := upd w 0 (wMode st w)
def wS5 (st w : Nat → Int32) : Nat → Int32 := upd w 2 (wNear (w 2) (wPitchAim st w) (if w 0 = 5 then 2 * st 5 else st 5))
def wS6 (st w : Nat → Int32) : Nat → Int32 := upd w 3 (if w 9 = 0 then 0 else wNear (w 3) (wTorqueAim st w) 10)
def wS7 (e : Int32) (w : Nat → Int32) : Nat → Int32 := upd w 1 (jmax 0 (w 1 + jfdiv (wDrive w e - w 3 - wDrag w) 8))
def wS8 (e : Int32) (w : Nat → Int32) : Nat → Int32 := upd w 14 (if e ≤ 2 then 0 else w 14 + 1)
def wEnd (st w : Nat → Int32) : Nat → Int32 := wTurn (st 4) (wS8 (wError w) (wS7 (wError w) w))
def wStep (st w : Nat → Int32) : Nat → Int32 := wEnd st (wS6 st (wS5 st (wS4 st (wS3 (wS2 st (wS1 st w))))))
theorem isMode_wMode {st w : Nat → Int32} (h : isMode (w 0)) : isMode (wMode st w) := by
  unfold wMode
  split
  · exact Or.inr (Or.inr (Or.inr (Or.inr (Or.inr rfl))))
  split
  · exact Or.inr (Or.inr (Or.inr (Or.inr (Or.inl rfl))))
  repeat' split
  all_goals first | exact h | exact Or.inl rfl | exact Or.inr (Or.inl rfl) | exact Or.inr (Or.inr (Or.inl rfl)) | exact Or.inr (Or.inr (Or.inr (Or.inl rfl))) | exact Or.inr (Or.inr (Or.inr (Or.inr (Or.inl rfl))))
section
variable (c cs : Nat) (S : hS) (hne : cs ≠ c)
set_option maxHeartbeats 4000000 in
set_option maxRecDepth 100000 in
theorem e_s214 (e : Int32) : Rn hc_X8_step 214 [some (.inr (some (8, c))), some (.inr (some (5, cs))), some (.inl e)] [] S (none, hRow S c (wTurn (S.2.1 cs 4) (S.2.1 c))) := by
  repeat' (first | refine r_step rfl rfl ?_ | refine r_callv rfl rfl (e_turn _ _ _) ?_ | with_reducible refine r_i_eq (fun c => ?_) (fun c => ?_) | with_reducible refine r_i_ne (fun c => ?_) (fun c => ?_) | with_reducible refine r_i_lt (fun c => ?_) (fun c => ?_) | with_reducible refine r_i_ge (fun c => ?_) (fun c => ?_) | with_reducible refine r_i_gt (fun c => ?_) (fun c => ?_) | with_reducible refine r_i_le (fun c => ?_) (fun c => ?_))
  exact r_retn rfl rfl
set_option maxHeartbeats 4000000 in
set_option maxRecDepth 100000 in
theorem e_s195 (hne : cs ≠ c) (e : Int32) : Rn hc_X8_step 195 [some (.inr (some (8, c))), some (.inr (some (5, cs))), some (.inl e)] [] S (none, hRow S c (wTurn (S.2.1 cs 4) (wS8 e (S.2.1 c)))) := by
  repeat' (first | refine r_eq ?_ (e_s214 _ _ _ _) | refine r_step rfl rfl ?_ | with_reducible refine r_i_eq (fun c => ?_) (fun c => ?_) | with_reducible refine r_i_ne (fun c => ?_) (fun c => ?_) | with_reducible refine r_i_lt (fun c => ?_) (fun c => ?_) | with_reducible refine r_i_ge (fun c => ?_) (fun c => ?_) | with_reducible refine r_i_gt (fun c => ?_) (fun c => ?_) | with_reducible refine r_i_le (fun c => ?_) (fun c => ?_))
  all_goals simp only [wS8, *, if_true, if_false, hPut_at, hPut_ne hne, hPut_eq, hRow_at, hRow_row, hRow_ne _ _ hne]
set_option maxHeartbeats 4000000 in
set_option maxRecDepth 100000 in
theorem e_s157 (hne : cs ≠ c) : Rn hc_X8_step 157 [some (.inr (some (8, c))), some (.inr (some (5, cs))), none] [] S (none, hRow S c (wEnd (S.2.1 cs) (S.2.1 c))) := by
  repeat' (first | refine r_eq ?_ (e_s195 _ _ _ hne _) | refine r_step rfl rfl ?_ | refine r_call rfl rfl (e_error _ _) ?_ | refine r_call rfl rfl (e_drive _ _ _) ?_ | refine r_call rfl rfl (e_drag _ _) ?_ | refine r_call rfl rfl (e_max _ _ _) ?_ | refine r_call rfl rfl (e_floorDiv _ _ _ (by decide)) ?_ | with_reducible refine r_i_eq (fun c => ?_) (fun c => ?_) | with_reducible refine r_i_ne (fun c => ?_) (fun c => ?_) | with_reducible refine r_i_lt (fun c => ?_) (fun c => ?_) | with_reducible refine r_i_ge (fun c => ?_) (fun c => ?_) | with_reducible refine r_i_gt (fun c => ?_) (fun c => ?_) | with_reducible refine r_i_le (fun c => ?_) (fun c => ?_))
  all_goals simp only [wEnd, wS7, hPut_at, hPut_ne hne, hPut_eq, hRow_at, hRow_row, hRow_ne _ _ hne]
set_option maxHeartbeats 4000000 in
set_option maxRecDepth 100000 in
theorem e_s128 (hne : cs ≠ c) (hm : isMode (S.2.1 c 0)) : Rn hc_X8_step 128 [some (.inr (some (8, c))), some (.inr (some (5, cs))), none] [] S (none, hRow S c (wEnd (S.2.1 cs) (wS6 (S.2.1 cs) (S.2.1 c)))) := by
  repeat' (first | refine r_eq ?_ (e_s157 _ _ _ hne) | refine r_step rfl rfl ?_ | refine r_call rfl rfl (e_torqueAim _ _ _ hm) ?_ | refine r_call rfl rfl (e_nearer _ _ _ _) ?_ | with_reducible refine r_i_eq (fun c => ?_) (fun c => ?_) | with_reducible refine r_i_ne (fun c => ?_) (fun c => ?_) | with_reducible refine r_i_lt (fun c => ?_) (fun c => ?_) | with_reducible refine r_i_ge (fun c => ?_) (fun c => ?_) | with_reducible refine r_i_gt (fun c => ?_) (fun c => ?_) | with_reducible refine r_i_le (fun c => ?_) (fun c => ?_))
  all_goals simp only [wS6, *, if_true, if_false, hPut_at, hPut_ne hne, hPut_eq, hRow_at, hRow_row, hRow_ne _ _ hne]
set_option maxHeartbeats 4000000 in
set_option maxRecDepth 100000 in
theorem e_s91 (hne : cs ≠ c) (hm : isMode (S.2.1 c 0)) : Rn hc_X8_step 91 [some (.inr (some (8, c))), some (.inr (some (5, cs))), none] [] S (none, hRow S c (wEnd (S.2.1 cs) (wS6 (S.2.1 cs) (wS5 (S.2.1 cs) (S.2.1 c))))) := by
  repeat' (first | refine r_eq ?_ (e_s128 _ _ _ hne (by rw [hPut_at]; exact hm)) | refine r_step rfl rfl ?_ | refine r_call rfl rfl (e_pitchAim _ _ _ hm) ?_ | refine r_call rfl rfl (e_nearer _ _ _ _) ?_ | with_reducible refine r_i_eq (fun c => ?_) (fun c => ?_) | with_reducible refine r_i_ne (fun c => ?_) (fun c => ?_) | with_reducible refine r_i_lt (fun c => ?_) (fun c => ?_) | with_reducible refine r_i_ge (fun c => ?_) (fun c => ?_) | with_reducible refine r_i_gt (fun c => ?_) (fun c => ?_) | with_reducible refine r_i_le (fun c => ?_) (fun c => ?_))
  all_goals simp only [wS5, *, if_true, if_false, hPut_at, hPut_ne hne, hPut_eq, hRow_at, hRow_row, hRow_ne _ _ hne]
set_option maxHeartbeats 4000000 in
set_option maxRecDepth 100000 in
theorem e_s82 (hne : cs ≠ c) (hm : isMode (S.2.1 c 0)) : Rn hc_X8_step 82 [some (.inr (some (8, c))), some (.inr (some (5, cs))), none] [] S (none, hRow S c (wEnd (S.2.1 cs) (wS6 (S.2.1 cs) (wS5 (S.2.1 cs) (wS4 (S.2.1 cs) (S.2.1 c)))))) := by
  repeat' (first | refine r_eq ?_ (e_s91 _ _ _ hne (by rw [hPut_at, pk_us]; exact isMode_wMode hm)) | refine r_step rfl rfl ?_ | refine r_call rfl rfl (e_nextMode _ _ _ hm) ?_ | with_reducible refine r_i_eq (fun c => ?_) (fun c => ?_) | with_reducible refine r_i_ne (fun c => ?_) (fun c => ?_) | with_reducible refine r_i_lt (fun c => ?_) (fun c => ?_) | with_reducible refine r_i_ge (fun c => ?_) (fun c => ?_) | with_reducible refine r_i_gt (fun c => ?_) (fun c => ?_) | with_reducible refine r_i_le (fun c => ?_) (fun c => ?_))
  all_goals simp only [wS4, hPut_at, hPut_ne hne, hPut_eq, hRow_at, hRow_row, hRow_ne _ _ hne]
set_option maxHeartbeats 4000000 in
set_option maxRecDepth 100000 in
theorem e_s61 (hne : cs ≠ c) (hm : isMode (S.2.1 c 0)) : Rn hc_X8_step 61 [some (.inr (some (8, c))), some (.inr (some (5, cs))), none] [] S (none, hRow S c (wEnd (S.2.1 cs) (wS6 (S.2.1 cs) (wS5 (S.2.1 cs) (wS4 (S.2.1 cs) (wS3 (S.2.1 c))))))) := by
  repeat' (first | refine r_eq ?_ (e_s82 _ _ _ hne (by rw [hPut_at]; exact hm)) | refine r_step rfl rfl ?_ | with_reducible refine r_i_eq (fun c => ?_) (fun c => ?_) | with_reducible refine r_i_ne (fun c => ?_) (fun c => ?_) | with_reducible refine r_i_lt (fun c => ?_) (fun c => ?_) | with_reducible refine r_i_ge (fun c => ?_) (fun c => ?_) | with_reducible refine r_i_gt (fun c => ?_) (fun c => ?_) | with_reducible refine r_i_le (fun c => ?_) (fun c => ?_))
  all_goals simp only [wS3, *, if_true, if_false, hPut_at, hPut_ne hne, hPut_eq, hRow_at, hRow_row, hRow_ne _ _ hne]
set_option maxHeartbeats 4000000 in
set_option maxRecDepth 100000 in
theorem e_s36 (hne : cs ≠ c) (hm : isMode (S.2.1 c 0)) : Rn hc_X8_step 36 [some (.inr (some (8, c))), some (.inr (some (5, cs))), none] [] S (none, hRow S c (wEnd (S.2.1 cs) (wS6 (S.2.1 cs) (wS5 (S.2.1 cs) (wS4 (S.2.1 cs) (wS3 (wS2 (S.2.1 cs) (S.2.1 c)))))))) := by
  repeat' (first | refine r_eq ?_ (e_s61 _ _ _ hne (by rw [hPut_at]; exact hm)) | refine r_step rfl rfl ?_ | with_reducible refine r_i_eq (fun c => ?_) (fun c => ?_) | with_reducible refine r_i_ne (fun c => ?_) (fun c => ?_) | with_reducible refine r_i_lt (fun c => ?_) (fun c => ?_) | with_reducible refine r_i_ge (fun c => ?_) (fun c => ?_) | with_reducible refine r_i_gt (fun c => ?_) (fun c => ?_) | with_reducible refine r_i_le (fun c => ?_) (fun c => ?_))
  all_goals simp only [wS2, *, if_true, if_false, hPut_at, hPut_ne hne, hPut_eq, hRow_at, hRow_row, hRow_ne _ _ hne]
set_option maxHeartbeats 4000000 in
set_option maxRecDepth 100000 in
theorem e_step (hne : cs ≠ c) (hm : isMode (S.2.1 c 0)) : Ev 111 [.inr (some (8, c)), .inr (some (5, cs))] S (none, hRow S c (wStep (S.2.1 cs) (S.2.1 c))) := by
  show Rn hc_X8_step 0 [some (.inr (some (8, c))), some (.inr (some (5, cs))), none] [] S _
  repeat' (first | refine r_eq ?_ (e_s36 _ _ _ hne (by rw [hPut_at]; exact hm)) | refine r_step rfl rfl ?_ | with_reducible refine r_i_eq (fun c => ?_) (fun c => ?_) | with_reducible refine r_i_ne (fun c => ?_) (fun c => ?_) | with_reducible refine r_i_lt (fun c => ?_) (fun c => ?_) | with_reducible refine r_i_ge (fun c => ?_) (fun c => ?_) | with_reducible refine r_i_gt (fun c => ?_) (fun c => ?_) | with_reducible refine r_i_le (fun c => ?_) (fun c => ?_))
  all_goals simp only [wStep, wS1, *, if_true, if_false, hPut_at, hPut_ne hne, hPut_eq, hRow_at, hRow_row, hRow_ne _ _ hne]
end
