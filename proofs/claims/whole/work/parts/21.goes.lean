/-! One tick: the model's is the class's. -/
theorem near_rng {v a m : Int32} {lo hi : Int} (hv : bt v lo hi) (ha : bt a lo hi) (hm : bt m 0 1000) (hlo : -1000 ≤ lo) (hhi : hi ≤ 1000) : bt (wNear v a m) lo hi := by
  have e := near_i (v := v) (a := a) (m := m) ⟨by have := hv.1; omega, by have := hv.2; omega⟩ ⟨by have := ha.1; omega, by have := ha.2; omega⟩ ⟨hm.1, by have := hm.2; omega⟩
  obtain ⟨v1, v2⟩ := hv
  obtain ⟨a1, a2⟩ := ha
  obtain ⟨m1, m2⟩ := hm
  unfold bt
  rw [e]
  repeat' split
  all_goals omega
theorem rate_rng {st : Nat → Int32} (h5 : bt (st 5) 1 9) (c : Prop) [Decidable c] : bt (if c then 2 * st 5 else st 5) 1 18 := by
  obtain ⟨a1, a2⟩ := h5
  have l2 : (2 : Int32).toInt = 2 := rfl
  have e : (2 * st 5).toInt = 2 * (st 5).toInt := by rw [i_mul (by rw [l2]; omega) (by rw [l2]; omega), l2]
  unfold bt
  split
  · rw [e]; omega
  · omega
theorem bt.mono {x : Int32} {a b c d : Int} (h : bt x a b) (h1 : c ≤ a) (h2 : b ≤ d) : bt x c d := ⟨Int.le_trans h1 h.1, Int.le_trans h.2 h2⟩
/-- a wheel's ranges behind the mode's change: the mode apart, as ahead of it -/
def bRng (st b : Nat → Int32) : Prop := bt (b 1) 0 999 ∧ bt (b 2) 0 90 ∧ bt (b 3) 0 100 ∧ bt (b 4) 0 40 ∧ bt (b 5) 0 35 ∧ bt (b 6) 0 35 ∧ bt (b 7) (-(st 4).toInt) (st 4).toInt ∧ bt (b 8) 0 5 ∧ isB (b 15) ∧ (b 0 = 2 → (b 1).toInt ≤ 200)
theorem bt10 : bt 10 0 1000 := ⟨by decide, by decide⟩
theorem h1_eq {st b : Nat → Int32} (hs : okSet st) (hr : bRng st b) : mH1 st b = wS5 st b ∧ bt (wS5 st b 2) 0 90 := by
  obtain ⟨s0, s1, s2, s3, s4, s5⟩ := hs
  obtain ⟨r1, r2, r3, r4, r5, r6, r7, r8, r15, rs⟩ := hr
  have aim := aim_rng (st := st) (w := b) s0 r1 r2
  have rt := rate_rng s5 (b 0 = 5)
  constructor
  · unfold mH1 wS5
    rw [mPG_eq, mTow_eq (r2.mono (by omega) (by omega)) (aim.mono (by omega) (by omega)) (rt.mono (by omega) (by omega))]
  · exact near_rng r2 aim (rt.mono (by omega) (by omega)) (by omega) (by omega)
theorem goal_eq (st c : Nat → Int32) : mGoal st c = wTorqueAim st c := rfl
theorem h2_eq {st c : Nat → Int32} (hs : okSet st) (hc3 : bt (c 3) 0 100) (hc1 : bt (c 1) 0 999) (rs : c 0 = 2 → (c 1).toInt ≤ 200) : mH2 st c = wS6 st c ∧ bt (wS6 st c 3) 0 100 := by
  obtain ⟨s0, s1, s2, s3, s4, s5⟩ := hs
  have tor := tor_rng (st := st) (w := c) s0 hc1 rs
  constructor
  · unfold mH2 wS6
    rw [goal_eq, mTow_eq (hc3.mono (by omega) (by omega)) (tor.mono (by omega) (by omega)) (bt10.mono (by omega) (by omega))]
  · show bt (if c 9 = 0 then 0 else wNear (c 3) (wTorqueAim st c) 10) 0 100
    split
    · exact ⟨by decide, by decide⟩
    · exact near_rng hc3 tor bt10 (by omega) (by omega)
theorem more_rng {st d : Nat → Int32} (d1 : bt (d 1) 0 999) (d2 : bt (d 2) 0 90) (d3 : bt (d 3) 0 100) (d4 : bt (d 4) 0 40) (d5 : bt (d 5) 0 35) (d6 : bt (d 6) 0 35) (d8 : bt (d 8) 0 5) : bt (wDrive d (wError d) - d 3 - wDrag d) (-1000) 1000 ∧ (wDrive d (wError d) - d 3 - wDrag d).toInt = (wDrive d (wError d)).toInt - (d 3).toInt - (if (d 1).toInt = 0 then 0 else (d 1).toInt / 10 + 1) ∧ 0 ≤ (wDrive d (wError d)).toInt ∧ 9 * (wDrive d (wError d)).toInt ≤ 20 * (90 - (d 2).toInt) := by
  have de := err_eq (w := d) d5 d6
  have dr := drive_i (w := d) (e := wError d) d2 d4 d8 de.2.2
  have dg := drag_i (w := d) d1
  obtain ⟨x1, x2⟩ := dr
  obtain ⟨y1, y2⟩ := d3
  obtain ⟨p1, p2⟩ := d2
  obtain ⟨a1, a2⟩ := d1
  have dgr : 0 ≤ (wDrag d).toInt ∧ (wDrag d).toInt ≤ 101 := by
    rw [dg]
    split <;> omega
  have e1 : (wDrive d (wError d) - d 3).toInt = (wDrive d (wError d)).toInt - (d 3).toInt := i_sub (by omega) (by omega)
  have e2 : (wDrive d (wError d) - d 3 - wDrag d).toInt = (wDrive d (wError d)).toInt - (d 3).toInt - (wDrag d).toInt := by rw [i_sub (by rw [e1]; omega) (by rw [e1]; omega), e1]
  refine ⟨?_, by rw [e2, dg], x1, x2⟩
  unfold bt
  rw [e2]
  omega
theorem h34_eq {d : Nat → Int32} (d5 : bt (d 5) 0 35) (d6 : bt (d 6) 0 35) (more : bt (wDrive d (wError d) - d 3 - wDrag d) (-1000) 1000) : mH4 (mH3 d) = wS7 (wError d) d := by
  have e0 : mDrag d = wDrag d := rfl
  have e1 : mH3 d = upd d 1 (d 1 + jfdiv (wDrive d (wError d) - d 3 - wDrag d) 8) := by
    unfold mH3
    rw [mDrive_eq d5 d6, e0, mFl_eq more]
  unfold mH4 wS7
  rw [e1, pk_us, upd_upd, jmax0]
theorem wError_congr {u v : Nat → Int32} (h5 : u 5 = v 5) (h6 : u 6 = v 6) : wError u = wError v := by
  unfold wError wAhead
  rw [h5, h6]
theorem holds_eq {st b : Nat → Int32} (hs : okSet st) (hr : bRng st b) : mHolds st b = wS7 (wError b) (wS6 st (wS5 st b)) ∧ bt (wS5 st b 2) 0 90 ∧ bt (wS6 st (wS5 st b) 3) 0 100 := by
  obtain ⟨e1, c2⟩ := h1_eq hs hr
  obtain ⟨r1, r2, r3, r4, r5, r6, r7, r8, r15, rs⟩ := hr
  have n5 : ∀ k, k ≠ 2 → wS5 st b k = b k := fun k h => pk_un h
  have n6 : ∀ k, k ≠ 2 → k ≠ 3 → wS6 st (wS5 st b) k = b k := fun k h h' => (pk_un h').trans (n5 k h)
  obtain ⟨e2, d3⟩ := h2_eq (c := wS5 st b) hs (by rw [n5 3 (by decide)]; exact r3) (by rw [n5 1 (by decide)]; exact r1) (by rw [n5 0 (by decide), n5 1 (by decide)]; exact rs)
  have q2 : wS6 st (wS5 st b) 2 = wS5 st b 2 := pk_un (by decide)
  have mr := more_rng (st := st) (d := wS6 st (wS5 st b)) (by rw [n6 1 (by decide) (by decide)]; exact r1) (by rw [q2]; exact c2) d3 (by rw [n6 4 (by decide) (by decide)]; exact r4) (by rw [n6 5 (by decide) (by decide)]; exact r5) (by rw [n6 6 (by decide) (by decide)]; exact r6) (by rw [n6 8 (by decide) (by decide)]; exact r8)
  have e3 := h34_eq (d := wS6 st (wS5 st b)) (by rw [n6 5 (by decide) (by decide)]; exact r5) (by rw [n6 6 (by decide) (by decide)]; exact r6) mr.1
  have e5 : wS6 st (wS5 st b) 5 = b 5 := n6 5 (by decide) (by decide)
  have e6 : wS6 st (wS5 st b) 6 = b 6 := n6 6 (by decide) (by decide)
  unfold mHolds
  rw [e1, e2, e3, wError_congr e5 e6]
  exact ⟨rfl, c2, d3⟩
theorem looks_eq {st f : Nat → Int32} {e : Int32} (hs : okSet st) (h5 : bt (f 5) 0 35) (h6 : bt (f 6) 0 35) (h7 : bt (f 7) (-1000) 1000) (hb : isB (f 15)) : mLooks st f e = wTurn (st 4) (wS8 e f) := by
  have e1 : mL1 e f = wS8 e f := rfl
  unfold mLooks
  rw [e1]
  exact turn_eq hs.2.2.2.2.1 h7 h5 h6 hb
/-- what a tick comes to -/
theorem goes_eq {st w : Nat → Int32} (hs : okSet st) (hr : wRng st w) : mGoes st w = upd (wStep st w) 17 (w 17 + (if wMode st (wS3 (wS2 st (wS1 st w))) = 5 then (if w 0 = 5 then 0 else 1) else 0)) ∧ bt (wS5 st (wS4 st (wS3 (wS2 st (wS1 st w)))) 2) 0 90 ∧ bt (wS6 st (wS5 st (wS4 st (wS3 (wS2 st (wS1 st w))))) 3) 0 100 := by
  obtain ⟨r0, r1, r2, r3, r4, r5, r6, r7, r8, r9, r10, r15⟩ := hr
  have s4 := hs.2.2.2.2.1
  have r7' : bt (w 7) (-1000) 1000 := ⟨by have := r7.1; have := s4.2; omega, by have := r7.2; have := s4.2; omega⟩
  have ha : mCounts st w = wS3 (wS2 st (wS1 st w)) := by unfold mCounts; rw [mC1_eq hs.2.2.2.1]; rfl
  have hk : ∀ k, k ≠ 11 → k ≠ 12 → k ≠ 13 → wS3 (wS2 st (wS1 st w)) k = w k := by
    intro k a b c
    unfold wS3 wS2 wS1
    rw [pk_un c, pk_un b, pk_un a]
  unfold mGoes wStep
  rw [ha]
  generalize wS3 (wS2 st (wS1 st w)) = a at *
  have qm : mMode st a = wMode st a := mMode_eq (mWd_eq s4 (by rw [hk 7 (by decide) (by decide) (by decide)]; exact r7')) (by rw [hk 10 (by decide) (by decide) (by decide)]; exact r10)
  have k0 := hk 0 (by decide) (by decide) (by decide)
  have hb : mG1 st a = upd (wS4 st a) 17 (w 17 + (if wMode st a = 5 then (if w 0 = 5 then 0 else 1) else 0)) := by
    unfold mG1 wS4
    rw [qm, upd_comm _ _ _ (show 17 ≠ 0 by decide), k0, hk 17 (by decide) (by decide) (by decide)]
  have hB : bRng st (wS4 st a) := by
    have ne : ∀ k, k ≠ 0 → wS4 st a k = a k := fun k h => pk_un h
    unfold bRng
    rw [ne 1 (by decide), ne 2 (by decide), ne 3 (by decide), ne 4 (by decide), ne 5 (by decide), ne 6 (by decide), ne 7 (by decide), ne 8 (by decide), ne 15 (by decide)]
    rw [hk 1 (by decide) (by decide) (by decide), hk 2 (by decide) (by decide) (by decide), hk 3 (by decide) (by decide) (by decide), hk 4 (by decide) (by decide) (by decide), hk 5 (by decide) (by decide) (by decide), hk 6 (by decide) (by decide) (by decide), hk 7 (by decide) (by decide) (by decide), hk 8 (by decide) (by decide) (by decide), hk 15 (by decide) (by decide) (by decide)]
    refine ⟨r1, r2, r3, r4, r5, r6, r7, r8, r15, fun h => ?_⟩
    have h : wMode st a = 2 := by
      have e : wS4 st a 0 = wMode st a := pk_us
      rw [← e]; exact h
    have q0 : isMode (a 0) := by rw [k0]; exact r0
    have k : a 1 ≤ st 1 := mode_slow q0 (Or.inl h)
    rw [hk 1 (by decide) (by decide) (by decide), i_le] at k
    have := hs.2.1.2
    omega
  rw [hb, u17_holds, u17_looks]
  have he : mErr (upd (wS4 st a) 17 (w 17 + (if wMode st a = 5 then (if w 0 = 5 then 0 else 1) else 0))) = mErr (wS4 st a) := by
    unfold mErr
    rw [pk_un (show 5 ≠ 17 by decide), pk_un (show 6 ≠ 17 by decide)]
  rw [he]
  generalize wS4 st a = b at *
  obtain ⟨g1, g2, g3⟩ := holds_eq hs hB
  obtain ⟨b1, b2, b3, b4, b5, b6, b7, b8, b15, bs⟩ := hB
  refine ⟨?_, g2, g3⟩
  congr 1
  rw [g1, (err_eq b5 b6).1]
  have n6 : ∀ k, k ≠ 2 → k ≠ 3 → wS6 st (wS5 st b) k = b k := by
    intro k h2 h3
    unfold wS6 wS5
    rw [pk_un h3, pk_un h2]
  have n7 : ∀ k, k ≠ 1 → k ≠ 2 → k ≠ 3 → wS7 (wError b) (wS6 st (wS5 st b)) k = b k := by
    intro k h1 h2 h3
    unfold wS7
    rw [pk_un h1, n6 k h2 h3]
  rw [looks_eq hs (by rw [n7 5 (by decide) (by decide) (by decide)]; exact b5) (by rw [n7 6 (by decide) (by decide) (by decide)]; exact b6) (by rw [n7 7 (by decide) (by decide) (by decide)]; exact ⟨by have := b7.1; have := s4.2; omega, by have := b7.2; have := s4.2; omega⟩) (by rw [n7 15 (by decide) (by decide) (by decide)]; exact b15)]
  unfold wEnd
  rw [wError_congr (n6 5 (by decide) (by decide)) (n6 6 (by decide) (by decide))]
