theorem rate_i {st : Nat → Int32} (h5 : bt (st 5) 1 9) : (2 * st 5).toInt = 2 * (st 5).toInt := by
  obtain ⟨a1, a2⟩ := h5
  have l2 : (2 : Int32).toInt = 2 := rfl
  rw [i_mul (by rw [l2]; omega) (by rw [l2]; omega), l2]
/-- the pitch behind a tick, by the mode -/
theorem pitch_i {st b : Nat → Int32} (hs : okSet st) (r1 : bt (b 1) 0 999) (r2 : bt (b 2) 0 90) : (b 0 = 0 → ((b 2).toInt + 1 ≤ (wS5 st b 2).toInt ∨ (wS5 st b 2).toInt = 90)) ∧ (b 0 = 1 → (b 2).toInt ≤ (wS5 st b 2).toInt + 9) ∧ (b 0 = 5 → ((b 2).toInt + 2 ≤ (wS5 st b 2).toInt ∨ (wS5 st b 2).toInt = 90)) := by
  have e0 : wS5 st b 2 = wNear (b 2) (wPitchAim st b) (if b 0 = 5 then 2 * st 5 else st 5) := pk_us
  have s5 := hs.2.2.2.2.2
  have e2 := rate_i s5
  have aim := aim_rng (st := st) (w := b) hs.1 r1 r2
  have rt := rate_rng s5 (b 0 = 5)
  have e1 := near_i (v := b 2) (a := wPitchAim st b) (m := if b 0 = 5 then 2 * st 5 else st 5) (r2.mono (by omega) (by omega)) (aim.mono (by omega) (by omega)) (rt.mono (by omega) (by omega))
  rw [← e0] at e1
  obtain ⟨p1, p2⟩ := r2
  obtain ⟨a1, a2⟩ := s5
  have l90 : (90 : Int32).toInt = 90 := rfl
  have l20 : (20 : Int32).toInt = 20 := rfl
  refine ⟨fun h => ?_, fun h => ?_, fun h => ?_⟩
  · have k : wPitchAim st b = 90 := by
      unfold wPitchAim
      rw [h, if_neg (by decide), if_neg (by decide), if_neg (by decide)]
    have kR : (if b 0 = 5 then 2 * st 5 else st 5) = st 5 := if_neg (by rw [h]; decide)
    rw [k, kR, l90] at e1
    rw [e1]
    repeat' split
    all_goals omega
  · have k : wPitchAim st b = 20 := by
      unfold wPitchAim
      rw [if_pos h]
    have kR : (if b 0 = 5 then 2 * st 5 else st 5) = st 5 := if_neg (by rw [h]; decide)
    rw [k, kR, l20] at e1
    rw [e1]
    repeat' split
    all_goals omega
  · have k : wPitchAim st b = 90 := by
      unfold wPitchAim
      rw [h, if_neg (by decide), if_neg (by decide), if_neg (by decide)]
    have kR : (if b 0 = 5 then 2 * st 5 else st 5) = 2 * st 5 := if_pos h
    rw [k, kR, e2, l90] at e1
    rw [e1]
    repeat' split
    all_goals omega
theorem speed_i {d : Nat → Int32} (d1 : bt (d 1) 0 999) (d2 : bt (d 2) 0 90) (d3 : bt (d 3) 0 100) (d4 : bt (d 4) 0 40) (d5 : bt (d 5) 0 35) (d6 : bt (d 6) 0 35) (d8 : bt (d 8) 0 5) : ∃ D G : Int, 0 ≤ D ∧ 9 * D ≤ 20 * (90 - (d 2).toInt) ∧ G = (if (d 1).toInt = 0 then 0 else (d 1).toInt / 10 + 1) ∧ (wS7 (wError d) d 1).toInt = if 0 < (d 1).toInt + (D - (d 3).toInt - G) / 8 then (d 1).toInt + (D - (d 3).toInt - G) / 8 else 0 := by
  obtain ⟨m1, m2, m3, m4⟩ := more_rng (st := d) d1 d2 d3 d4 d5 d6 d8
  refine ⟨_, _, m3, m4, rfl, ?_⟩
  have e0 : wS7 (wError d) d 1 = jmax 0 (d 1 + jfdiv (wDrive d (wError d) - d 3 - wDrag d) 8) := pk_us
  have e1 := fd_i m1
  rw [m2] at e1
  obtain ⟨q1, q2⟩ := m1
  rw [m2] at q1 q2
  obtain ⟨a1, a2⟩ := d1
  have e2 : (d 1 + jfdiv (wDrive d (wError d) - d 3 - wDrag d) 8).toInt = (d 1).toInt + ((wDrive d (wError d)).toInt - (d 3).toInt - (if (d 1).toInt = 0 then 0 else (d 1).toInt / 10 + 1)) / 8 := by rw [i_add (by rw [e1]; omega) (by rw [e1]; omega), e1]
  rw [e0, jmax_i, e2, i_z]
/-- A TICK KEEPS WHAT IS SO -/
theorem step_inv {st w : Nat → Int32} (hs : okSet st) (hr : wRng st w) (hp : wPot w) : wRng st (wStep st w) ∧ wPot (wStep st w) ∧ (∀ k, 16 ≤ k → wStep st w k = w k) ∧ wStep st w 0 = wMode st (wS3 (wS2 st (wS1 st w))) ∧ wStep st w 4 = w 4 ∧ wStep st w 5 = w 5 ∧ wStep st w 8 = w 8 ∧ wStep st w 9 = w 9 ∧ wStep st w 10 = w 10 := by
  obtain ⟨-, c2, d3⟩ := goes_eq hs hr
  obtain ⟨r0, r1, r2, r3, r4, r5, r6, r7, r8, r9, r10, r15⟩ := hr
  have s4 := hs.2.2.2.2.1
  have hk : ∀ k, k ≠ 11 → k ≠ 12 → k ≠ 13 → wS3 (wS2 st (wS1 st w)) k = w k := by
    intro k a b c
    unfold wS3 wS2 wS1
    rw [pk_un c, pk_un b, pk_un a]
  unfold wStep
  generalize wS3 (wS2 st (wS1 st w)) = a at *
  have a0 := hk 0 (by decide) (by decide) (by decide)
  have a1 := hk 1 (by decide) (by decide) (by decide)
  have a2 := hk 2 (by decide) (by decide) (by decide)
  have hm : isMode (wMode st a) := isMode_wMode (by rw [a0]; exact r0)
  have tr := mode_trans (st := st) (w := a) (by rw [a0]; exact r0)
  rw [a0, a1, a2] at tr
  have hb : ∀ k, k ≠ 0 → k ≠ 11 → k ≠ 12 → k ≠ 13 → wS4 st a k = w k := fun k h x y z => (pk_un h).trans (hk k x y z)
  have b0 : wS4 st a 0 = wMode st a := pk_us
  generalize wMode st a = m at *
  generalize wS4 st a = b at *
  have b1 := hb 1 (by decide) (by decide) (by decide) (by decide)
  have b2 := hb 2 (by decide) (by decide) (by decide) (by decide)
  have pi := pitch_i (st := st) (b := b) hs (by rw [b1]; exact r1) (by rw [b2]; exact r2)
  rw [b0, b2] at pi
  have hd : ∀ k, k ≠ 2 → k ≠ 3 → wS6 st (wS5 st b) k = b k := fun k x y => (pk_un y).trans (pk_un x)
  have d2 : wS6 st (wS5 st b) 2 = wS5 st b 2 := pk_un (by decide)
  generalize wS5 st b 2 = P at *
  generalize wS6 st (wS5 st b) = d at *
  have dk : ∀ k, k ≠ 0 → k ≠ 2 → k ≠ 3 → k ≠ 11 → k ≠ 12 → k ≠ 13 → d k = w k := fun k x0 x2 x3 x y z => (hd k x2 x3).trans (hb k x0 x y z)
  have d0 : d 0 = m := (hd 0 (by decide) (by decide)).trans b0
  have q1 := dk 1 (by decide) (by decide) (by decide) (by decide) (by decide) (by decide)
  have q4 := dk 4 (by decide) (by decide) (by decide) (by decide) (by decide) (by decide)
  have q5 := dk 5 (by decide) (by decide) (by decide) (by decide) (by decide) (by decide)
  have q6 := dk 6 (by decide) (by decide) (by decide) (by decide) (by decide) (by decide)
  have q7 := dk 7 (by decide) (by decide) (by decide) (by decide) (by decide) (by decide)
  have q8 := dk 8 (by decide) (by decide) (by decide) (by decide) (by decide) (by decide)
  have q9 := dk 9 (by decide) (by decide) (by decide) (by decide) (by decide) (by decide)
  have q10 := dk 10 (by decide) (by decide) (by decide) (by decide) (by decide) (by decide)
  have q15 := dk 15 (by decide) (by decide) (by decide) (by decide) (by decide) (by decide)
  obtain ⟨D, G, D1, D2, hG, hV⟩ := speed_i (d := d) (by rw [q1]; exact r1) (by rw [d2]; exact c2) d3 (by rw [q4]; exact r4) (by rw [q5]; exact r5) (by rw [q6]; exact r6) (by rw [q8]; exact r8)
  rw [q1] at hG hV
  rw [d2] at D2
  unfold wEnd
  have f1 : wS8 (wError d) (wS7 (wError d) d) 1 = wS7 (wError d) d 1 := pk_un (by decide)
  have fk : ∀ k, k ≠ 1 → k ≠ 14 → wS8 (wError d) (wS7 (wError d) d) k = d k := fun k x y => (pk_un y).trans (pk_un x)
  generalize wS7 (wError d) d 1 = V at *
  generalize wS8 (wError d) (wS7 (wError d) d) = g at *
  have tn := wTurn_rng (lim := st 4) (w := g) s4 (by rw [fk 6 (by decide) (by decide), q6]; exact r6) (by rw [fk 7 (by decide) (by decide), q7]; exact r7) (by rw [fk 15 (by decide) (by decide), q15]; exact r15)
  obtain ⟨tk, t6, t7, t15⟩ := tn
  generalize wTurn (st 4) g = h at *
  have gk : ∀ k, k ≠ 1 → k ≠ 6 → k ≠ 7 → k ≠ 14 → k ≠ 15 → h k = d k := fun k x1 x6 x7 x14 x15 => (tk k x6 x7 x15).trans (fk k x1 x14)
  have g1 : h 1 = V := (tk 1 (by decide) (by decide) (by decide)).trans f1
  have g0 : h 0 = m := (gk 0 (by decide) (by decide) (by decide) (by decide) (by decide)).trans d0
  have g2 : h 2 = P := (gk 2 (by decide) (by decide) (by decide) (by decide) (by decide)).trans d2
  have g3 : h 3 = d 3 := gk 3 (by decide) (by decide) (by decide) (by decide) (by decide)
  have g4 : h 4 = w 4 := (gk 4 (by decide) (by decide) (by decide) (by decide) (by decide)).trans q4
  have g5 : h 5 = w 5 := (gk 5 (by decide) (by decide) (by decide) (by decide) (by decide)).trans q5
  have g8 : h 8 = w 8 := (gk 8 (by decide) (by decide) (by decide) (by decide) (by decide)).trans q8
  have g9 : h 9 = w 9 := (gk 9 (by decide) (by decide) (by decide) (by decide) (by decide)).trans q9
  have g10 : h 10 = w 10 := (gk 10 (by decide) (by decide) (by decide) (by decide) (by decide)).trans q10
  have gh : ∀ k, 16 ≤ k → h k = w k := fun k x => (gk k (by omega) (by omega) (by omega) (by omega) (by omega)).trans (dk k (by omega) (by omega) (by omega) (by omega) (by omega) (by omega))
  obtain ⟨n1, n2, n3, n4, n5, n6⟩ := pot_num (s := (w 1).toInt) (p := (w 2).toInt) (t := (d 3).toInt) (p' := P.toInt) (s' := V.toInt) (D := D) (G := G) (m := 0) (o := 0) r1.1 r1.2 r2 c2 d3 D1 D2 hG hV
  obtain ⟨o1, o2, o3⟩ := hp
  have s12 := hs.2.1.2
  have s11 := hs.2.1.1
  have pot : (m = 0 → 36 * V.toInt + 5 * ((90 - P.toInt) * (90 - P.toInt)) ≤ 35280) ∧ (¬ m = 0 → 72 * V.toInt + 5 * ((90 - P.toInt) * (90 - P.toInt)) ≤ 71770) ∧ (m = 5 → 6 ≤ P.toInt ∨ 84 ≤ 2 * V.toInt + 15 * P.toInt) := by
    rcases tr with ⟨t0, t1⟩ | ⟨t0, t1⟩ | ⟨t0, t1, t2⟩ | ⟨t0, t1, t2, t3⟩ | ⟨t0, t1, t2⟩
    · rcases t1 with t1 | t1
      · exact ⟨fun _ => n1 (o1 t0) (pi.1 t1), fun x => absurd t1 x, fun x => by rw [t1] at x; exact absurd x (by decide)⟩
      · exact ⟨fun x => by rw [t1] at x; exact absurd x (by decide), fun _ => n2 (o1 t0) (pi.2.1 t1), fun x => by rw [t1] at x; exact absurd x (by decide)⟩
    · have u := pi.2.2 t1
      refine ⟨fun x => by rw [t1] at x; exact absurd x (by decide), fun _ => n4 (o2 (by rw [t0]; decide)) u, fun _ => ?_⟩
      rcases Int.lt_or_le P.toInt 6 with x | x
      · rcases u with u | u
        · rcases o3 t0 with y | y
          · omega
          · exact Or.inr (n6 y (by omega) u)
        · omega
      · exact Or.inl x
    · have u := pi.2.2 t2
      rw [i_le] at t1
      refine ⟨fun x => by rw [t2] at x; exact absurd x (by decide), fun _ => n4 (o2 t0.1) u, fun _ => ?_⟩
      rcases Int.lt_or_le P.toInt 6 with x | x
      · rcases u with u | u
        · exact Or.inr (n5 (by omega) (by omega) u)
        · omega
      · exact Or.inl x
    · refine ⟨fun _ => n1 ?_ (pi.1 t1), fun x => absurd t1 x, fun x => by rw [t1] at x; exact absurd x (by decide)⟩
      have l90 : (90 : Int32).toInt = 90 := rfl
      rw [t2, t3, i_z, l90]
      decide
    · rw [i_le] at t1
      refine ⟨fun x => ?_, fun _ => n3 (by omega), fun x => ?_⟩
      · rcases t2 with y | y | y | y <;> (rw [y] at x; exact absurd x (by decide))
      · rcases t2 with y | y | y | y <;> (rw [y] at x; exact absurd x (by decide))
  have sqn : 0 ≤ (90 - P.toInt) * (90 - P.toInt) := Int.mul_nonneg (by have := c2.2; omega) (by have := c2.2; omega)
  have V0 : 0 ≤ V.toInt := by
    rw [hV]
    split <;> omega
  have V9 : V.toInt ≤ 999 := by
    by_cases x : m = 0
    · have := pot.1 x; omega
    · have := pot.2.1 x; omega
  refine ⟨?_, ?_, gh, g0, g4, g5, g8, g9, g10⟩
  · unfold wRng
    rw [g0, g1, g2, g3, g4, g5, g8, g9, g10]
    exact ⟨hm, ⟨V0, V9⟩, c2, d3, r4, r5, t6, t7, r8, r9, r10, t15⟩
  · unfold wPot
    rw [g0, g1, g2]
    exact pot
