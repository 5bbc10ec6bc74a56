/-! What stays so from tick to tick: the ranges, and the bound on SPEED. -/
def okSet (st : Nat → Int32) : Prop := bt (st 0) 40 120 ∧ bt (st 1) 41 200 ∧ bt (st 2) 1 10 ∧ bt (st 3) 11 40 ∧ bt (st 4) 36 108 ∧ bt (st 5) 1 9
def wRng (st w : Nat → Int32) : Prop := isMode (w 0) ∧ bt (w 1) 0 999 ∧ bt (w 2) 0 90 ∧ bt (w 3) 0 100 ∧ bt (w 4) 0 40 ∧ bt (w 5) 0 35 ∧ bt (w 6) 0 35 ∧ bt (w 7) (-(st 4).toInt) (st 4).toInt ∧ bt (w 8) 0 5 ∧ isB (w 9) ∧ isB (w 10) ∧ isB (w 15)
/-- the bound: q is how far PITCH is from 90 -/
def wPot (w : Nat → Int32) : Prop := (w 0 = 0 → 36 * (w 1).toInt + 5 * ((90 - (w 2).toInt) * (90 - (w 2).toInt)) ≤ 35280) ∧ (¬ w 0 = 0 → 72 * (w 1).toInt + 5 * ((90 - (w 2).toInt) * (90 - (w 2).toInt)) ≤ 71770) ∧ (w 0 = 5 → 6 ≤ (w 2).toInt ∨ 84 ≤ 2 * (w 1).toInt + 15 * (w 2).toInt)
theorem near_i {v a m : Int32} (hv : bt v (-1000000) 1000000) (ha : bt a (-1000000) 1000000) (hm : bt m 0 1000000) : (wNear v a m).toInt = if a.toInt ≤ v.toInt then (if a.toInt < v.toInt - m.toInt then v.toInt - m.toInt else a.toInt) else (if v.toInt + m.toInt < a.toInt then v.toInt + m.toInt else a.toInt) := by
  obtain ⟨v1, v2⟩ := hv
  obtain ⟨a1, a2⟩ := ha
  obtain ⟨m1, m2⟩ := hm
  have ea : (v + m).toInt = v.toInt + m.toInt := i_add (by omega) (by omega)
  have es : (v - m).toInt = v.toInt - m.toInt := i_sub (by omega) (by omega)
  unfold wNear jmax jmin
  simp only [i_le, i_lt, ea, es]
  repeat' split
  all_goals first | assumption | omega | (simp only [ea, es]; done)
theorem fd_tab : ∀ a : Nat, a < 2001 → (jfdiv (nI a - 1000) 8).toInt = ((a : Int) - 1000) / 8 := by decide +kernel
theorem fd_i {x : Int32} (h : bt x (-1000) 1000) : (jfdiv x 8).toInt = x.toInt / 8 := by
  obtain ⟨g1, g2⟩ := h
  have e : x = nI (x.toInt + 1000).toNat - 1000 := by
    have e1 : (nI (x.toInt + 1000).toNat).toInt = x.toInt + 1000 := by rw [nI_toInt (by omega)]; omega
    have e2 : (1000 : Int32).toInt = 1000 := rfl
    rw [i_eq, i_sub (by rw [e1, e2]; omega) (by rw [e1, e2]; omega), e1, e2]
    omega
  have k := fd_tab (x.toInt + 1000).toNat (by omega)
  rw [← e] at k
  rw [k]
  congr 1
  omega
theorem div_i {x y : Int32} (hx : 0 ≤ x.toInt) (hy : 0 < y.toInt) : (x / y).toInt = x.toInt / y.toInt := by
  have r := i_rng x
  have k1 : 0 ≤ x.toInt / y.toInt := Int.ediv_nonneg hx (by omega)
  have k2 : x.toInt / y.toInt ≤ x.toInt := Int.ediv_le_self _ hx
  rw [Int32.toInt_div, Int.tdiv_eq_ediv_of_nonneg hx, i_bm (by omega) (by omega)]
theorem mul_rng {x y a b : Int} (hx : 0 ≤ x) (hxa : x ≤ a) (hy : 0 ≤ y) (hyb : y ≤ b) : 0 ≤ x * y ∧ x * y ≤ a * b := ⟨Int.mul_nonneg hx hy, Int.mul_le_mul hxa hyb hy (by omega)⟩
theorem jmax_i (x y : Int32) : (jmax x y).toInt = if x.toInt < y.toInt then y.toInt else x.toInt := by
  unfold jmax
  simp only [i_lt]
  split <;> rfl
theorem jmin_i (x y : Int32) : (jmin x y).toInt = if y.toInt < x.toInt then y.toInt else x.toInt := by
  unfold jmin
  simp only [i_lt]
  split <;> rfl
theorem drive_i {w : Nat → Int32} {e : Int32} (h2 : bt (w 2) 0 90) (h4 : bt (w 4) 0 40) (h8 : bt (w 8) 0 5) (he : bt e 0 18) : 0 ≤ (wDrive w e).toInt ∧ 9 * (wDrive w e).toInt ≤ 20 * (90 - (w 2).toInt) := by
  obtain ⟨p1, p2⟩ := h2
  obtain ⟨w1, w2⟩ := h4
  obtain ⟨i1, i2⟩ := h8
  obtain ⟨e1, e2⟩ := he
  have l9 : (9 : Int32).toInt = 9 := rfl
  have l10 : (10 : Int32).toInt = 10 := rfl
  have l90 : (90 : Int32).toInt = 90 := rfl
  have l1620 : (1620 : Int32).toInt = 1620 := rfl
  have s1 : (9 - e).toInt = 9 - e.toInt := by rw [i_sub (by rw [l9]; omega) (by rw [l9]; omega), l9]
  have s2 : (10 - w 8).toInt = 10 - (w 8).toInt := by rw [i_sub (by rw [l10]; omega) (by rw [l10]; omega), l10]
  have s3 : (90 - w 2).toInt = 90 - (w 2).toInt := by rw [i_sub (by rw [l90]; omega) (by rw [l90]; omega), l90]
  have k0 : 0 ≤ (jmax 0 (9 - e)).toInt ∧ (jmax 0 (9 - e)).toInt ≤ 9 := by
    rw [jmax_i, s1, i_z]
    split <;> omega
  obtain ⟨k1, k2⟩ := k0
  generalize jmax 0 (9 - e) = K at *
  have m1 := mul_rng w1 w2 k1 k2
  have t1 : (w 4 * K).toInt = (w 4).toInt * K.toInt := i_mul (by omega) (by omega)
  have m2 := mul_rng m1.1 m1.2 (show 0 ≤ 10 - (w 8).toInt by omega) (show 10 - (w 8).toInt ≤ 10 by omega)
  have t2 : (w 4 * K * (10 - w 8)).toInt = (w 4).toInt * K.toInt * (10 - (w 8).toInt) := by rw [i_mul (by rw [t1, s2]; omega) (by rw [t1, s2]; omega), t1, s2]
  have m3 := mul_rng m2.1 m2.2 (show 0 ≤ 90 - (w 2).toInt by omega) (show 90 - (w 2).toInt ≤ 90 by omega)
  have t3 : (w 4 * K * (10 - w 8) * (90 - w 2)).toInt = (w 4).toInt * K.toInt * (10 - (w 8).toInt) * (90 - (w 2).toInt) := by rw [i_mul (by rw [t2, s3]; omega) (by rw [t2, s3]; omega), t2, s3]
  have m4 : (w 4).toInt * K.toInt * (10 - (w 8).toInt) * (90 - (w 2).toInt) ≤ 3600 * (90 - (w 2).toInt) := Int.mul_le_mul_of_nonneg_right (by have := m2.2; omega) (by omega)
  have t4 : (w 4 * K * (10 - w 8) * (90 - w 2) / 1620).toInt = (w 4).toInt * K.toInt * (10 - (w 8).toInt) * (90 - (w 2).toInt) / 1620 := by rw [div_i (by rw [t3]; exact m3.1) (by rw [l1620]; decide), t3, l1620]
  show 0 ≤ (w 4 * K * (10 - w 8) * (90 - w 2) / 1620).toInt ∧ 9 * (w 4 * K * (10 - w 8) * (90 - w 2) / 1620).toInt ≤ _
  rw [t4]
  have n3 := m3.1
  generalize (w 4).toInt * K.toInt * (10 - (w 8).toInt) * (90 - (w 2).toInt) = X at *
  constructor <;> omega
theorem drag_i {w : Nat → Int32} (h1 : bt (w 1) 0 999) : (wDrag w).toInt = if (w 1).toInt = 0 then 0 else (w 1).toInt / 10 + 1 := by
  obtain ⟨a1, a2⟩ := h1
  have l10 : (10 : Int32).toInt = 10 := rfl
  have d1 : (w 1 / 10).toInt = (w 1).toInt / 10 := div_i a1 (by decide)
  unfold wDrag
  simp only [i_eq, i_z]
  split
  · rfl
  · rw [i_add (by rw [d1, i_one]; omega) (by rw [d1, i_one]; omega), d1, i_one]
