/-! What stays so from tick to tick: the ranges, and the bound on SPEED. -/
def okSet (st : Nat → Int32) : Prop := bt (st 0) 40 120 ∧ bt (st 1) 41 200 ∧ bt (st 2) 1 10 ∧ bt (st 3) 11 40 ∧ bt (st 4) 36 108 ∧ bt (st 5) 1 9
def wRng (st w : Nat → Int32) : Prop := isMode (w 0) ∧ bt (w 1) 0 999 ∧ bt (w 2) 0 90 ∧ bt (w 3) 0 100 ∧ bt (w 4) 0 40 ∧ bt (w 5) 0 35 ∧ bt (w 6) 0 35 ∧ bt (w 7) (-(st 4).toInt) (st 4).toInt ∧ bt (w 8) 0 5 ∧ isB (w 9) ∧ isB (w 10) ∧ isB (w 15)
/-- the bound: q is how far PITCH is from 90 -/
def wPot (w : Nat → Int32) : Prop := (w 0 = 0 → 36 * (w 1).toInt + 5 * ((90 - (w 2).toInt) * (90 - (w 2).toInt)) ≤ 35280) ∧ (¬ w 0 = 0 → 72 * (w 1).toInt + 5 * ((90 - (w 2).toInt) * (90 - (w 2).toInt)) ≤ 71770) ∧ (w 0 = 5 → 6 ≤ (w 2).toInt ∨ 84 ≤ 2 * (w 1).toInt + 15 * (w 2).toInt)
theorem near_i {v a m : Int32} (hv : bt v (-1000000) 1000000) (ha : bt a (-1000000) 1000000) (hm : bt m 0 1000000) : (wNear v a m).toInt = if a.toInt ≤ v.toInt then (if a.toInt < v.toInt - m.toInt then v.toInt - m.toInt else a.toInt) else (if v.toInt + m.toInt < a.toInt then v.toInt + m.toInt else a.toInt) := by
  obtain ⟨v1, v2⟩ := hv
  obtain ⟨a1, a2⟩ := ha
  obtain ⟨m1, m2⟩ := hm
  have ea : (v + m).toInt = v.toInt + m.toInt := i_add (by omega) (by omega)
  have es : (v - m).toInt = v.toInt - m.toInt := i_sub (by omega) (by omega)
  unfold wNear jmax jmin
  simp only [i_le, i_lt, ea, es]
  repeat' split
  all_goals first | assumption | omega | (simp only [ea, es]; done)
theorem fd_tab : ∀ a : Nat, a < 2001 → (jfdiv (nI a - 1000) 8).toInt = ((a : Int) - 1000) / 8 := by decide +kernel
theorem fd_i {x : Int32} (h : bt x (-1000) 1000) : (jfdiv x 8).toInt = x.toInt / 8 := by
  obtain ⟨g1, g2⟩ := h
  have e : x = nI (x.toInt + 1000).toNat - 1000 := by
    have e1 : (nI (x.toInt + 1000).toNat).toInt = x.toInt + 1000 := by rw [nI_toInt (by omega)]; omega
    have e2 : (1000 : Int32).toInt = 1000 := rfl
    rw [i_eq, i_sub (by rw [e1, e2]; omega) (by rw [e1, e2]; omega), e1, e2]
    omega
  have k := fd_tab (x.toInt + 1000).toNat (by omega)
  rw [← e] at k
  rw [k]
  congr 1
  omega
theorem div_i {x y : Int32} (hx : 0 ≤ x.toInt) (hy : 0 < y.toInt) : (x / y).toInt = x.toInt / y.toInt := by
  have r := i_rng x
  have k1 : 0 ≤ x.toInt / y.toInt := Int.ediv_nonneg hx (by omega)
  have k2 : x.toInt / y.toInt ≤ x.toInt := Int.ediv_le_self _ hx
  rw [Int32.toInt_div, Int.tdiv_eq_ediv_of_nonneg hx, i_bm (by omega) (by omega)]
theorem mul_rng {x y a b : Int} (hx : 0 ≤ x) (hxa : x ≤ a) (hy : 0 ≤ y) (hyb : y ≤ b) : 0 ≤ x * y ∧ x * y ≤ a * b := ⟨Int.mul_nonneg hx hy, Int.mul_le_mul hxa hyb hy (by omega)⟩
theorem jmax_i (x y : Int32) : (jmax x y).toInt = if x.toInt < y.toInt then y.toInt else x.toInt := by
  unfold jmax
  simp only [i_lt]
  split <;> rfl
theorem jmin_i (x y : Int32) : (jmin x y).toInt = if y.toInt < x.toInt then y.toInt else x.toInt := by
  unfold jmin
  simp only [i_lt]
  split <;> rfl
theorem imul_rng {x y : Int32} {a b : Int} (hx : bt x 0 a) (hy : bt y 0 b) (hab : a * b < 2147483648) : (x * y).toInt = x.toInt * y.toInt ∧ bt (x * y) 0 (a * b) := by
  have m := mul_rng hx.1 hx.2 hy.1 hy.2
  have e : (x * y).toInt = x.toInt * y.toInt := i_mul (Int.le_trans (by decide) m.1) (Int.lt_of_le_of_lt m.2 hab)
  exact ⟨e, by unfold bt; rw [e]; exact m⟩
theorem isub_rng {k : Int32} {x : Int32} {a b c : Int} (hk : k.toInt = c) (hc : 0 ≤ c) (hc2 : c ≤ 1000) (hx : bt x a b) (ha : -1000 ≤ a) (hb : b ≤ 1000) : (k - x).toInt = c - x.toInt := by
  obtain ⟨x1, x2⟩ := hx
  rw [i_sub (by rw [hk]; omega) (by rw [hk]; omega), hk]
theorem drive_i {w : Nat → Int32} {e : Int32} (h2 : bt (w 2) 0 90) (h4 : bt (w 4) 0 40) (h8 : bt (w 8) 0 5) (he : bt e 0 18) : 0 ≤ (wDrive w e).toInt ∧ 9 * (wDrive w e).toInt ≤ 20 * (90 - (w 2).toInt) := by
  have s1 : (9 - e).toInt = 9 - e.toInt := isub_rng rfl (by decide) (by decide) he (by decide) (by decide)
  have s2 : (10 - w 8).toInt = 10 - (w 8).toInt := isub_rng rfl (by decide) (by decide) h8 (by decide) (by decide)
  have s3 : (90 - w 2).toInt = 90 - (w 2).toInt := isub_rng rfl (by decide) (by decide) h2 (by decide) (by decide)
  have k0 : bt (jmax 0 (9 - e)) 0 9 := by
    unfold bt
    rw [jmax_i, s1, i_z]
    obtain ⟨e1, e2⟩ := he
    split <;> omega
  have k8 : bt (10 - w 8) 0 10 := by
    unfold bt
    rw [s2]
    obtain ⟨e1, e2⟩ := h8
    omega
  have k2 : bt (90 - w 2) 0 90 := by
    unfold bt
    rw [s3]
    obtain ⟨e1, e2⟩ := h2
    omega
  unfold wDrive
  have m1 := imul_rng h4 k0 (by decide)
  have m2 := imul_rng m1.2 k8 (by decide)
  have m3 := imul_rng m2.2 k2 (by decide)
  generalize w 4 * jmax 0 (9 - e) * (10 - w 8) = X at m2 m3
  have m4 : X.toInt * (90 - w 2).toInt ≤ 3600 * (90 - w 2).toInt := Int.mul_le_mul_of_nonneg_right m2.2.2 k2.1
  rw [← m3.1, s3] at m4
  have n3 := m3.2.1
  generalize X * (90 - w 2) = Y at m4 n3
  have t4 : (Y / 1620).toInt = Y.toInt / 1620 := div_i n3 (by decide)
  rw [t4]
  clear t4 m3 m1 m2
  constructor <;> omega
theorem drag_i {w : Nat → Int32} (h1 : bt (w 1) 0 999) : (wDrag w).toInt = if (w 1).toInt = 0 then 0 else (w 1).toInt / 10 + 1 := by
  obtain ⟨a1, a2⟩ := h1
  have l10 : (10 : Int32).toInt = 10 := rfl
  have d1 : (w 1 / 10).toInt = (w 1).toInt / 10 := div_i a1 (by decide)
  unfold wDrag
  simp only [i_eq, i_z]
  split
  · rfl
  · rw [i_add (by rw [d1, i_one]; omega) (by rw [d1, i_one]; omega), d1, i_one]
