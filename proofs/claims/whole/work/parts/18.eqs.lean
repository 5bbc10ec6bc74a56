/-! The class's tick and the model's are one. -/
theorem i_lt {a b : Int32} : a < b ↔ a.toInt < b.toInt := Int32.lt_iff_toInt_lt
theorem i_le {a b : Int32} : a ≤ b ↔ a.toInt ≤ b.toInt := Int32.le_iff_toInt_le
theorem i_eq {a b : Int32} : a = b ↔ a.toInt = b.toInt := Int32.toInt_inj.symm
theorem i_bm {x : Int} (g1 : -2147483648 ≤ x) (g2 : x < 2147483648) : x.bmod (2 ^ 32) = x := Int.bmod_eq_of_le (by omega) (by omega)
theorem i_add {a b : Int32} (g1 : -2147483648 ≤ a.toInt + b.toInt) (g2 : a.toInt + b.toInt < 2147483648) : (a + b).toInt = a.toInt + b.toInt := by rw [Int32.toInt_add, i_bm g1 g2]
theorem i_sub {a b : Int32} (g1 : -2147483648 ≤ a.toInt - b.toInt) (g2 : a.toInt - b.toInt < 2147483648) : (a - b).toInt = a.toInt - b.toInt := by rw [Int32.toInt_sub, i_bm g1 g2]
theorem i_mul {a b : Int32} (g1 : -2147483648 ≤ a.toInt * b.toInt) (g2 : a.toInt * b.toInt < 2147483648) : (a * b).toInt = a.toInt * b.toInt := by rw [Int32.toInt_mul, i_bm g1 g2]
theorem i_neg {a : Int32} (g : -2147483648 < a.toInt) : (-a).toInt = -a.toInt := by
  have := Int32.toInt_lt a
  rw [Int32.toInt_neg, i_bm (by omega) (by omega)]
theorem i_z : (0 : Int32).toInt = 0 := rfl
theorem i_one : (1 : Int32).toInt = 1 := rfl
theorem i_rng (a : Int32) : -2147483648 ≤ a.toInt ∧ a.toInt < 2147483648 := ⟨Int32.le_toInt a, Int32.toInt_lt a⟩
/-- a number between bounds -/
def bt (x : Int32) (lo hi : Int) : Prop := lo ≤ x.toInt ∧ x.toInt ≤ hi
theorem bt_nI {x : Int32} {hi : Nat} (h : bt x 0 hi) (hh : hi < 2147483648) : ∃ n, n ≤ hi ∧ x = nI n := by
  refine ⟨x.toInt.toNat, ?_, ?_⟩
  · have := h.2; omega
  · rw [i_eq, nI_toInt (by have := h.2; omega)]
    have := h.1
    omega
theorem mTow_eq {f t b : Int32} (hf : bt f (-1000000) 1000000) (ht : bt t (-1000000) 1000000) (hb : bt b 0 1000000) : mTow f t b = wNear f t b := by
  obtain ⟨f1, f2⟩ := hf
  obtain ⟨t1, t2⟩ := ht
  obtain ⟨b1, b2⟩ := hb
  have ea : (f + b).toInt = f.toInt + b.toInt := i_add (by omega) (by omega)
  have es : (f - b).toInt = f.toInt - b.toInt := i_sub (by omega) (by omega)
  unfold mTow wNear jmax jmin
  simp only [i_le, i_lt, ea, es]
  repeat' split
  all_goals first | rfl | (exfalso; omega) | (rw [i_eq]; omega)
theorem err_tab : ∀ a, a < 36 → ∀ b, b < 36 → (mErr (fun k => if k = 5 then nI a else nI b) = wError (fun k => if k = 5 then nI a else nI b) ∧ mBy (fun k => if k = 5 then nI a else nI b) = (if 18 < wAhead (fun k => if k = 5 then nI a else nI b) then -1 else 1)) ∧ (wError (fun k => if k = 5 then nI a else nI b)).toInt ≤ 18 ∧ 0 ≤ (wError (fun k => if k = 5 then nI a else nI b)).toInt := by decide +kernel
theorem err_eq {w : Nat → Int32} (h5 : bt (w 5) 0 35) (h6 : bt (w 6) 0 35) : mErr w = wError w ∧ mBy w = (if 18 < wAhead w then -1 else 1) ∧ bt (wError w) 0 18 := by
  obtain ⟨a, ha, ea⟩ := bt_nI (hi := 35) h5 (by decide)
  obtain ⟨b, hb, eb⟩ := bt_nI (hi := 35) h6 (by decide)
  obtain ⟨⟨k1, k2⟩, k3, k4⟩ := err_tab a (by omega) b (by omega)
  have e1 : mErr w = mErr (fun k => if k = 5 then w 5 else w 6) := rfl
  have e2 : wError w = wError (fun k => if k = 5 then w 5 else w 6) := rfl
  have e3 : mBy w = mBy (fun k => if k = 5 then w 5 else w 6) := rfl
  have e4 : wAhead w = wAhead (fun k => if k = 5 then w 5 else w 6) := rfl
  rw [e1, e2, e3, e4, ea, eb]
  exact ⟨k1, k2, k4, k3⟩
theorem jmax0 (x : Int32) : (if 0 ≤ x then x else 0) = jmax 0 x := by
  unfold jmax
  simp only [i_le, i_lt, i_z]
  repeat' split
  all_goals first | rfl | (exfalso; omega) | (rw [i_eq, i_z]; omega)
theorem mDrive_eq {w : Nat → Int32} (h5 : bt (w 5) 0 35) (h6 : bt (w 6) 0 35) : mDrive w = wDrive w (wError w) := by
  unfold mDrive wDrive
  rw [(err_eq h5 h6).1, jmax0]
theorem mWd_eq {st w : Nat → Int32} (hl : bt (st 4) 36 108) (ht : bt (w 7) (-1000) 1000) : mWd st w = wWd w (st 4) := by
  obtain ⟨l1, l2⟩ := hl
  obtain ⟨t1, t2⟩ := ht
  have e1 : (0 - w 7).toInt = -(w 7).toInt := by rw [i_sub (by rw [i_z]; omega) (by rw [i_z]; omega), i_z]; omega
  have e2 : (w 7 - 0).toInt = (w 7).toInt := by rw [i_sub (by rw [i_z]; omega) (by rw [i_z]; omega), i_z]; omega
  have e3 : (-(st 4)).toInt = -(st 4).toInt := i_neg (by omega)
  unfold mWd wWd mAway
  by_cases hz : w 7 ≤ 0
  · rw [if_pos hz]
    simp only [i_le, i_lt, i_z, e1, e3] at *
    repeat' split
    all_goals first | rfl | (exfalso; omega)
  · rw [if_neg hz]
    simp only [i_le, i_lt, i_z, e2, e3] at *
    repeat' split
    all_goals first | rfl | (exfalso; omega)
theorem mMode_eq {st w : Nat → Int32} (hw : mWd st w = wWd w (st 4)) (hb : isB (w 10)) : mMode st w = wMode st w := by
  have e : (w 10 = 1) = ¬ (w 10 = 0) := by
    rcases hb with h | h <;> rw [h] <;> simp
  unfold mMode wMode
  simp only [hw, e]
theorem mPG_eq {st w : Nat → Int32} : mPG st w = wPitchAim st w := by
  have key : ∀ x : Int32, (if 0 ≤ x then (if x ≤ 90 then x else 90) else 0) = jmax 0 (jmin 90 x) := by
    intro x
    have e90 : (90 : Int32).toInt = 90 := rfl
    have e9 : (if x < 90 then x else 90) = jmin 90 x := rfl
    rw [← e9]
    unfold jmax
    by_cases h : x < 90
    · rw [if_pos h]
      simp only [i_le, i_lt, i_z, e90] at h ⊢
      repeat' split
      all_goals first | rfl | (exfalso; omega) | (rw [i_eq, i_z]; omega)
    · rw [if_neg h]
      simp only [i_le, i_lt, i_z, e90] at h ⊢
      repeat' split
      all_goals first | rfl | (exfalso; omega) | (rw [i_eq, e90]; omega)
  unfold mPG wPitchAim
  rw [key]
  by_cases h1 : w 0 = 1
  · rw [if_neg (by rw [h1]; decide), if_pos h1, if_pos h1]
  · rw [if_neg h1, if_neg h1]
    by_cases h2 : w 0 = 2
    · rw [if_neg (by rw [h2]; decide), if_pos h2, if_pos h2]
    · rw [if_neg h2, if_neg h2]
theorem fl_tab : ∀ a, a < 2001 → mFl (nI a - 1000) = jfdiv (nI a - 1000) 8 := by decide +kernel
theorem mFl_eq {x : Int32} (h : bt x (-1000) 1000) : mFl x = jfdiv x 8 := by
  obtain ⟨h1, h2⟩ := h
  have e : x = nI (x.toInt + 1000).toNat - 1000 := by
    have e1 : (nI (x.toInt + 1000).toNat).toInt = x.toInt + 1000 := by rw [nI_toInt (by omega)]; omega
    have e2 : (1000 : Int32).toInt = 1000 := rfl
    rw [i_eq, i_sub (by rw [e1, e2]; omega) (by rw [e1, e2]; omega), e1, e2]
    omega
  rw [e]
  exact fl_tab _ (by omega)
theorem upd_self (w : Nat → Int32) (k : Nat) : upd w k (w k) = w := by
  funext j
  by_cases h : j = k
  · subst h; exact pk_us
  · exact pk_un h
theorem upd_upd (w : Nat → Int32) (k : Nat) (x y : Int32) : upd (upd w k x) k y = upd w k y := by
  funext j
  by_cases h : j = k
  · subst h; rw [pk_us, pk_us]
  · rw [pk_un h, pk_un h, pk_un h]
theorem upd_comm (w : Nat → Int32) {k m : Nat} (x y : Int32) (h : k ≠ m) : upd (upd w k x) m y = upd (upd w m y) k x := by
  funext j
  by_cases hm : j = m
  · subst hm; rw [pk_us, pk_un (fun e => h e.symm), pk_us]
  · by_cases hk : j = k
    · subst hk; rw [pk_un hm, pk_us, pk_us]
    · rw [pk_un hm, pk_un hk, pk_un hk, pk_un hm]
theorem mC1_eq {st w : Nat → Int32} (h3 : bt (st 3) 11 40) : mC1 st w = wS1 st w := by
  obtain ⟨a1, a2⟩ := h3
  have e1 : (st 3 - 1).toInt = (st 3).toInt - 1 := by rw [i_sub (by rw [i_one]; omega) (by rw [i_one]; omega), i_one]
  unfold mC1 wS1 mIn
  by_cases c1 : w 4 < st 2
  · simp only [c1, if_true]
  · simp only [c1, if_false]
    by_cases c2 : st 3 - 1 < w 4
    · have c3 : st 3 ≤ w 4 := by rw [i_lt, e1] at c2; rw [i_le]; omega
      simp only [c2, c3, if_true]
    · have c3 : ¬ st 3 ≤ w 4 := by rw [i_lt, e1] at c2; rw [i_le]; omega
      simp only [c2, c3, if_false]
      rw [if_neg (by decide)]
theorem away_lim {lim z : Int32} (hl : bt lim 36 108) (hz : bt z (-1001) 1001) : (lim < mAway z 0) = (lim < z ∨ z < -lim) := by
  obtain ⟨l1, l2⟩ := hl
  obtain ⟨z1, z2⟩ := hz
  have e1 : (0 - z).toInt = -z.toInt := by rw [i_sub (by rw [i_z]; omega) (by rw [i_z]; omega), i_z]; omega
  have e2 : (z - 0).toInt = z.toInt := by rw [i_sub (by rw [i_z]; omega) (by rw [i_z]; omega), i_z]; omega
  have e3 : (-lim).toInt = -lim.toInt := i_neg (by omega)
  apply propext
  unfold mAway
  by_cases h : z ≤ 0
  · rw [if_pos h]
    simp only [i_le, i_lt, i_z, e1, e3] at h ⊢
    omega
  · rw [if_neg h]
    simp only [i_le, i_lt, i_z, e2, e3] at h ⊢
    omega
theorem mL3_eq {st v : Nat → Int32} (hl : bt (st 4) 36 108) (ht : bt (v 7) (-1000) 1000) (h5 : bt (v 5) 0 35) (h6 : bt (v 6) 0 35) (hb : isB (v 15)) : mL3 st v = wT3 (st 4) v := by
  unfold mL3 wT3
  rw [(err_eq h5 h6).2.1]
  rcases hb with hb | hb
  · rw [hb, if_neg (by decide), if_pos rfl]
    have hz : ∀ d : Int32, (d = -1 ∨ d = 1) → bt (v 7 + d) (-1001) 1001 := by
      intro d hd
      obtain ⟨t1, t2⟩ := ht
      have e1 : (-1 : Int32).toInt = -1 := rfl
      rcases hd with rfl | rfl
      · unfold bt; rw [i_add (by rw [e1]; omega) (by rw [e1]; omega), e1]; omega
      · unfold bt; rw [i_add (by rw [i_one]; omega) (by rw [i_one]; omega), i_one]; omega
    have hd : (if 18 < wAhead v then (-1 : Int32) else 1) = -1 ∨ (if 18 < wAhead v then (-1 : Int32) else 1) = 1 := by
      split
      · exact Or.inl rfl
      · exact Or.inr rfl
    generalize (if 18 < wAhead v then (-1 : Int32) else 1) = d at hd ⊢
    have hk := away_lim hl (hz d hd)
    by_cases c1 : 3 < v 0
    · rw [if_pos c1, if_pos c1]
    · rw [if_neg c1, if_neg c1]
      by_cases c2 : v 14 < 3
      · rw [if_pos c2, if_pos c2]
      · rw [if_neg c2, if_neg c2]
        by_cases c3 : st 4 < v 7 + d
        · rw [if_pos c3, if_pos (by rw [hk]; exact Or.inl c3)]
        · rw [if_neg c3]
          by_cases c4 : v 7 + d < -(st 4)
          · rw [if_pos c4, if_pos (by rw [hk]; exact Or.inr c4)]
          · rw [if_neg c4, if_neg (by rw [hk]; exact fun h => h.elim c3 c4)]
  · rw [hb, if_pos rfl, if_neg (show ¬ ((1 : Int32) = 0) by decide)]
theorem mL2_eq {st w : Nat → Int32} (hw : mWd st w = wWd w (st 4)) : mL2 (mBeg st w) (mEnds w) w = wT2 (wT1 (st 4) w) := by
  have r7 : ∀ x, (upd w 15 x) 7 = w 7 := fun _ => rfl
  have r0 : ∀ x, (upd w 15 x) 0 = w 0 := fun _ => rfl
  have d10 : ¬ ((1 : Int32) = 0) := by decide
  unfold mL2 mBeg mEnds wT2 wT1
  rw [hw]
  by_cases a : w 7 = 0 <;> by_cases b : w 0 = 0 <;> by_cases c : wWd w (st 4) = 0 <;>
    simp only [a, b, c, r7, r0, d10, upd_upd, upd_self, if_true, if_false, true_or, or_true, or_false, false_or, true_and, and_true, false_and, and_false, not_true_eq_false, not_false_eq_true]
theorem wT2_15 {lim : Int32} {w : Nat → Int32} (hb : isB (w 15)) : isB (wT2 (wT1 lim w) 15) := by
  have h1 : isB (wT1 lim w 15) := by
    unfold wT1
    split
    · exact Or.inr pk_us
    · exact hb
  unfold wT2
  split
  · exact Or.inl pk_us
  · exact h1
theorem wT2_ne {lim : Int32} {w : Nat → Int32} {k : Nat} (h : k ≠ 15) : wT2 (wT1 lim w) k = w k := by
  have h1 : wT1 lim w k = w k := by
    unfold wT1
    split
    · exact pk_un h
    · rfl
  unfold wT2
  split
  · rw [pk_un h]; exact h1
  · exact h1
theorem turn_eq {st w : Nat → Int32} (hl : bt (st 4) 36 108) (ht : bt (w 7) (-1000) 1000) (h5 : bt (w 5) 0 35) (h6 : bt (w 6) 0 35) (hb : isB (w 15)) : mL3 st (mL2 (mBeg st w) (mEnds w) w) = wTurn (st 4) w := by
  rw [mL2_eq (mWd_eq hl ht)]
  unfold wTurn
  exact mL3_eq hl (by rw [wT2_ne (by decide)]; exact ht) (by rw [wT2_ne (by decide)]; exact h5) (by rw [wT2_ne (by decide)]; exact h6) (wT2_15 hb)
/-- the trips' count lies outside of the wheel -/
theorem u17_looks (st v : Nat → Int32) (e y : Int32) : mLooks st (upd v 17 y) e = upd (mLooks st v e) 17 y := by
  have t : ∀ (v : Nat → Int32) (d : Int32), wTurnBy (upd v 17 y) d = upd (wTurnBy v d) 17 y := by
    intro v d
    show upd (upd (upd v 17 y) 6 _) 7 _ = upd (upd (upd v 6 _) 7 _) 17 y
    rw [upd_comm v _ _ (show 17 ≠ 6 by decide), upd_comm _ _ _ (show 17 ≠ 7 by decide)]
    rfl
  have l3 : ∀ v : Nat → Int32, mL3 st (upd v 17 y) = upd (mL3 st v) 17 y := by
    intro v
    show (if v 15 = 1 then wTurnBy (upd v 17 y) (if v 7 ≤ 0 then 1 else -1) else if 3 < v 0 then upd v 17 y else if v 14 < 3 then upd v 17 y else if st 4 < mAway (v 7 + mBy v) 0 then upd v 17 y else wTurnBy (upd v 17 y) (mBy v)) = upd (mL3 st v) 17 y
    unfold mL3
    repeat' split
    all_goals first | rfl | exact t _ _
  have l2 : ∀ (b c : Int32) (v : Nat → Int32), mL2 b c (upd v 17 y) = upd (mL2 b c v) 17 y := fun b c v => upd_comm v _ _ (by decide)
  have l1 : ∀ v : Nat → Int32, mL1 e (upd v 17 y) = upd (mL1 e v) 17 y := fun v => upd_comm v _ _ (by decide)
  unfold mLooks
  rw [l1]
  show mL3 st (mL2 (mBeg st (mL1 e v)) (mEnds (mL1 e v)) (upd (mL1 e v) 17 y)) = _
  rw [l2, l3]
theorem u17_holds (st v : Nat → Int32) (y : Int32) : mHolds st (upd v 17 y) = upd (mHolds st v) 17 y := by
  have a1 : ∀ v : Nat → Int32, mH1 st (upd v 17 y) = upd (mH1 st v) 17 y := fun v => upd_comm v _ _ (by decide)
  have a2 : ∀ v : Nat → Int32, mH2 st (upd v 17 y) = upd (mH2 st v) 17 y := fun v => upd_comm v _ _ (by decide)
  have a3 : ∀ v : Nat → Int32, mH3 (upd v 17 y) = upd (mH3 v) 17 y := fun v => upd_comm v _ _ (by decide)
  have a4 : ∀ v : Nat → Int32, mH4 (upd v 17 y) = upd (mH4 v) 17 y := fun v => upd_comm v _ _ (by decide)
  unfold mHolds
  rw [a1, a2, a3, a4]
