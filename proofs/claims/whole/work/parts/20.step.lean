theorem head_tab : ∀ n, n < 36 → bt (nI n + 1 + 36 - (nI n + 1 + 36) / 36 * 36) 0 35 ∧ bt (nI n + (-1) + 36 - (nI n + (-1) + 36) / 36 * 36) 0 35 := by
  have k : ∀ n, n < 36 → (0 ≤ (nI n + 1 + 36 - (nI n + 1 + 36) / 36 * 36).toInt ∧ (nI n + 1 + 36 - (nI n + 1 + 36) / 36 * 36).toInt ≤ 35) ∧ (0 ≤ (nI n + (-1) + 36 - (nI n + (-1) + 36) / 36 * 36).toInt ∧ (nI n + (-1) + 36 - (nI n + (-1) + 36) / 36 * 36).toInt ≤ 35) := by decide +kernel
  exact k
theorem turnBy_6 {v : Nat → Int32} {d : Int32} (h6 : bt (v 6) 0 35) (hd : d = 1 ∨ d = -1) : bt (wTurnBy v d 6) 0 35 := by
  obtain ⟨n, hn, e⟩ := bt_nI (hi := 35) h6 (by decide)
  have k := head_tab n (by omega)
  show bt (v 6 + d + 36 - (v 6 + d + 36) / 36 * 36) 0 35
  rw [e]
  rcases hd with rfl | rfl
  · exact k.1
  · exact k.2
theorem turnBy_7 (v : Nat → Int32) (d : Int32) : wTurnBy v d 7 = v 7 + d := rfl
theorem turnBy_ne {v : Nat → Int32} {d : Int32} {k : Nat} (h6 : k ≠ 6) (h7 : k ≠ 7) : wTurnBy v d k = v k := by
  unfold wTurnBy
  rw [pk_un h7, pk_un h6]
theorem by_1 (v : Nat → Int32) : (if 18 < wAhead v then (-1 : Int32) else 1) = 1 ∨ (if 18 < wAhead v then (-1 : Int32) else 1) = -1 := by
  by_cases c : 18 < wAhead v
  · rw [if_pos c]; exact Or.inr rfl
  · rw [if_neg c]; exact Or.inl rfl
theorem wT3_cases {lim : Int32} {v : Nat → Int32} (hl : bt lim 36 108) (h7 : bt (v 7) (-lim.toInt) lim.toInt) : wT3 lim v = v ∨ ∃ d : Int32, (d = 1 ∨ d = -1) ∧ wT3 lim v = wTurnBy v d ∧ bt (v 7 + d) (-lim.toInt) lim.toInt := by
  obtain ⟨l1, l2⟩ := hl
  obtain ⟨t1, t2⟩ := h7
  have m1 : (-1 : Int32).toInt = -1 := rfl
  have en : (-lim).toInt = -lim.toInt := i_neg (by omega)
  unfold wT3
  have hd := by_1 v
  generalize (if 18 < wAhead v then (-1 : Int32) else 1) = d at hd ⊢
  by_cases c0 : v 15 = 0
  · rw [if_pos c0]
    by_cases c1 : 3 < v 0
    · rw [if_pos c1]; exact Or.inl rfl
    rw [if_neg c1]
    by_cases c2 : v 14 < 3
    · rw [if_pos c2]; exact Or.inl rfl
    rw [if_neg c2]
    by_cases c3 : lim < v 7 + d
    · rw [if_pos c3]; exact Or.inl rfl
    rw [if_neg c3]
    by_cases c4 : v 7 + d < -lim
    · rw [if_pos c4]; exact Or.inl rfl
    rw [if_neg c4]
    rw [i_lt] at c3 c4
    rw [en] at c4
    exact Or.inr ⟨d, hd, rfl, by omega, by omega⟩
  · rw [if_neg c0]
    by_cases c : v 7 ≤ 0
    · rw [if_pos c]
      rw [i_le, i_z] at c
      refine Or.inr ⟨1, Or.inl rfl, rfl, ?_⟩
      unfold bt
      rw [i_add (by rw [i_one]; omega) (by rw [i_one]; omega), i_one]
      omega
    · rw [if_neg c]
      rw [i_le, i_z] at c
      refine Or.inr ⟨-1, Or.inr rfl, rfl, ?_⟩
      unfold bt
      rw [i_add (by rw [m1]; omega) (by rw [m1]; omega), m1]
      omega
/-- turning: what it leaves, what it keeps -/
theorem wTurn_rng {lim : Int32} {w : Nat → Int32} (hl : bt lim 36 108) (h6 : bt (w 6) 0 35) (h7 : bt (w 7) (-lim.toInt) lim.toInt) (hb : isB (w 15)) : (∀ k, k ≠ 6 → k ≠ 7 → k ≠ 15 → wTurn lim w k = w k) ∧ bt (wTurn lim w 6) 0 35 ∧ bt (wTurn lim w 7) (-lim.toInt) lim.toInt ∧ isB (wTurn lim w 15) := by
  have e6 : wT2 (wT1 lim w) 6 = w 6 := wT2_ne (by decide)
  have e7 : wT2 (wT1 lim w) 7 = w 7 := wT2_ne (by decide)
  have e15 := wT2_15 (lim := lim) hb
  have ek : ∀ k, k ≠ 15 → wT2 (wT1 lim w) k = w k := fun k h => wT2_ne h
  unfold wTurn
  generalize wT2 (wT1 lim w) = v at *
  rcases wT3_cases (lim := lim) (v := v) hl (by rw [e7]; exact h7) with h | ⟨d, hd, h, hz⟩
  · rw [h]
    exact ⟨fun k a b c => ek k c, by rw [e6]; exact h6, by rw [e7]; exact h7, e15⟩
  · rw [h]
    refine ⟨fun k a b c => by rw [turnBy_ne a b]; exact ek k c, turnBy_6 (by rw [e6]; exact h6) hd, ?_, ?_⟩
    · rw [turnBy_7]; exact hz
    · rw [turnBy_ne (by decide) (by decide)]; exact e15
/-- the pitch's aim, the torque's aim -/
theorem aim_rng {st w : Nat → Int32} (h0 : bt (st 0) 40 120) (h1 : bt (w 1) 0 999) (h2 : bt (w 2) 0 90) : bt (wPitchAim st w) 0 90 := by
  unfold wPitchAim
  have j : ∀ x : Int32, bt (jmax 0 (jmin 90 x)) 0 90 := by
    intro x
    have l90 : (90 : Int32).toInt = 90 := rfl
    unfold bt
    rw [jmax_i, jmin_i, i_z, l90]
    repeat' split
    all_goals omega
  split
  · exact ⟨by decide, by decide⟩
  split
  · exact ⟨by decide, by decide⟩
  split
  · exact j _
  · exact ⟨by decide, by decide⟩
theorem tor_rng {st w : Nat → Int32} (h0 : bt (st 0) 40 120) (h1 : bt (w 1) 0 999) (h2 : w 0 = 2 → (w 1).toInt ≤ 200) : bt (wTorqueAim st w) 0 100 := by
  obtain ⟨a1, a2⟩ := h0
  obtain ⟨b1, b2⟩ := h1
  have e1 : (w 1 / 2).toInt = (w 1).toInt / 2 := div_i b1 (by decide)
  have e2 : (st 0 / 2).toInt = (st 0).toInt / 2 := div_i (by omega) (by decide)
  unfold wTorqueAim bt
  split
  · rename_i c
    have := h2 c
    rw [e1]; omega
  split
  · rw [e2]; omega
  · rw [i_z]; omega
/-- where the mode comes to be SLOW, STARTING .., SPEED wasn't above TRIP -/
theorem mode_slow {st w : Nat → Int32} (hm : isMode (w 0)) (h : wMode st w = 2 ∨ wMode st w = 3 ∨ wMode st w = 4) : w 1 ≤ st 1 := by
  apply Classical.byContradiction
  intro hn
  rcases hm with e | e | e | e | e | e
  · have : wMode st w = 0 ∨ wMode st w = 1 := by
      unfold wMode
      rw [e, if_neg (by simp), if_neg (by simp), if_pos rfl]
      split
      · exact Or.inr rfl
      · exact Or.inl rfl
    rcases this with k | k <;> rw [k] at h <;> simp at h
  · have : wMode st w = 5 := by unfold wMode; rw [if_pos ⟨hn, Or.inl e⟩]
    rw [this] at h; simp at h
  · have : wMode st w = 5 := by unfold wMode; rw [if_pos ⟨hn, Or.inr (Or.inl e)⟩]
    rw [this] at h; simp at h
  · have : wMode st w = 5 := by unfold wMode; rw [if_pos ⟨hn, Or.inr (Or.inr (Or.inl e))⟩]
    rw [this] at h; simp at h
  · have : wMode st w = 5 := by unfold wMode; rw [if_pos ⟨hn, Or.inr (Or.inr (Or.inr e))⟩]
    rw [this] at h; simp at h
  · have : wMode st w = 5 := by
      unfold wMode
      rw [e, if_neg (by simp), if_neg (by simp), if_neg (by decide), if_neg (by decide), if_neg (by decide), if_neg (by decide), if_neg (by decide)]
    rw [this] at h; simp at h
