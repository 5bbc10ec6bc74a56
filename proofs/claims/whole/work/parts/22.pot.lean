/-! The bound on SPEED is kept. -/
theorem mode_trans {st w : Nat → Int32} (hm : isMode (w 0)) : (w 0 = 0 ∧ (wMode st w = 0 ∨ wMode st w = 1)) ∨ (w 0 = 5 ∧ wMode st w = 5) ∨ ((¬ w 0 = 0 ∧ ¬ w 0 = 5) ∧ ¬ w 1 ≤ st 1 ∧ wMode st w = 5) ∨ (w 0 = 4 ∧ wMode st w = 0 ∧ w 1 = 0 ∧ w 2 = 90) ∨ ((¬ w 0 = 0 ∧ ¬ w 0 = 5) ∧ w 1 ≤ st 1 ∧ (wMode st w = 1 ∨ wMode st w = 2 ∨ wMode st w = 3 ∨ wMode st w = 4)) := by
  rcases hm with e | e | e | e | e | e
  · refine Or.inl ⟨e, ?_⟩
    unfold wMode
    rw [e, if_neg (by simp), if_neg (by simp), if_pos rfl]
    split
    · exact Or.inr rfl
    · exact Or.inl rfl
  · by_cases c : w 1 ≤ st 1
    · refine Or.inr (Or.inr (Or.inr (Or.inr ⟨⟨by rw [e]; decide, by rw [e]; decide⟩, c, ?_⟩)))
      unfold wMode
      rw [if_neg (fun h => h.1 c)]
      by_cases c2 : (w 0 = 1 ∨ w 0 = 2 ∨ w 0 = 3) ∧ (w 10 = 0 ∨ 2 ≤ w 12 ∨ 4 ≤ w 13 ∨ ¬ wWd w (st 4) = 0)
      · rw [if_pos c2]; exact Or.inr (Or.inr (Or.inr rfl))
      · rw [if_neg c2, e, if_neg (by decide), if_pos rfl]
        split
        · exact Or.inl rfl
        · exact Or.inr (Or.inl rfl)
    · refine Or.inr (Or.inr (Or.inl ⟨⟨by rw [e]; decide, by rw [e]; decide⟩, c, ?_⟩))
      unfold wMode
      rw [if_pos ⟨c, Or.inl e⟩]
  · by_cases c : w 1 ≤ st 1
    · refine Or.inr (Or.inr (Or.inr (Or.inr ⟨⟨by rw [e]; decide, by rw [e]; decide⟩, c, ?_⟩)))
      unfold wMode
      rw [if_neg (fun h => h.1 c)]
      by_cases c2 : (w 0 = 1 ∨ w 0 = 2 ∨ w 0 = 3) ∧ (w 10 = 0 ∨ 2 ≤ w 12 ∨ 4 ≤ w 13 ∨ ¬ wWd w (st 4) = 0)
      · rw [if_pos c2]; exact Or.inr (Or.inr (Or.inr rfl))
      · rw [if_neg c2, e, if_neg (by decide), if_neg (by decide), if_pos rfl]
        repeat' split
        all_goals first | exact Or.inr (Or.inl rfl) | exact Or.inr (Or.inr (Or.inl rfl)) | exact Or.inr (Or.inr (Or.inr rfl))
    · refine Or.inr (Or.inr (Or.inl ⟨⟨by rw [e]; decide, by rw [e]; decide⟩, c, ?_⟩))
      unfold wMode
      rw [if_pos ⟨c, Or.inr (Or.inl e)⟩]
  · by_cases c : w 1 ≤ st 1
    · refine Or.inr (Or.inr (Or.inr (Or.inr ⟨⟨by rw [e]; decide, by rw [e]; decide⟩, c, ?_⟩)))
      unfold wMode
      rw [if_neg (fun h => h.1 c)]
      by_cases c2 : (w 0 = 1 ∨ w 0 = 2 ∨ w 0 = 3) ∧ (w 10 = 0 ∨ 2 ≤ w 12 ∨ 4 ≤ w 13 ∨ ¬ wWd w (st 4) = 0)
      · rw [if_pos c2]; exact Or.inr (Or.inr (Or.inr rfl))
      · rw [if_neg c2, e, if_neg (by decide), if_neg (by decide), if_neg (by decide), if_pos rfl]
        split
        · exact Or.inr (Or.inl rfl)
        · exact Or.inr (Or.inr (Or.inl rfl))
    · refine Or.inr (Or.inr (Or.inl ⟨⟨by rw [e]; decide, by rw [e]; decide⟩, c, ?_⟩))
      unfold wMode
      rw [if_pos ⟨c, Or.inr (Or.inr (Or.inl e))⟩]
  · by_cases c : w 1 ≤ st 1
    · have h0 : wMode st w = if w 1 = 0 ∧ w 2 = 90 then 0 else 4 := by
        unfold wMode
        rw [if_neg (fun h => h.1 c), e, if_neg (by simp), if_neg (by decide), if_neg (by decide), if_neg (by decide), if_neg (by decide), if_pos rfl]
      by_cases c2 : w 1 = 0 ∧ w 2 = 90
      · rw [if_pos c2] at h0
        exact Or.inr (Or.inr (Or.inr (Or.inl ⟨e, h0, c2.1, c2.2⟩)))
      · rw [if_neg c2] at h0
        exact Or.inr (Or.inr (Or.inr (Or.inr ⟨⟨by rw [e]; decide, by rw [e]; decide⟩, c, Or.inr (Or.inr (Or.inr h0))⟩)))
    · refine Or.inr (Or.inr (Or.inl ⟨⟨by rw [e]; decide, by rw [e]; decide⟩, c, ?_⟩))
      unfold wMode
      rw [if_pos ⟨c, Or.inr (Or.inr (Or.inr e))⟩]
  · refine Or.inr (Or.inl ⟨e, ?_⟩)
    unfold wMode
    rw [e, if_neg (by simp), if_neg (by simp), if_neg (by decide), if_neg (by decide), if_neg (by decide), if_neg (by decide), if_neg (by decide)]
theorem sq_le {a b : Int} (ha : 0 ≤ a) (hab : a ≤ b) : a * a ≤ b * b := Int.mul_le_mul hab hab ha (by omega)
theorem sq_add (a c : Int) : (a + c) * (a + c) = a * a + 2 * (c * a) + c * c := by
  rw [Int.add_mul, Int.mul_add, Int.mul_add, Int.mul_comm a c]
  omega
theorem sq1 {q q' : Int} (h0 : 0 ≤ q') (h : q' + 1 ≤ q) : 5 * (q' * q') + 10 * q' + 5 ≤ 5 * (q * q) := by
  have := sq_le (a := q' + 1) (b := q) (by omega) h
  rw [sq_add] at this
  omega
theorem sq2 {q q' : Int} (h0 : 0 ≤ q') (h : q' + 2 ≤ q) : 5 * (q' * q') + 20 * q' + 20 ≤ 5 * (q * q) := by
  have := sq_le (a := q' + 2) (b := q) (by omega) h
  rw [sq_add] at this
  omega
theorem sq3 {q q' : Int} (h0 : 0 ≤ q') (hq : 0 ≤ q) (h : q' ≤ q + 9) : 5 * (q' * q') + 20 * q' ≤ 10 * (q * q) + 1210 := by
  have k1 := sq_le (a := q' + 2) (b := q + 11) (by omega) (by omega)
  rw [sq_add, sq_add] at k1
  have k2 : 0 ≤ (q + (-11)) * (q + (-11)) := by
    rcases Int.le_total 0 (q + (-11)) with h | h
    · exact Int.mul_nonneg h h
    · exact Int.mul_nonneg_of_nonpos_of_nonpos h h
  rw [sq_add] at k2
  omega
/-- the numbers of a tick -/
theorem pot_num {s p t p' s' D G m o : Int} (hs : 0 ≤ s) (hs9 : s ≤ 999) (hp : 0 ≤ p ∧ p ≤ 90) (hp' : 0 ≤ p' ∧ p' ≤ 90) (ht : 0 ≤ t ∧ t ≤ 100) (hD : 0 ≤ D) (hD2 : 9 * D ≤ 20 * (90 - p')) (hG : G = if s = 0 then 0 else s / 10 + 1) (hs' : s' = if 0 < s + (D - t - G) / 8 then s + (D - t - G) / 8 else 0) :
    (36 * s + 5 * ((90 - p) * (90 - p)) ≤ 35280 → (p + 1 ≤ p' ∨ p' = 90) → 36 * s' + 5 * ((90 - p') * (90 - p')) ≤ 35280) ∧
    (36 * s + 5 * ((90 - p) * (90 - p)) ≤ 35280 → p ≤ p' + 9 → 72 * s' + 5 * ((90 - p') * (90 - p')) ≤ 71770) ∧
    (s ≤ 200 → 72 * s' + 5 * ((90 - p') * (90 - p')) ≤ 71770) ∧
    (72 * s + 5 * ((90 - p) * (90 - p)) ≤ 71770 → (p + 2 ≤ p' ∨ p' = 90) → 72 * s' + 5 * ((90 - p') * (90 - p')) ≤ 71770) ∧
    (42 ≤ s → p' ≤ 5 → p + 2 ≤ p' → 84 ≤ 2 * s' + 15 * p') ∧
    (84 ≤ 2 * s + 15 * p → p' ≤ 5 → p + 2 ≤ p' → 84 ≤ 2 * s' + 15 * p') := by
  obtain ⟨p1, p2⟩ := hp
  obtain ⟨p3, p4⟩ := hp'
  obtain ⟨t1, t2⟩ := ht
  have G0 : 0 ≤ G ∧ G ≤ s / 10 + 1 := by
    rw [hG]
    split <;> omega
  obtain ⟨G1, G2⟩ := G0
  have up : s' ≤ s + D / 8 := by
    rw [hs']
    split <;> omega
  have lo : s + (D - t - G) / 8 ≤ s' := by
    rw [hs']
    split <;> omega
  have q8 : (90 - p') * (90 - p') ≤ 90 * 90 := sq_le (by omega) (by omega)
  clear hs' hG
  refine ⟨fun h k => ?_, fun h k => ?_, fun h => ?_, fun h k => ?_, fun h a b => ?_, fun h a b => ?_⟩
  · rcases k with k | k
    · have := sq1 (q := 90 - p) (q' := 90 - p') (by omega) (by omega)
      omega
    · subst k
      have := sq_le (a := (0 : Int)) (b := 90 - p) (by omega) (by omega)
      omega
  · have := sq3 (q := 90 - p) (q' := 90 - p') (by omega) (by omega) (by omega)
    omega
  · omega
  · rcases k with k | k
    · have := sq2 (q := 90 - p) (q' := 90 - p') (by omega) (by omega)
      omega
    · subst k
      have := sq_le (a := (0 : Int)) (b := 90 - p) (by omega) (by omega)
      omega
  · omega
  · omega
