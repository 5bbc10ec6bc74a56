/-! A step of the wheel, all of it. -/
theorem wT1_c {w u : Nat → Int32} (h : eq16 w u) (l : Int32) : eq16 (wT1 l w) (wT1 l u) := by
  unfold wT1
  rw [wWd_c h, h 0 (by decide)]
  by_cases c : u 0 = 0 ∧ ¬ wWd u l = 0
  · rw [if_pos c, if_pos c]; exact h.up 15 rfl
  · rw [if_neg c, if_neg c]; exact h
theorem wT2_c {w u : Nat → Int32} (h : eq16 w u) : eq16 (wT2 w) (wT2 u) := by
  unfold wT2
  rw [h 7 (by decide), h 0 (by decide)]
  by_cases c : u 7 = 0 ∨ ¬ u 0 = 0
  · rw [if_pos c, if_pos c]; exact h.up 15 rfl
  · rw [if_neg c, if_neg c]; exact h
theorem wTurnBy_c {w u : Nat → Int32} (h : eq16 w u) (d : Int32) : eq16 (wTurnBy w d) (wTurnBy u d) := by
  unfold wTurnBy
  exact (h.up 6 (by rw [h 6 (by decide)])).up 7 (by rw [h 7 (by decide)])
theorem eq16_if {w u w' u' : Nat → Int32} {p : Prop} [Decidable p] (h : eq16 w u) (k : eq16 w' u') : eq16 (if p then w else w') (if p then u else u') := by
  by_cases c : p
  · rw [if_pos c, if_pos c]; exact h
  · rw [if_neg c, if_neg c]; exact k
theorem wT3_c {w u : Nat → Int32} (h : eq16 w u) (l : Int32) : eq16 (wT3 l w) (wT3 l u) := by
  have ea : wAhead w = wAhead u := by unfold wAhead; rw [h 5 (by decide), h 6 (by decide)]
  unfold wT3
  rw [ea, h 15 (by decide), h 0 (by decide), h 14 (by decide), h 7 (by decide)]
  exact eq16_if (eq16_if h (eq16_if h (eq16_if h (eq16_if h (wTurnBy_c h _))))) (wTurnBy_c h _)
theorem wStep_c {a b w u : Nat → Int32} (h : eq16 w u) (s : ∀ j, j < 6 → a j = b j) : eq16 (wStep a w) (wStep b u) := by
  have k := wS6_c (wS5_c (wS4_c (wS3_c (wS2_c (wS1_c h s) s)) s) s) s
  unfold wStep wEnd wTurn
  rw [wErr_c k, s 4 (by decide)]
  exact wT3_c (wT2_c (wT1_c (wS8_c (wS7_c k _) _) _)) _
