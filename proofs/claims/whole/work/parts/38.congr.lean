/-! A step of the wheel reads no more than 16 slots and 6 settings. -/
def eq16 (w u : Nat → Int32) : Prop := ∀ j, j < 16 → w j = u j
theorem eq16.up {w u : Nat → Int32} (h : eq16 w u) (k : Nat) {x y : Int32} (e : x = y) : eq16 (upd w k x) (upd u k y) := by
  intro j hj
  by_cases c : j = k
  · subst c
    rw [pk_us, pk_us]
    exact e
  · rw [pk_un c, pk_un c]
    exact h j hj
theorem wWd_c {w u : Nat → Int32} (h : eq16 w u) (l : Int32) : wWd w l = wWd u l := by
  unfold wWd
  rw [h 7 (by decide)]
theorem wErr_c {w u : Nat → Int32} (h : eq16 w u) : wError w = wError u := wError_congr (h 5 (by decide)) (h 6 (by decide))
theorem wPA_c {a b w u : Nat → Int32} (h : eq16 w u) (s : ∀ j, j < 6 → a j = b j) : wPitchAim a w = wPitchAim b u := by
  unfold wPitchAim
  rw [h 0 (by decide), h 1 (by decide), h 2 (by decide), s 0 (by decide)]
theorem wTA_c {a b w u : Nat → Int32} (h : eq16 w u) (s : ∀ j, j < 6 → a j = b j) : wTorqueAim a w = wTorqueAim b u := by
  unfold wTorqueAim
  rw [h 0 (by decide), h 1 (by decide), s 0 (by decide)]
theorem wDrag_c {w u : Nat → Int32} (h : eq16 w u) : wDrag w = wDrag u := by
  unfold wDrag
  rw [h 1 (by decide)]
theorem wDr_c {w u : Nat → Int32} (h : eq16 w u) (e : Int32) : wDrive w e = wDrive u e := wDrive_congr (h 2 (by decide)) (h 4 (by decide)) (h 8 (by decide)) e
theorem wMode_c {a b w u : Nat → Int32} (h : eq16 w u) (s : ∀ j, j < 6 → a j = b j) : wMode a w = wMode b u := by
  unfold wMode
  simp only [wErr_c h, wWd_c h, h 0 (by decide), h 1 (by decide), h 2 (by decide), h 3 (by decide), h 4 (by decide), h 5 (by decide), h 6 (by decide), h 7 (by decide), h 8 (by decide), h 9 (by decide), h 10 (by decide), h 11 (by decide), h 12 (by decide), h 13 (by decide), h 14 (by decide), h 15 (by decide), s 0 (by decide), s 1 (by decide), s 2 (by decide), s 3 (by decide), s 4 (by decide), s 5 (by decide)]
theorem wS1_c {a b w u : Nat → Int32} (h : eq16 w u) (s : ∀ j, j < 6 → a j = b j) : eq16 (wS1 a w) (wS1 b u) := h.up 11 (by rw [h 4 (by decide), h 11 (by decide), s 2 (by decide), s 3 (by decide)])
theorem wS2_c {a b w u : Nat → Int32} (h : eq16 w u) (s : ∀ j, j < 6 → a j = b j) : eq16 (wS2 a w) (wS2 b u) := h.up 12 (by rw [h 4 (by decide), h 12 (by decide), s 3 (by decide)])
theorem wS3_c {w u : Nat → Int32} (h : eq16 w u) : eq16 (wS3 w) (wS3 u) := h.up 13 (by rw [h 9 (by decide), h 13 (by decide)])
theorem wS4_c {a b w u : Nat → Int32} (h : eq16 w u) (s : ∀ j, j < 6 → a j = b j) : eq16 (wS4 a w) (wS4 b u) := h.up 0 (wMode_c h s)
theorem wS5_c {a b w u : Nat → Int32} (h : eq16 w u) (s : ∀ j, j < 6 → a j = b j) : eq16 (wS5 a w) (wS5 b u) := h.up 2 (by rw [wPA_c h s, h 0 (by decide), h 2 (by decide), s 5 (by decide)])
theorem wS6_c {a b w u : Nat → Int32} (h : eq16 w u) (s : ∀ j, j < 6 → a j = b j) : eq16 (wS6 a w) (wS6 b u) := h.up 3 (by rw [wTA_c h s, h 9 (by decide), h 3 (by decide)])
theorem wS7_c {w u : Nat → Int32} (h : eq16 w u) (e : Int32) : eq16 (wS7 e w) (wS7 e u) := h.up 1 (by rw [wDr_c h, wDrag_c h, h 1 (by decide), h 3 (by decide)])
theorem wS8_c {w u : Nat → Int32} (h : eq16 w u) (e : Int32) : eq16 (wS8 e w) (wS8 e u) := h.up 14 (by rw [h 14 (by decide)])
