/-! What holds between the class's places and the model's. -/
def hLay (S : hS) : Prop := S.1 = hLam ∧ ∀ q ∈ hRvT, S.2.2 q.1 q.2.1 = some (q.2.2.1, q.2.2.2)
theorem hLay.fr {S S' : hS} {P : Nat → Prop} (h : hLay S) (f : hFr S S' P) : hLay S' := ⟨f.1.trans h.1, fun q hq => by rw [f.2.1]; exact h.2 q hq⟩
theorem rv_0_0 {S : hS} (h : hLay S) : S.2.2 0 0 = some (5, 1) := h.2 (0, 0, 5, 1) (by decide +kernel)
theorem rv_0_1 {S : hS} (h : hLay S) : S.2.2 0 1 = some (6, 2) := h.2 (0, 1, 6, 2) (by decide +kernel)
theorem rv_0_2 {S : hS} (h : hLay S) : S.2.2 0 2 = some (3, 4) := h.2 (0, 2, 3, 4) (by decide +kernel)
theorem rv_0_3 {S : hS} (h : hLay S) : S.2.2 0 3 = some (0, 6) := h.2 (0, 3, 0, 6) (by decide +kernel)
theorem rv_0_4 {S : hS} (h : hLay S) : S.2.2 0 4 = some (1, 10) := h.2 (0, 4, 1, 10) (by decide +kernel)
theorem rv_0_5 {S : hS} (h : hLay S) : S.2.2 0 5 = some (30002, 36) := h.2 (0, 5, 30002, 36) (by decide +kernel)
theorem rv_0_6 {S : hS} (h : hLay S) : S.2.2 0 6 = some (20002, 45) := h.2 (0, 6, 20002, 45) (by decide +kernel)
theorem rv_0_7 {S : hS} (h : hLay S) : S.2.2 0 7 = some (4, 46) := h.2 (0, 7, 4, 46) (by decide +kernel)
theorem rv_0_8 {S : hS} (h : hLay S) : S.2.2 0 8 = some (2, 51) := h.2 (0, 8, 2, 51) (by decide +kernel)
theorem rv_0_9 {S : hS} (h : hLay S) : S.2.2 0 9 = some (8, 56) := h.2 (0, 9, 8, 56) (by decide +kernel)
theorem rv_2_0 {S : hS} (h : hLay S) : S.2.2 2 0 = some (10080, 3) := h.2 (2, 0, 10080, 3) (by decide +kernel)
theorem rv_4_0 {S : hS} (h : hLay S) : S.2.2 4 0 = some (5, 5) := h.2 (4, 0, 5, 5) (by decide +kernel)
theorem rv_6_0 {S : hS} (h : hLay S) : S.2.2 6 0 = some (8, 7) := h.2 (6, 0, 8, 7) (by decide +kernel)
theorem rv_6_1 {S : hS} (h : hLay S) : S.2.2 6 1 = some (7, 8) := h.2 (6, 1, 7, 8) (by decide +kernel)
theorem rv_8_0 {S : hS} (h : hLay S) : S.2.2 8 0 = some (10040, 9) := h.2 (8, 0, 10040, 9) (by decide +kernel)
theorem rv_10_0 {S : hS} (h : hLay S) : S.2.2 10 0 = some (30006, 11) := h.2 (10, 0, 30006, 11) (by decide +kernel)
theorem rv_11_0 {S : hS} (h : hLay S) : S.2.2 11 0 = some (0, 12) := h.2 (11, 0, 0, 12) (by decide +kernel)
theorem rv_11_1 {S : hS} (h : hLay S) : S.2.2 11 1 = some (0, 16) := h.2 (11, 1, 0, 16) (by decide +kernel)
theorem rv_11_2 {S : hS} (h : hLay S) : S.2.2 11 2 = some (0, 20) := h.2 (11, 2, 0, 20) (by decide +kernel)
theorem rv_11_3 {S : hS} (h : hLay S) : S.2.2 11 3 = some (0, 24) := h.2 (11, 3, 0, 24) (by decide +kernel)
theorem rv_11_4 {S : hS} (h : hLay S) : S.2.2 11 4 = some (0, 28) := h.2 (11, 4, 0, 28) (by decide +kernel)
theorem rv_11_5 {S : hS} (h : hLay S) : S.2.2 11 5 = some (0, 32) := h.2 (11, 5, 0, 32) (by decide +kernel)
theorem rv_12_0 {S : hS} (h : hLay S) : S.2.2 12 0 = some (8, 13) := h.2 (12, 0, 8, 13) (by decide +kernel)
theorem rv_12_1 {S : hS} (h : hLay S) : S.2.2 12 1 = some (7, 14) := h.2 (12, 1, 7, 14) (by decide +kernel)
theorem rv_14_0 {S : hS} (h : hLay S) : S.2.2 14 0 = some (10040, 15) := h.2 (14, 0, 10040, 15) (by decide +kernel)
theorem rv_16_0 {S : hS} (h : hLay S) : S.2.2 16 0 = some (8, 17) := h.2 (16, 0, 8, 17) (by decide +kernel)
theorem rv_16_1 {S : hS} (h : hLay S) : S.2.2 16 1 = some (7, 18) := h.2 (16, 1, 7, 18) (by decide +kernel)
theorem rv_18_0 {S : hS} (h : hLay S) : S.2.2 18 0 = some (10040, 19) := h.2 (18, 0, 10040, 19) (by decide +kernel)
theorem rv_20_0 {S : hS} (h : hLay S) : S.2.2 20 0 = some (8, 21) := h.2 (20, 0, 8, 21) (by decide +kernel)
theorem rv_20_1 {S : hS} (h : hLay S) : S.2.2 20 1 = some (7, 22) := h.2 (20, 1, 7, 22) (by decide +kernel)
theorem rv_22_0 {S : hS} (h : hLay S) : S.2.2 22 0 = some (10040, 23) := h.2 (22, 0, 10040, 23) (by decide +kernel)
theorem rv_24_0 {S : hS} (h : hLay S) : S.2.2 24 0 = some (8, 25) := h.2 (24, 0, 8, 25) (by decide +kernel)
theorem rv_24_1 {S : hS} (h : hLay S) : S.2.2 24 1 = some (7, 26) := h.2 (24, 1, 7, 26) (by decide +kernel)
theorem rv_26_0 {S : hS} (h : hLay S) : S.2.2 26 0 = some (10040, 27) := h.2 (26, 0, 10040, 27) (by decide +kernel)
theorem rv_28_0 {S : hS} (h : hLay S) : S.2.2 28 0 = some (8, 29) := h.2 (28, 0, 8, 29) (by decide +kernel)
theorem rv_28_1 {S : hS} (h : hLay S) : S.2.2 28 1 = some (7, 30) := h.2 (28, 1, 7, 30) (by decide +kernel)
theorem rv_30_0 {S : hS} (h : hLay S) : S.2.2 30 0 = some (10040, 31) := h.2 (30, 0, 10040, 31) (by decide +kernel)
theorem rv_32_0 {S : hS} (h : hLay S) : S.2.2 32 0 = some (8, 33) := h.2 (32, 0, 8, 33) (by decide +kernel)
theorem rv_32_1 {S : hS} (h : hLay S) : S.2.2 32 1 = some (7, 34) := h.2 (32, 1, 7, 34) (by decide +kernel)
theorem rv_34_0 {S : hS} (h : hLay S) : S.2.2 34 0 = some (10040, 35) := h.2 (34, 0, 10040, 35) (by decide +kernel)
theorem rv_36_0 {S : hS} (h : hLay S) : S.2.2 36 0 = some (0, 37) := h.2 (36, 0, 0, 37) (by decide +kernel)
theorem rv_36_1 {S : hS} (h : hLay S) : S.2.2 36 1 = some (0, 41) := h.2 (36, 1, 0, 41) (by decide +kernel)
theorem rv_37_0 {S : hS} (h : hLay S) : S.2.2 37 0 = some (8, 38) := h.2 (37, 0, 8, 38) (by decide +kernel)
theorem rv_37_1 {S : hS} (h : hLay S) : S.2.2 37 1 = some (7, 39) := h.2 (37, 1, 7, 39) (by decide +kernel)
theorem rv_39_0 {S : hS} (h : hLay S) : S.2.2 39 0 = some (10040, 40) := h.2 (39, 0, 10040, 40) (by decide +kernel)
theorem rv_41_0 {S : hS} (h : hLay S) : S.2.2 41 0 = some (8, 42) := h.2 (41, 0, 8, 42) (by decide +kernel)
theorem rv_41_1 {S : hS} (h : hLay S) : S.2.2 41 1 = some (7, 43) := h.2 (41, 1, 7, 43) (by decide +kernel)
theorem rv_43_0 {S : hS} (h : hLay S) : S.2.2 43 0 = some (10040, 44) := h.2 (43, 0, 10040, 44) (by decide +kernel)
theorem rv_46_0 {S : hS} (h : hLay S) : S.2.2 46 0 = some (10006, 47) := h.2 (46, 0, 10006, 47) (by decide +kernel)
theorem rv_46_1 {S : hS} (h : hLay S) : S.2.2 46 1 = some (10006, 48) := h.2 (46, 1, 10006, 48) (by decide +kernel)
theorem rv_46_2 {S : hS} (h : hLay S) : S.2.2 46 2 = some (10006, 49) := h.2 (46, 2, 10006, 49) (by decide +kernel)
theorem rv_46_3 {S : hS} (h : hLay S) : S.2.2 46 3 = some (10006, 50) := h.2 (46, 3, 10006, 50) (by decide +kernel)
theorem rv_51_0 {S : hS} (h : hLay S) : S.2.2 51 0 = some (10040, 52) := h.2 (51, 0, 10040, 52) (by decide +kernel)
theorem rv_51_2 {S : hS} (h : hLay S) : S.2.2 51 2 = some (10040, 53) := h.2 (51, 2, 10040, 53) (by decide +kernel)
theorem rv_51_4 {S : hS} (h : hLay S) : S.2.2 51 4 = some (10040, 54) := h.2 (51, 4, 10040, 54) (by decide +kernel)
theorem rv_51_5 {S : hS} (h : hLay S) : S.2.2 51 5 = some (10040, 55) := h.2 (51, 5, 10040, 55) (by decide +kernel)
theorem rv_57_0 {S : hS} (h : hLay S) : S.2.2 57 0 = some (10059, 58) := h.2 (57, 0, 10059, 58) (by decide +kernel)
theorem rv_57_1 {S : hS} (h : hLay S) : S.2.2 57 1 = some (10059, 59) := h.2 (57, 1, 10059, 59) (by decide +kernel)
theorem rv_57_2 {S : hS} (h : hLay S) : S.2.2 57 2 = some (10354, 60) := h.2 (57, 2, 10354, 60) (by decide +kernel)
theorem rv_57_4 {S : hS} (h : hLay S) : S.2.2 57 4 = some (10118, 61) := h.2 (57, 4, 10118, 61) (by decide +kernel)
theorem rv_57_5 {S : hS} (h : hLay S) : S.2.2 57 5 = some (20002, 62) := h.2 (57, 5, 20002, 62) (by decide +kernel)
theorem rv_57_6 {S : hS} (h : hLay S) : S.2.2 57 6 = some (10006, 63) := h.2 (57, 6, 10006, 63) (by decide +kernel)
theorem rv_57_7 {S : hS} (h : hLay S) : S.2.2 57 7 = some (10080, 64) := h.2 (57, 7, 10080, 64) (by decide +kernel)
theorem rv_57_14 {S : hS} (h : hLay S) : S.2.2 57 14 = some (10006, 65) := h.2 (57, 14, 10006, 65) (by decide +kernel)
theorem rv_57_16 {S : hS} (h : hLay S) : S.2.2 57 16 = some (10040, 66) := h.2 (57, 16, 10040, 66) (by decide +kernel)
theorem rv_57_17 {S : hS} (h : hLay S) : S.2.2 57 17 = some (10040, 67) := h.2 (57, 17, 10040, 67) (by decide +kernel)
theorem rv_57_19 {S : hS} (h : hLay S) : S.2.2 57 19 = some (10040, 68) := h.2 (57, 19, 10040, 68) (by decide +kernel)
theorem rv_57_21 {S : hS} (h : hLay S) : S.2.2 57 21 = some (11000, 69) := h.2 (57, 21, 11000, 69) (by decide +kernel)
theorem rv_57_23 {S : hS} (h : hLay S) : S.2.2 57 23 = some (10018, 70) := h.2 (57, 23, 10018, 70) (by decide +kernel)
theorem rv_57_25 {S : hS} (h : hLay S) : S.2.2 57 25 = some (10006, 71) := h.2 (57, 25, 10006, 71) (by decide +kernel)
theorem mom_6 {S : hS} (h : hLay S) : isMom S 6 := ⟨rv_6_0 h, rv_6_1 h, rv_8_0 h⟩
theorem mom_12 {S : hS} (h : hLay S) : isMom S 12 := ⟨rv_12_0 h, rv_12_1 h, rv_14_0 h⟩
theorem mom_16 {S : hS} (h : hLay S) : isMom S 16 := ⟨rv_16_0 h, rv_16_1 h, rv_18_0 h⟩
theorem mom_20 {S : hS} (h : hLay S) : isMom S 20 := ⟨rv_20_0 h, rv_20_1 h, rv_22_0 h⟩
theorem mom_24 {S : hS} (h : hLay S) : isMom S 24 := ⟨rv_24_0 h, rv_24_1 h, rv_26_0 h⟩
theorem mom_28 {S : hS} (h : hLay S) : isMom S 28 := ⟨rv_28_0 h, rv_28_1 h, rv_30_0 h⟩
theorem mom_32 {S : hS} (h : hLay S) : isMom S 32 := ⟨rv_32_0 h, rv_32_1 h, rv_34_0 h⟩
theorem mom_37 {S : hS} (h : hLay S) : isMom S 37 := ⟨rv_37_0 h, rv_37_1 h, rv_39_0 h⟩
theorem mom_41 {S : hS} (h : hLay S) : isMom S 41 := ⟨rv_41_0 h, rv_41_1 h, rv_43_0 h⟩
theorem lay_past {S : hS} (h : hLay S) : isPast S := by
  refine ⟨rv_10_0 h, fun i hi => ?_⟩
  match i, hi with
  | 0, _ => exact ⟨rv_11_0 h, mom_12 h⟩
  | 1, _ => exact ⟨rv_11_1 h, mom_16 h⟩
  | 2, _ => exact ⟨rv_11_2 h, mom_20 h⟩
  | 3, _ => exact ⟨rv_11_3 h, mom_24 h⟩
  | 4, _ => exact ⟨rv_11_4 h, mom_28 h⟩
  | 5, _ => exact ⟨rv_11_5 h, mom_32 h⟩
  | n + 6, h => exact absurd h (by omega)
/-- a moment of the class (its four rows) is a row of the model's -/
def mRel (m w t a u : Nat → Int32) : Prop := (∀ j, j < 16 → w j = u j) ∧ m 2 = u 16 ∧ m 3 = u 17 ∧ t 2 = u 18 ∧ ∃ n z, n < 40 ∧ z ≤ 40 ∧ t 1 = nI n ∧ u 18 = nI z ∧ ∀ k, k < z → a ((n + 39 - k) % 40) = u (19 + k)
/-- what is known of a row -/
def mInv (st u : Nat → Int32) : Prop := wRng st u ∧ wPot u ∧ bt (u 16) 0 9999 ∧ bt (u 18) 0 40 ∧ ∀ k, k < 40 → bt (u (19 + k)) 0 999
def rSet (a b : Nat → Int32) : Prop := okSet b ∧ ∀ j, j < 6 → a j = b j
def rText (len typed : Int32) (a b : Nat → Int32) : Prop := ∃ n, n ≤ 80 ∧ len = nI n ∧ typed = nI n ∧ ∀ k, k < n → a k = b k ∧ bt (b k) 0 255
def rMom (iv : Nat → Nat → Int32) (c : Nat) (u : Nat → Int32) : Prop := mRel (iv c) (iv (c + 1)) (iv (c + 2)) (iv (c + 3)) u ∧ mInv (iv 63) u
def rPast (iv : Nat → Nat → Int32) (undos : Int32) : Prop := ∃ p z, p < 6 ∧ z ≤ 6 ∧ iv 10 1 = nI p ∧ iv 10 2 = nI z ∧ undos = nI z ∧ ∀ i, i < z → rMom iv (12 + 4 * ((p + 5 - i) % 6)) (fun j => iv 60 (59 * (z - 1 - i) + j))
def rImg (iv : Nat → Nat → Int32) : Prop := ∀ k, k < 2 → isB (iv 45 k) ∧ iv 62 k = iv 45 k ∧ (iv 45 k = 1 → rMom iv (37 + 4 * k) (fun j => iv 61 (59 * k + j)))
def rSeen (size sights : Int32) (a b c d : Nat → Int32) : Prop := ∃ z, z ≤ 6 ∧ size = nI z ∧ sights = nI z ∧ ∀ i, i < z → (a i = d (3 * i) ∧ b i = d (3 * i + 1) ∧ c i = d (3 * i + 2)) ∧ bt (d (3 * i)) 1 20 ∧ bt (d (3 * i + 1)) 0 40 ∧ bt (d (3 * i + 2)) 0 999
def Rel (S : hS) : Prop := hLay S ∧ rSet (S.2.1 1) (S.2.1 63) ∧ rText (S.2.1 2 1) (S.2.1 57 8) (S.2.1 3) (S.2.1 64) ∧ rMom S.2.1 6 (S.2.1 58) ∧ rPast S.2.1 (S.2.1 57 3) ∧ rImg S.2.1 ∧ rSeen (S.2.1 46 4) (S.2.1 57 24) (S.2.1 47) (S.2.1 48) (S.2.1 49) (S.2.1 70)
theorem rMom.congr {iv iv' : Nat → Nat → Int32} {c : Nat} {u u' : Nat → Int32} (h : rMom iv c u) (h0 : iv' c = iv c) (h1 : iv' (c + 1) = iv (c + 1)) (h2 : iv' (c + 2) = iv (c + 2)) (h3 : iv' (c + 3) = iv (c + 3)) (h63 : iv' 63 = iv 63) (hu : u' = u) : rMom iv' c u' := by
  unfold rMom at *
  rw [h0, h1, h2, h3, h63, hu]
  exact h
theorem rPast.congr {iv iv' : Nat → Nat → Int32} {x : Int32} (h : rPast iv x) (hp : ∀ p, 10 ≤ p → p < 36 → iv' p = iv p) (h60 : iv' 60 = iv 60) (h63 : iv' 63 = iv 63) : rPast iv' x := by
  obtain ⟨p, z, a, b, c, d, e, f⟩ := h
  refine ⟨p, z, a, b, by rw [hp 10 (by omega) (by omega)]; exact c, by rw [hp 10 (by omega) (by omega)]; exact d, e, fun i hi => ?_⟩
  have k := f i hi
  have l : (p + 5 - i) % 6 < 6 := Nat.mod_lt _ (by decide)
  exact k.congr (hp _ (by omega) (by omega)) (hp _ (by omega) (by omega)) (hp _ (by omega) (by omega)) (hp _ (by omega) (by omega)) h63 (by rw [h60])
theorem rImg.congr {iv iv' : Nat → Nat → Int32} (h : rImg iv) (hp : ∀ p, 37 ≤ p → p < 46 → iv' p = iv p) (h61 : iv' 61 = iv 61) (h62 : iv' 62 = iv 62) (h63 : iv' 63 = iv 63) : rImg iv' := by
  intro k hk
  obtain ⟨a, b, c⟩ := h k hk
  rw [hp 45 (by omega) (by omega), h62]
  exact ⟨a, b, fun x => (c x).congr (hp _ (by omega) (by omega)) (hp _ (by omega) (by omega)) (hp _ (by omega) (by omega)) (hp _ (by omega) (by omega)) h63 (by rw [h61])⟩
/-- what two calls answer alike -/
def Alk (y1 y2 : Nat) (as : List hV) (S : hS) : Prop := ∃ (r : Int32) (S1 S2 : hS), Ev y1 (.inr (some (9, 0)) :: as) S (some r, S1) ∧ Ev y2 (.inr (some (10, 57)) :: as) S1 (some r, S2) ∧ Rel S2
def made_w (j : Nat) : Int32 := if j = 2 then 90 else if j = 9 then 1 else if j = 10 then 1 else 0
theorem made_t1 : ∀ j, j < 16 → (7, j, made_w j) ∈ hIvT ∧ (58, j, made_w j) ∈ hIvT := by decide +kernel
theorem made_t2 : ∀ k, k < 40 → (58, 19 + k, (0 : Int32)) ∈ hIvT := by decide +kernel
def made_s (j : Nat) : Int32 := if j = 0 then 100 else if j = 1 then 130 else if j = 2 then 4 else if j = 3 then 30 else if j = 4 then 72 else 3
theorem made_t3 : ∀ j, j < 6 → (1, j, made_s j) ∈ hIvT ∧ (63, j, made_s j) ∈ hIvT := by decide +kernel
theorem made_set : okSet made_s := ⟨⟨by decide, by decide⟩, ⟨by decide, by decide⟩, ⟨by decide, by decide⟩, ⟨by decide, by decide⟩, ⟨by decide, by decide⟩, ⟨by decide, by decide⟩⟩
theorem okSet.congr {a b : Nat → Int32} (h : okSet a) (e : ∀ j, j < 6 → b j = a j) : okSet b := by
  unfold okSet at *
  rw [e 0 (by decide), e 1 (by decide), e 2 (by decide), e 3 (by decide), e 4 (by decide), e 5 (by decide)]
  exact h
theorem wRng.congr {st st' u v : Nat → Int32} (h : wRng st u) (e4 : st' 4 = st 4) (e : ∀ j, j < 16 → v j = u j) : wRng st' v := by
  unfold wRng at *
  rw [e4, e 0 (by decide), e 1 (by decide), e 2 (by decide), e 3 (by decide), e 4 (by decide), e 5 (by decide), e 6 (by decide), e 7 (by decide), e 8 (by decide), e 9 (by decide), e 10 (by decide), e 15 (by decide)]
  exact h
theorem wPot.congr {u v : Nat → Int32} (h : wPot u) (e0 : v 0 = u 0) (e1 : v 1 = u 1) (e2 : v 2 = u 2) : wPot v := by
  unfold wPot at *
  rw [e0, e1, e2]
  exact h
theorem made_rng : wRng made_s made_w := by
  refine ⟨Or.inl rfl, ⟨by decide, by decide⟩, ⟨by decide, by decide⟩, ⟨by decide, by decide⟩, ⟨by decide, by decide⟩, ⟨by decide, by decide⟩, ⟨by decide, by decide⟩, ⟨by decide, by decide⟩, ⟨by decide, by decide⟩, Or.inr rfl, Or.inr rfl, Or.inl rfl⟩
theorem made_pot : wPot made_w := by
  refine ⟨fun _ => by decide, fun h => absurd rfl h, fun h => absurd h (by decide)⟩
theorem rel_made {S : hS} (h1 : S.1 = hLam) (h2 : ∀ q ∈ hRvT, S.2.2 q.1 q.2.1 = some (q.2.2.1, q.2.2.2)) (h3 : ∀ q ∈ hIvT, S.2.1 q.1 q.2.1 = q.2.2) : Rel S := by
  have g : ∀ (c j : Nat) (x : Int32), (c, j, x) ∈ hIvT → S.2.1 c j = x := fun c j x h => h3 (c, j, x) h
  have e63 : ∀ j, j < 6 → S.2.1 63 j = made_s j := fun j hj => g _ _ _ (made_t3 j hj).2
  have e58 : ∀ j, j < 16 → S.2.1 58 j = made_w j := fun j hj => g _ _ _ (made_t1 j hj).2
  have z : ∀ (c j : Nat), (c, j, (0 : Int32)) ∈ hIvT → S.2.1 c j = nI 0 := fun c j h => g c j 0 h
  refine ⟨⟨h1, h2⟩, ⟨made_set.congr e63, fun j hj => ?_⟩, ⟨0, by decide, z 2 1 (by decide +kernel), z 57 8 (by decide +kernel), fun k h => absurd h (by omega)⟩, ⟨⟨fun j hj => ?_, ?_, ?_, ?_, 0, 0, by decide, by decide, z 8 1 (by decide +kernel), z 58 18 (by decide +kernel), fun k h => absurd h (by omega)⟩, ?_⟩, ⟨0, 0, by decide, by decide, z 10 1 (by decide +kernel), z 10 2 (by decide +kernel), z 57 3 (by decide +kernel), fun k h => absurd h (by omega)⟩, ?_, ⟨0, by decide, z 46 4 (by decide +kernel), z 57 24 (by decide +kernel), fun k h => absurd h (by omega)⟩⟩
  · rw [e63 j hj, g _ _ _ (made_t3 j hj).1]
  · show S.2.1 7 j = S.2.1 58 j
    rw [e58 j hj, g _ _ _ (made_t1 j hj).1]
  · rw [z 6 2 (by decide +kernel), z 58 16 (by decide +kernel)]
  · rw [z 6 3 (by decide +kernel), z 58 17 (by decide +kernel)]
  · show S.2.1 8 2 = S.2.1 58 18
    rw [z 8 2 (by decide +kernel), z 58 18 (by decide +kernel)]
  · refine ⟨made_rng.congr (e63 4 (by decide)) e58, made_pot.congr (e58 0 (by decide)) (e58 1 (by decide)) (e58 2 (by decide)), ?_, ?_, fun k hk => ?_⟩
    · rw [g 58 16 0 (by decide +kernel)]; exact ⟨by decide, by decide⟩
    · rw [g 58 18 0 (by decide +kernel)]; exact ⟨by decide, by decide⟩
    · rw [g 58 (19 + k) 0 (made_t2 k hk)]; exact ⟨by decide, by decide⟩
  · intro k hk
    have e1 : S.2.1 45 k = 0 := by
      match k, hk with
      | 0, _ => exact g 45 0 0 (by decide +kernel)
      | 1, _ => exact g 45 1 0 (by decide +kernel)
      | n + 2, h => exact absurd h (by omega)
    have e2 : S.2.1 62 k = 0 := by
      match k, hk with
      | 0, _ => exact g 62 0 0 (by decide +kernel)
      | 1, _ => exact g 62 1 0 (by decide +kernel)
      | n + 2, h => exact absurd h (by omega)
    rw [e1, e2]
    exact ⟨Or.inl rfl, rfl, fun h => absurd h (by decide)⟩
