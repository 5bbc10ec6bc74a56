/-! One tick, on both sides. -/
theorem r40 : ∀ n, n < 40 → (if nI n + 1 = 40 then (0 : Int32) else nI n + 1) = nI ((n + 1) % 40) := by decide +kernel
theorem j40 : ∀ z, z < 41 → jmin 40 (nI z + 1) = nI (min 40 (z + 1)) ∧ nI z + (if (40 : Int32) ≤ nI z then 0 else 1) = nI (min 40 (z + 1)) := by decide +kernel
theorem b40 : ∀ z, z < 41 → (0 ≤ (nI z).toInt ∧ (nI z).toInt ≤ 40) := by decide +kernel
theorem mSpd_lo (v : Nat → Int32) {j : Nat} (h : j < 18) (h16 : j ≠ 16) : mSpd v j = v j := by
  unfold mSpd
  rw [pk_un h16, pk_un (by omega), pk_un (by omega)]
  exact if_neg (by omega)
theorem mSpd_16 (v : Nat → Int32) : mSpd v 16 = v 16 + 1 := pk_us
theorem mSpd_18 (v : Nat → Int32) : mSpd v 18 = v 18 + (if (40 : Int32) ≤ v 18 then 0 else 1) := by
  unfold mSpd
  rw [pk_un (by decide), pk_us]
theorem mSpd_19 (v : Nat → Int32) : mSpd v 19 = v 1 := by
  unfold mSpd
  rw [pk_un (by decide), pk_un (by decide), pk_us]
theorem mSpd_hi (v : Nat → Int32) {k : Nat} (h : k < 39) : mSpd v (19 + (k + 1)) = v (19 + k) := by
  unfold mSpd
  rw [pk_un (by omega), pk_un (by omega), pk_un (by omega)]
  unfold nsh
  rw [if_pos (by omega)]
  exact congrArg v (by omega)
theorem mom_tick {sc st m w t a u m' : Nat → Int32} {n z : Nat} (hs : okSet st) (s : ∀ j, j < 6 → sc j = st j) (q1 : ∀ j, j < 16 → w j = u j) (q2 : m 2 = u 16) (q3 : m 3 = u 17) (q4 : t 2 = u 18) (g1 : n < 40) (g2 : z ≤ 40) (g3 : t 1 = nI n) (g4 : u 18 = nI z) (g5 : ∀ k, k < z → a ((n + 39 - k) % 40) = u (19 + k)) (hi : mInv st u) (hu : (u 16).toInt < 9999)
    (e2 : m' 2 = m 2 + 1) (e3 : m' 3 = m 3 + (if ¬ w 0 = 5 ∧ wStep sc w 0 = 5 then 1 else 0)) : mRel m' (wStep sc w) (tAdd t) (upd a n (wStep sc w 1)) (mSpd (mGoes st u)) ∧ mInv st (mSpd (mGoes st u)) := by
  obtain ⟨i1, i2, i3, i4, i5⟩ := hi
  obtain ⟨k1, k2, k3, k4, -⟩ := step_inv hs i1 i2
  have ge := (goes_eq hs i1).1
  have c := wStep_c (a := sc) (b := st) q1 s
  have lo : ∀ j, j < 16 → mSpd (mGoes st u) j = wStep st u j := fun j hj => by rw [mSpd_lo _ (by omega) (by omega), ge, pk_un (by omega)]
  have v16 : mGoes st u 16 = u 16 := by rw [ge, pk_un (by decide), k3 16 (by decide)]
  have v17 : mGoes st u 17 = u 17 + (if wStep st u 0 = 5 then (if u 0 = 5 then 0 else 1) else 0) := by rw [ge, pk_us, k4]
  have vh : ∀ j, 18 ≤ j → mGoes st u j = u j := fun j hj => by rw [ge, pk_un (by omega), k3 j (by omega)]
  have w16 : mSpd (mGoes st u) 16 = u 16 + 1 := by rw [mSpd_16, v16]
  have w18 : mSpd (mGoes st u) 18 = nI (min 40 (z + 1)) := by rw [mSpd_18, vh 18 (by decide), g4, (j40 z (by omega)).2]
  have w19 : mSpd (mGoes st u) 19 = wStep st u 1 := by rw [mSpd_19, ge, pk_un (by decide)]
  refine ⟨⟨fun j hj => by rw [lo j hj]; exact c j hj, by rw [e2, q2, w16], ?_, ?_, (n + 1) % 40, min 40 (z + 1), Nat.mod_lt _ (by decide), by omega, ?_, w18, fun k hk => ?_⟩, ⟨k1.congr rfl lo, k2.congr (lo 0 (by decide)) (lo 1 (by decide)) (lo 2 (by decide)), ?_, ?_, fun k hk => ?_⟩⟩
  · rw [e3, q3, mSpd_lo _ (by decide) (by decide), v17, c 0 (by decide), q1 0 (by decide)]
    by_cases d1 : wStep st u 0 = 5
    · by_cases d2 : u 0 = 5
      · rw [if_neg (fun q => q.1 d2), if_pos d1, if_pos d2]
      · rw [if_pos ⟨d2, d1⟩, if_pos d1, if_neg d2]
    · rw [if_neg (fun q => d1 q.2), if_neg d1]
  · show tAdd t 2 = _
    unfold tAdd
    rw [pk_us, q4, g4, (j40 z (by omega)).1, w18]
  · show tAdd t 1 = _
    unfold tAdd
    rw [pk_un (by decide), pk_us, g3, r40 n g1]
  · by_cases k0 : k = 0
    · subst k0
      rw [show ((n + 1) % 40 + 39 - 0) % 40 = n by omega, pk_us]
      exact (c 1 (by decide)).trans w19.symm
    · obtain ⟨y, rfl⟩ : ∃ y, k = y + 1 := ⟨k - 1, by omega⟩
      rw [show ((n + 1) % 40 + 39 - (y + 1)) % 40 = (n + 39 - y) % 40 by omega, pk_un (by omega), mSpd_hi _ (by omega), vh _ (by omega)]
      exact g5 y (by omega)
  · rw [w16]
    obtain ⟨b1, b2⟩ := i3
    have e : (u 16 + 1).toInt = (u 16).toInt + (1 : Int32).toInt := i_add (by have : (1 : Int32).toInt = 1 := rfl; omega) (by have : (1 : Int32).toInt = 1 := rfl; omega)
    have f : (1 : Int32).toInt = 1 := rfl
    exact ⟨by omega, by omega⟩
  · rw [w18]
    exact b40 _ (by omega)
  · by_cases k0 : k = 0
    · subst k0
      rw [w19]
      exact k1.2.1
    · obtain ⟨y, rfl⟩ : ∃ y, k = y + 1 := ⟨k - 1, by omega⟩
      rw [mSpd_hi _ (by omega), vh _ (by omega)]
      exact i5 y (by omega)
