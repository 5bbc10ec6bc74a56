/-! What can be undone: one more is known on both sides. -/
theorem mInv.c59 {st u v : Nat → Int32} (h : mInv st u) (e : ∀ j, j < 59 → v j = u j) : mInv st v := by
  obtain ⟨a, b, c, d, f⟩ := h
  refine ⟨a.congr rfl (fun j hj => e j (by omega)), b.congr (e 0 (by omega)) (e 1 (by omega)) (e 2 (by omega)), ?_, ?_, fun k hk => ?_⟩
  · rw [e 16 (by omega)]; exact c
  · rw [e 18 (by omega)]; exact d
  · rw [e (19 + k) (by omega)]; exact f k hk
theorem mRel.c59 {m w t a u v : Nat → Int32} (h : mRel m w t a u) (e : ∀ j, j < 59 → v j = u j) : mRel m w t a v := by
  obtain ⟨h1, h2, h3, h4, n, z, g1, g2, g3, g4, g5⟩ := h
  refine ⟨fun j hj => by rw [e j (by omega)]; exact h1 j hj, by rw [e 16 (by omega)]; exact h2, by rw [e 17 (by omega)]; exact h3, by rw [e 18 (by omega)]; exact h4, n, z, g1, g2, g3, by rw [e 18 (by omega)]; exact g4, fun k hk => by rw [e (19 + k) (by omega)]; exact g5 k hk⟩
theorem rMom.c59 {iv : Nat → Nat → Int32} {c : Nat} {u v : Nat → Int32} (h : rMom iv c u) (e : ∀ j, j < 59 → v j = u j) : rMom iv c v := ⟨h.1.c59 e, h.2.c59 e⟩
/-- a copied moment is related to what its model was -/
theorem mRel.copy {S S' : hS} {c d : Nat} {u : Nat → Int32} (h : mRel (S.2.1 d) (S.2.1 (d + 1)) (S.2.1 (d + 2)) (S.2.1 (d + 3)) u) (m : momEq S' c S d) : mRel (S'.2.1 c) (S'.2.1 (c + 1)) (S'.2.1 (c + 2)) (S'.2.1 (c + 3)) u := by
  obtain ⟨h1, h2, h3, h4, n, z, g1, g2, g3, g4, g5⟩ := h
  obtain ⟨q1, q2, q3, q4, q5, q6⟩ := m
  exact ⟨fun j hj => by rw [q1 j hj]; exact h1 j hj, by rw [q5]; exact h2, by rw [q6]; exact h3, by rw [q3]; exact h4, n, z, g1, g2, by rw [q2]; exact g3, g4, fun k hk => by rw [q4 _ (Nat.mod_lt _ (by decide))]; exact g5 k hk⟩
theorem jmin6 {z : Nat} (h : z ≤ 6) : jmin 6 (nI z + 1) = nI (min 6 (z + 1)) := by
  have k : ∀ z, z ≤ 6 → jmin 6 (nI z + 1) = nI (min 6 (z + 1)) := by
    intro z hz
    match z, hz with
    | 0, _ | 1, _ | 2, _ | 3, _ | 4, _ | 5, _ | 6, _ => rfl
    | n + 7, h => exact absurd h (by omega)
  exact k z h
theorem rPast_add {S S' : hS} {p z : Nat} {u : Int32} (hp : p < 6) (hz : z ≤ 6) (old : ∀ i, i < z → rMom S.2.1 (12 + 4 * ((p + 5 - i) % 6)) (fun j => S.2.1 60 (59 * (z - 1 - i) + j))) (pres : rMom S.2.1 6 (S.2.1 58))
    (m : momEq S' (12 + 4 * p) S 6) (e1 : S'.2.1 10 1 = nI ((p + 1) % 6)) (e2 : S'.2.1 10 2 = nI (min 6 (z + 1))) (eu : u = nI (min 6 (z + 1))) (e60 : S'.2.1 60 = noted z (S.2.1 60) (S.2.1 58)) (e63 : S'.2.1 63 = S.2.1 63) (fr : ∀ q, 12 ≤ q → q < 36 → (q < 12 + 4 * p ∨ 16 + 4 * p ≤ q) → S'.2.1 q = S.2.1 q) : rPast S'.2.1 u := by
  refine ⟨(p + 1) % 6, min 6 (z + 1), Nat.mod_lt _ (by decide), by omega, e1, e2, eu, fun i hi => ?_⟩
  by_cases hi0 : i = 0
  · subst hi0
    have ep : ((p + 1) % 6 + 5 - 0) % 6 = p := by omega
    rw [ep]
    have k : rMom S'.2.1 (12 + 4 * p) (S.2.1 58) := ⟨pres.1.copy m, by rw [e63]; exact pres.2⟩
    refine k.c59 (fun j hj => ?_)
    show S'.2.1 60 (59 * (min 6 (z + 1) - 1 - 0) + j) = S.2.1 58 j
    rw [e60]
    unfold noted
    by_cases h6 : z = 6
    · subst h6
      rw [if_pos rfl]
      have := cp_at (f := sh (S.2.1 60) 0) (g := S.2.1 58) (a := 295) (b := 0) hj
      rw [Nat.zero_add] at this
      exact this
    · rw [if_neg h6, show min 6 (z + 1) - 1 - 0 = z by omega]
      have := cp_at (f := S.2.1 60) (g := S.2.1 58) (a := 59 * z) (b := 0) hj
      rw [Nat.zero_add] at this
      exact this
  · obtain ⟨y, rfl⟩ : ∃ y, i = y + 1 := ⟨i - 1, by omega⟩
    have hy : y < z := by omega
    have hy5 : y < 5 := by omega
    have es : ((p + 1) % 6 + 5 - (y + 1)) % 6 = (p + 5 - y) % 6 := by omega
    have ne : (p + 5 - y) % 6 ≠ p := by omega
    have lt : (p + 5 - y) % 6 < 6 := Nat.mod_lt _ (by decide)
    rw [es]
    have k := old y hy
    clear es
    generalize (p + 5 - y) % 6 = q at ne lt k ⊢
    have k2 : rMom S'.2.1 (12 + 4 * q) (fun j => S.2.1 60 (59 * (z - 1 - y) + j)) := k.congr (fr _ (by omega) (by omega) (by omega)) (fr _ (by omega) (by omega) (by omega)) (fr _ (by omega) (by omega) (by omega)) (fr _ (by omega) (by omega) (by omega)) e63 rfl
    refine k2.c59 (fun j hj => ?_)
    show S'.2.1 60 (59 * (min 6 (z + 1) - 1 - (y + 1)) + j) = S.2.1 60 (59 * (z - 1 - y) + j)
    rw [e60]
    unfold noted
    by_cases h6 : z = 6
    · subst h6
      rw [if_pos rfl, cp_out (Or.inl (by omega))]
      unfold sh
      rw [if_pos (by omega)]
      exact congrArg (S.2.1 60) (by omega)
    · rw [if_neg h6, cp_out (Or.inl (by omega))]
      exact congrArg (S.2.1 60) (by omega)
/-- class and model, before what is done: both note how it is -/
theorem note_both {S : hS} (h : Rel S) : ∃ S1, Ev 120 [.inr (some (1, 10)), .inr (some (0, 6))] S (none, S1) ∧ hFr S S1 (fun p => 10 ≤ p ∧ p < 36) ∧
    ∀ T : hS, (hLay T) → (∀ p, 57 ≤ p → T.2.1 p = S.2.1 p) → ∃ T1, Ev 14 [.inr (some (10, 57))] T (none, T1) ∧ hFr T T1 (fun p => p = 57 ∨ p = 60) ∧ (∀ k, k ≠ 3 → T1.2.1 57 k = T.2.1 57 k) ∧
      ∀ iv : Nat → Nat → Int32, (∀ p, 10 ≤ p → p < 36 → iv p = S1.2.1 p) → iv 60 = T1.2.1 60 → iv 63 = S.2.1 63 → rPast iv (T1.2.1 57 3) := by
  have hL := h.1
  obtain ⟨p, z, a1, a2, a3, a4, a5, a6⟩ := h.2.2.2.2.1
  have hr := h.2.2.2.1.2.1
  have hm := h.2.2.2.1.1
  obtain ⟨S1, b1, b2, b3, b4, b5⟩ := e_padd p S (lay_past hL) (mom_6 hL) a3 a1 (by rw [hm.1 9 (by decide)]; exact hr.2.2.2.2.2.2.2.2.2.1) (by rw [hm.1 10 (by decide)]; exact hr.2.2.2.2.2.2.2.2.2.2.1) (by rw [hm.1 15 (by decide)]; exact hr.2.2.2.2.2.2.2.2.2.2.2)
  rw [a4, jmin6 a2] at b5
  refine ⟨S1, b1, b3.mono (fun q hq => by rcases hq with rfl | hq <;> omega), fun T hT hrow => ?_⟩
  obtain ⟨T1, c1, c2, c3, c4⟩ := e_notes z T hT a2 (by rw [hrow 57 (by omega)]; exact a5)
  refine ⟨T1, c1, c2, fun k hk => by rw [c4, pk_un hk], fun iv i1 i2 i3 => ?_⟩
  have key := rPast_add (S := S) (S' := (S.1, iv, S.2.2)) (p := p) (z := z) (u := T1.2.1 57 3) a1 a2 a6 h.2.2.2.1 ?_ ?_ ?_ ?_ ?_ ?_ ?_
  · exact key
  · obtain ⟨q1, q2, q3, q4, q5, q6⟩ := b2
    refine ⟨fun j hj => ?_, ?_, ?_, fun j hj => ?_, ?_, ?_⟩
    · show iv (12 + 4 * p + 1) j = _
      rw [i1 _ (by omega) (by omega)]; exact q1 j hj
    · show iv (12 + 4 * p + 2) 1 = _
      rw [i1 _ (by omega) (by omega)]; exact q2
    · show iv (12 + 4 * p + 2) 2 = _
      rw [i1 _ (by omega) (by omega)]; exact q3
    · show iv (12 + 4 * p + 3) j = _
      rw [i1 _ (by omega) (by omega)]; exact q4 j hj
    · show iv (12 + 4 * p) 2 = _
      rw [i1 _ (by omega) (by omega)]; exact q5
    · show iv (12 + 4 * p) 3 = _
      rw [i1 _ (by omega) (by omega)]; exact q6
  · show iv 10 1 = _
    rw [i1 10 (by omega) (by omega)]; exact b4
  · show iv 10 2 = _
    rw [i1 10 (by omega) (by omega)]; exact b5
  · rw [c4, pk_us]
  · show iv 60 = _
    rw [i2, c3, hrow 60 (by omega), hrow 58 (by omega)]
  · exact i3
  · intro q g1 g2 g3
    show iv q = _
    rw [i1 q (by omega) g2]
    exact b3.2.2 q (by omega)
