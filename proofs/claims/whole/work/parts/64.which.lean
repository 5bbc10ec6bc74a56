/-! which. -/
def agr (E c : Nat → Int32) : Nat → Nat → Int32
  | 0, _ => 1
  | d + 1, i => if E i = c i then agr E c d (i + 1) else 0
theorem agr_s (E c : Nat → Int32) (d i : Nat) : agr E c (d + 1) i = if E i = c i then agr E c d (i + 1) else 0 := rfl
theorem agr_c {E F c e : Nat → Int32} : ∀ d i, (∀ j, j < i + d → E j = F j ∧ c j = e j) → agr E c d i = agr F e d i
  | 0, _, _ => rfl
  | d + 1, i, h => by rw [agr_s, agr_s, agr_c d (i + 1) (fun j hj => h j (by omega)), (h i (by omega)).1, (h i (by omega)).2]
/-- what a sight would have seen -/
def sEx (st w d : Nat → Int32) (ic : Int32) (i : Nat) : Int32 := sAf st w (d (3 * i)).toInt.toNat (d (3 * i + 1)) ic
theorem bt_toNat {x : Int32} {lo hi : Int} (h : bt x lo hi) (h0 : 0 ≤ lo) : x = nI x.toInt.toNat := by
  obtain ⟨a, b⟩ := h
  have r := i_rng x
  rw [i_eq, ti (by omega)]
  omega
theorem ag_l (ic : Int32) (h8 : bt ic 0 5) (st w d : Nat → Int32) (hs : okSet st) (hr : wRng st w) (hp : wPot w) (z : Nat) (hz : z ≤ 6) (hb : ∀ i, i < z → bt (d (3 * i)) 1 20 ∧ bt (d (3 * i + 1)) 0 40) : ∀ (k i : Nat) (T : hS), i + k = z → hLay T → T.2.1 1 = st → T.2.1 7 = w → T.2.1 46 4 = nI z → (∀ j, j < z → T.2.1 47 j = d (3 * j) ∧ T.2.1 48 j = d (3 * j + 1) ∧ T.2.1 49 j = d (3 * j + 2)) → ∃ w', Rn hc_X9_agreesWithSeen 2 [some (.inr (some (9, 0))), some (.inl ic), some (.inl (nI i))] [] T (some (agr (sEx st w d ic) (fun i => d (3 * i + 2)) k i), hRow T 56 w') := by
  intro k
  induction k with
  | zero =>
    intro i T hi hL e1 e7 e4 hd
    have : i = z := by omega
    subst this
    refine ⟨T.2.1 56, ?_⟩
    rw [hRow_self]
    iterate 2 refine r_step rfl rfl ?_
    refine r_getr rfl (rv_0_7 hL) ?_
    iterate 2 refine r_step rfl rfl ?_
    rw [e4]
    refine r_i_ge (fun _ => ?_) (fun q => absurd (nI_le (Nat.le_refl _) (by omega)) q)
    refine r_step rfl rfl ?_
    exact r_retz rfl (Or.inr rfl) rfl rfl
  | succ k ih =>
    intro i T hi hL e1 e7 e4 hd
    obtain ⟨b1, b2⟩ := hb i (by omega)
    obtain ⟨d1, d2, d3⟩ := hd i (by omega)
    have en := bt_toNat b1 (by omega)
    obtain ⟨u, a⟩ := e_speedAfter (d (3 * i)).toInt.toNat (by have := b1.2; omega) (d (3 * i + 1)) ic b2 h8 T hL (by rw [e1]; exact hs) (by rw [e1, e7]; exact hr) (by rw [e7]; exact hp)
    rw [e1, e7, ← en] at a
    have hL1 : hLay (hRow T 56 u) := hL.row _ _
    have g : ∀ p, p ≠ 56 → (hRow T 56 u).2.1 p = T.2.1 p := fun p h => hRow_ne _ _ h
    obtain ⟨w', ihk⟩ := ih (i + 1) (hRow T 56 u) (by omega) hL1 (by rw [g 1 (by decide)]; exact e1) (by rw [g 7 (by decide)]; exact e7) (by rw [g 46 (by decide)]; exact e4) (by rw [g 47 (by decide), g 48 (by decide), g 49 (by decide)]; exact hd)
    rw [hRow_row] at ihk
    have start : ∀ o, Rn hc_X9_agreesWithSeen 51 [some (.inr (some (9, 0))), some (.inl ic), some (.inl (nI i))] [.inl (d (3 * i + 2)), .inl (sEx st w d ic i)] (hRow T 56 u) o → Rn hc_X9_agreesWithSeen 2 [some (.inr (some (9, 0))), some (.inl ic), some (.inl (nI i))] [] T o := by
      intro o q
      iterate 2 refine r_step rfl rfl ?_
      refine r_getr rfl (rv_0_7 hL) ?_
      iterate 2 refine r_step rfl rfl ?_
      rw [e4]
      refine r_i_ge (fun q => absurd q (nI_ge (by omega) (by omega))) (fun _ => ?_)
      iterate 3 refine r_step rfl rfl ?_
      refine r_i_ge (fun q => absurd q (lt_lit (N := 6) rfl (by decide) (by omega))) (fun _ => ?_)
      iterate 2 refine r_step rfl rfl ?_
      refine r_getr rfl (rv_0_7 hL) ?_
      refine r_getr rfl (rv_46_0 hL) ?_
      refine r_step rfl rfl ?_
      refine r_iald rfl i (ti (by omega)) ⟨⟨by decide, by decide⟩, by show i < 6; omega⟩ ?_
      refine r_step rfl rfl ?_
      refine r_getr rfl (rv_0_7 hL) ?_
      refine r_getr rfl (rv_46_1 hL) ?_
      refine r_step rfl rfl ?_
      refine r_iald rfl i (ti (by omega)) ⟨⟨by decide, by decide⟩, by show i < 6; omega⟩ ?_
      refine r_step rfl rfl ?_
      rw [d1, d2]
      refine r_call rfl rfl a ?_
      refine r_step rfl rfl ?_
      refine r_getr rfl (rv_0_7 hL1) ?_
      refine r_getr rfl (rv_46_2 hL1) ?_
      refine r_step rfl rfl ?_
      refine r_iald rfl i (ti (by omega)) ⟨⟨by decide, by decide⟩, by show i < 6; omega⟩ ?_
      rw [g 49 (by decide), d3]
      exact q
    rw [agr_s]
    by_cases c : sEx st w d ic i = d (3 * i + 2)
    · refine ⟨w', start _ ?_⟩
      rw [if_pos c]
      refine r_step rfl rfl ?_
      refine r_i_eq (fun _ => ?_) (fun q => absurd c q)
      iterate 2 refine r_step rfl rfl ?_
      show Rn hc_X9_agreesWithSeen 2 [some (.inr (some (9, 0))), some (.inl ic), some (.inl (nI i + 1))] [] _ _
      rw [nI_s1]
      exact ihk
    · refine ⟨u, start _ ?_⟩
      rw [if_neg c]
      refine r_step rfl rfl ?_
      refine r_i_eq (fun q => absurd q c) (fun _ => ?_)
      refine r_step rfl rfl ?_
      exact r_retz rfl (Or.inl rfl) rfl rfl
theorem so_x (ic i : Int32) (T : hS) : Rn hc_X10_isSo 4 [some (.inr (some (10, 57))), some (.inl ic), some (.inl 0), some (.inl i)] [] T (some 0, T) := by
  have out : Rn hc_X10_isSo 64 [some (.inr (some (10, 57))), some (.inl ic), some (.inl 0), some (.inl i)] [] T (some 0, T) := by
    refine r_step rfl rfl ?_
    exact r_retz rfl (Or.inl rfl) rfl rfl
  iterate 4 refine r_step rfl rfl ?_
  refine r_i_ge (fun _ => out) (fun _ => ?_)
  iterate 2 refine r_step rfl rfl ?_
  exact out
theorem so_l (ic : Int32) (h8 : bt ic 0 5) (st w d : Nat → Int32) (hs : okSet st) (hr : wRng st w) (hp : wPot w) (z : Nat) (hz : z ≤ 6) (hb : ∀ i, i < z → bt (d (3 * i)) 1 20 ∧ bt (d (3 * i + 1)) 0 40) : ∀ (k i : Nat) (T : hS), i + k = z → hLay T → T.2.1 63 = st → T.2.1 58 = w → T.2.1 57 24 = nI z → T.2.1 70 = d → ∃ w', Rn hc_X10_isSo 4 [some (.inr (some (10, 57))), some (.inl ic), some (.inl 1), some (.inl (nI i))] [] T (some (agr (sEx st w d ic) (fun i => d (3 * i + 2)) k i), hRow T 59 w') := by
  intro k
  induction k with
  | zero =>
    intro i T hi hL e1 e7 e4 hd
    have : i = z := by omega
    subst this
    refine ⟨T.2.1 59, ?_⟩
    rw [hRow_self]
    iterate 4 refine r_step rfl rfl ?_
    rw [e4]
    refine r_i_ge (fun _ => ?_) (fun q => absurd (nI_le (Nat.le_refl _) (by omega)) q)
    refine r_step rfl rfl ?_
    exact r_retz rfl (Or.inr rfl) rfl rfl
  | succ k ih =>
    intro i T hi hL e1 e7 e4 hd
    obtain ⟨b1, b2⟩ := hb i (by omega)
    have en := bt_toNat b1 (by omega)
    obtain ⟨u, a⟩ := e_speedBy (d (3 * i)).toInt.toNat (by have := b1.2; omega) (d (3 * i + 1)) ic b2 h8 T hL (by rw [e1]; exact hs) (by rw [e1, e7]; exact hr) (by rw [e7]; exact hp)
    rw [e1, e7, ← en] at a
    have hL1 : hLay (hRow T 59 u) := hL.row _ _
    have g : ∀ p, p ≠ 59 → (hRow T 59 u).2.1 p = T.2.1 p := fun p h => hRow_ne _ _ h
    obtain ⟨w', ihk⟩ := ih (i + 1) (hRow T 59 u) (by omega) hL1 (by rw [g 63 (by decide)]; exact e1) (by rw [g 58 (by decide)]; exact e7) (by rw [g 57 (by decide)]; exact e4) (by rw [g 70 (by decide)]; exact hd)
    rw [hRow_row] at ihk
    have start : ∀ o, Rn hc_X10_isSo 49 [some (.inr (some (10, 57))), some (.inl ic), some (.inl 1), some (.inl (nI i))] [.inl (d (3 * i + 2)), .inl (sEx st w d ic i)] (hRow T 59 u) o → Rn hc_X10_isSo 4 [some (.inr (some (10, 57))), some (.inl ic), some (.inl 1), some (.inl (nI i))] [] T o := by
      intro o q
      iterate 4 refine r_step rfl rfl ?_
      rw [e4]
      refine r_i_ge (fun q => absurd q (nI_ge (by omega) (by omega))) (fun _ => ?_)
      iterate 5 refine r_step rfl rfl ?_
      refine r_getr rfl (rv_57_23 hL) ?_
      iterate 3 refine r_step rfl rfl ?_
      rw [mul_lit (x := 3) (a := 3) (b := i) rfl]
      refine r_iald rfl (3 * i) (ti (by omega)) ⟨⟨by decide, by decide⟩, by show 3 * i < 18; omega⟩ ?_
      refine r_step rfl rfl ?_
      refine r_getr rfl (rv_57_23 hL) ?_
      iterate 5 refine r_step rfl rfl ?_
      rw [mul_lit (x := 3) (a := 3) (b := i) rfl, nI_s1]
      refine r_iald rfl (3 * i + 1) (ti (by omega)) ⟨⟨by decide, by decide⟩, by show 3 * i + 1 < 18; omega⟩ ?_
      rw [hd]
      refine r_call rfl rfl a ?_
      refine r_step rfl rfl ?_
      refine r_getr rfl (rv_57_23 hL1) ?_
      iterate 5 refine r_step rfl rfl ?_
      rw [mul_lit (x := 3) (a := 3) (b := i) rfl, add_lit (x := 2) (b := 2) rfl]
      refine r_iald rfl (3 * i + 2) (ti (by omega)) ⟨⟨by decide, by decide⟩, by show 3 * i + 2 < 18; omega⟩ ?_
      rw [g 70 (by decide), hd]
      exact q
    rw [agr_s]
    by_cases c : sEx st w d ic i = d (3 * i + 2)
    · refine ⟨w', start _ ?_⟩
      rw [if_pos c]
      refine r_step rfl rfl ?_
      refine r_i_ne (fun q => absurd c q) (fun _ => ?_)
      iterate 5 refine r_step rfl rfl ?_
      show Rn hc_X10_isSo 4 [some (.inr (some (10, 57))), some (.inl ic), some (.inl 1), some (.inl (nI i + 1))] [] _ _
      rw [nI_s1]
      exact ihk
    · refine ⟨u, start _ ?_⟩
      rw [if_neg c]
      refine r_step rfl rfl ?_
      refine r_i_ne (fun _ => ?_) (fun q => absurd q c)
      iterate 4 refine r_step rfl rfl ?_
      exact so_x _ _ _
def pI (A : Nat → Int32) : Nat → Int32
  | 0 => 0
  | k + 1 => if A k = 0 then pI A k else pI A k ||| (1 <<< (nI k &&& 31))
theorem pI_s (A : Nat → Int32) (k : Nat) : pI A (k + 1) = if A k = 0 then pI A k else pI A k ||| (1 <<< (nI k &&& 31)) := rfl
theorem pI_b : ∀ k, k < 6 → ∀ m, m < 2 ^ k → nI m ||| (1 <<< (nI k &&& 31)) = nI (m + 2 ^ k) := by decide +kernel
theorem pI_o : ∀ m, m < 64 → nI m ||| 0 = nI m := by decide +kernel
theorem pI_n (A : Nat → Int32) : ∀ k, k ≤ 6 → ∃ m, m < 2 ^ k ∧ pI A k = nI m
  | 0, _ => ⟨0, by decide, rfl⟩
  | k + 1, hk => by
    obtain ⟨m, h, e⟩ := pI_n A k (by omega)
    have p : 2 ^ (k + 1) = 2 ^ k * 2 := Nat.pow_succ 2 k
    rw [pI_s, e]
    by_cases c : A k = 0
    · rw [if_pos c]; exact ⟨m, by omega, rfl⟩
    · rw [if_neg c, pI_b k (by omega) m h]; exact ⟨m + 2 ^ k, by omega, rfl⟩
theorem pI_c {A B : Nat → Int32} : ∀ k, (∀ i, i < k → A i = B i) → pI A k = pI B k
  | 0, _ => rfl
  | k + 1, h => by rw [pI_s, pI_s, pI_c k (fun i hi => h i (by omega)), h k (by omega)]
