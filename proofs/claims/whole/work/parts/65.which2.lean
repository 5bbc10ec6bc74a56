/-! which, all of it. -/
def okW (st w d : Nat → Int32) (z : Nat) : Prop := okSet st ∧ wRng st w ∧ wPot w ∧ z ≤ 6 ∧ ∀ i, i < z → bt (d (3 * i)) 1 20 ∧ bt (d (3 * i + 1)) 0 40
def cCx (st w d : Nat → Int32) (z : Nat) (T : hS) : Prop := hLay T ∧ T.2.1 1 = st ∧ T.2.1 7 = w ∧ T.2.1 46 4 = nI z ∧ ∀ j, j < z → T.2.1 47 j = d (3 * j) ∧ T.2.1 48 j = d (3 * j + 1) ∧ T.2.1 49 j = d (3 * j + 2)
def mCx (st w d : Nat → Int32) (z : Nat) (T : hS) : Prop := hLay T ∧ T.2.1 63 = st ∧ T.2.1 58 = w ∧ T.2.1 57 24 = nI z ∧ T.2.1 70 = d
theorem cCx.fr {st w d : Nat → Int32} {z : Nat} {T T' : hS} (h : cCx st w d z T) (f : hFr T T' (fun p => p = 50 ∨ p = 56)) : cCx st w d z T' := by
  obtain ⟨a, b, c, e, g⟩ := h
  have k := f.2.2
  refine ⟨a.fr f, ?_, ?_, ?_, ?_⟩
  · rw [k 1 (by decide)]; exact b
  · rw [k 7 (by decide)]; exact c
  · rw [k 46 (by decide)]; exact e
  · rw [k 47 (by decide), k 48 (by decide), k 49 (by decide)]; exact g
theorem mCx.fr {st w d : Nat → Int32} {z : Nat} {T T' : hS} (h : mCx st w d z T) (f : hFr T T' (fun p => p = 59 ∨ p = 71)) : mCx st w d z T' := by
  obtain ⟨a, b, c, e, g⟩ := h
  have k := f.2.2
  refine ⟨a.fr f, ?_, ?_, ?_, ?_⟩
  · rw [k 63 (by decide)]; exact b
  · rw [k 58 (by decide)]; exact c
  · rw [k 57 (by decide)]; exact e
  · rw [k 70 (by decide)]; exact g
def aI (st w d : Nat → Int32) (z : Nat) (k : Nat) : Int32 := agr (sEx st w d (nI k)) (fun i => d (3 * i + 2)) z 0
theorem e_agrees {st w d : Nat → Int32} {z : Nat} (o : okW st w d z) (k : Nat) (hk : k ≤ 5) (T : hS) (h : cCx st w d z T) : ∃ w', Ev 135 [.inr (some (9, 0)), .inl (nI k)] T (some (aI st w d z k), hRow T 56 w') := by
  obtain ⟨w', q⟩ := ag_l (nI k) (bt_n (by omega) (by omega)) st w d o.1 o.2.1 o.2.2.1 z o.2.2.2.1 o.2.2.2.2 z 0 T (by omega) h.1 h.2.1 h.2.2.1 h.2.2.2.1 h.2.2.2.2
  refine ⟨w', ?_⟩
  show Rn hc_X9_agreesWithSeen 0 [some (.inr (some (9, 0))), some (.inl (nI k)), none] [] T _
  iterate 2 refine r_step rfl rfl ?_
  exact q
theorem e_isSo {st w d : Nat → Int32} {z : Nat} (o : okW st w d z) (k : Nat) (hk : k ≤ 5) (T : hS) (h : mCx st w d z T) : ∃ w', Ev 158 [.inr (some (10, 57)), .inl (nI k)] T (some (aI st w d z k), hRow T 59 w') := by
  obtain ⟨w', q⟩ := so_l (nI k) (bt_n (by omega) (by omega)) st w d o.1 o.2.1 o.2.2.1 z o.2.2.2.1 o.2.2.2.2 z 0 T (by omega) h.1 h.2.1 h.2.2.1 h.2.2.2.1 h.2.2.2.2
  refine ⟨w', ?_⟩
  show Rn hc_X10_isSo 0 [some (.inr (some (10, 57))), some (.inl (nI k)), none, none] [] T _
  iterate 4 refine r_step rfl rfl ?_
  exact q
theorem pi_l {st w d : Nat → Int32} {z : Nat} (o : okW st w d z) : ∀ (c k : Nat) (T : hS), k + c = 6 → cCx st w d z T → ∃ w', Rn hc_X9_possibleIce 4 [some (.inr (some (9, 0))), some (.inl (pI (aI st w d z) k)), some (.inl (nI k))] [] T (some (pI (aI st w d z) 6), hRow T 56 w') := by
  intro c
  induction c with
  | zero =>
    intro k T hk h
    have : k = 6 := by omega
    subst this
    refine ⟨T.2.1 56, ?_⟩
    rw [hRow_self]
    iterate 3 refine r_step rfl rfl ?_
    refine r_i_gt (fun _ => ?_) (fun q => absurd (show (5 : Int32) < nI 6 by decide) q)
    refine r_step rfl rfl ?_
    exact r_reti rfl rfl rfl
  | succ c ih =>
    intro k T hk h
    obtain ⟨u, a⟩ := e_agrees o k (by omega) T h
    obtain ⟨w', ihk⟩ := ih (k + 1) (hRow T 56 u) (by omega) (h.fr (hFr_row _ _ _ (Or.inr rfl)))
    rw [hRow_row, pI_s] at ihk
    refine ⟨w', ?_⟩
    iterate 3 refine r_step rfl rfl ?_
    refine r_i_gt (fun q => absurd q (ngt_lit (N := 5) rfl (by decide) (by omega))) (fun _ => ?_)
    iterate 2 refine r_step rfl rfl ?_
    refine r_call rfl rfl a ?_
    refine r_step rfl rfl ?_
    by_cases e : aI st w d z k = 0
    · rw [if_pos e] at ihk
      refine r_i_eq (fun _ => ?_) (fun q => absurd e q)
      iterate 2 refine r_step rfl rfl ?_
      show Rn hc_X9_possibleIce 4 [some (.inr (some (9, 0))), some (.inl (pI (aI st w d z) k)), some (.inl (nI k + 1))] [] _ _
      rw [nI_s1]
      exact ihk
    · rw [if_neg e] at ihk
      refine r_i_eq (fun q => absurd q e) (fun _ => ?_)
      iterate 8 refine r_step rfl rfl ?_
      show Rn hc_X9_possibleIce 4 [some (.inr (some (9, 0))), some (.inl (pI (aI st w d z) k ||| (1 <<< (nI k &&& 31)))), some (.inl (nI k + 1))] [] _ _
      rw [nI_s1]
      exact ihk
theorem e_possible {st w d : Nat → Int32} {z : Nat} (o : okW st w d z) (T : hS) (h : cCx st w d z T) : ∃ w', Ev 154 [.inr (some (9, 0))] T (some (pI (aI st w d z) 6), hRow T 56 w') := by
  obtain ⟨w', q⟩ := pi_l o 6 0 T (by omega) h
  refine ⟨w', ?_⟩
  show Rn hc_X9_possibleIce 0 [some (.inr (some (9, 0))), none, none] [] T _
  iterate 4 refine r_step rfl rfl ?_
  exact q
theorem wm_l {st w d : Nat → Int32} {z : Nat} (o : okW st w d z) : ∀ (c k : Nat) (T : hS), k + c = 6 → mCx st w d z T → ∃ w', Rn hc_X10_which 4 [some (.inr (some (10, 57))), some (.inl (pI (aI st w d z) k)), some (.inl (nI k))] [] T (some (pI (aI st w d z) 6), hRow T 59 w') := by
  intro c
  induction c with
  | zero =>
    intro k T hk h
    have : k = 6 := by omega
    subst this
    refine ⟨T.2.1 59, ?_⟩
    rw [hRow_self]
    iterate 3 refine r_step rfl rfl ?_
    refine r_i_ge (fun _ => ?_) (fun q => absurd (show (6 : Int32) ≤ nI 6 by decide) q)
    refine r_step rfl rfl ?_
    exact r_reti rfl rfl rfl
  | succ c ih =>
    intro k T hk h
    obtain ⟨u, a⟩ := e_isSo o k (by omega) T h
    obtain ⟨w', ihk⟩ := ih (k + 1) (hRow T 59 u) (by omega) (h.fr (hFr_row _ _ _ (Or.inl rfl)))
    rw [hRow_row, pI_s] at ihk
    obtain ⟨m, hm, em⟩ := pI_n (aI st w d z) k (by omega)
    refine ⟨w', ?_⟩
    iterate 3 refine r_step rfl rfl ?_
    refine r_i_ge (fun q => absurd q (lt_lit (N := 6) rfl (by decide) (by omega))) (fun _ => ?_)
    iterate 3 refine r_step rfl rfl ?_
    refine r_call rfl rfl a ?_
    refine r_step rfl rfl ?_
    by_cases e : aI st w d z k = 0
    · rw [if_pos e] at ihk
      refine r_i_eq (fun _ => ?_) (fun q => absurd e q)
      iterate 2 refine r_step rfl rfl ?_
      have hm2 : m < 64 := Nat.lt_of_lt_of_le hm (Nat.pow_le_pow_right (by decide) (show k ≤ 6 by omega))
      rw [em, pI_o m hm2, ← em]
      iterate 3 refine r_step rfl rfl ?_
      show Rn hc_X10_which 4 [some (.inr (some (10, 57))), some (.inl (pI (aI st w d z) k)), some (.inl (nI k + 1))] [] _ _
      rw [nI_s1]
      exact ihk
    · rw [if_neg e] at ihk
      refine r_i_eq (fun q => absurd q e) (fun _ => ?_)
      iterate 8 refine r_step rfl rfl ?_
      show Rn hc_X10_which 4 [some (.inr (some (10, 57))), some (.inl (pI (aI st w d z) k ||| (1 <<< (nI k &&& 31)))), some (.inl (nI k + 1))] [] _ _
      rw [nI_s1]
      exact ihk
theorem e_mwhich {st w d : Nat → Int32} {z : Nat} (o : okW st w d z) (T : hS) (h : mCx st w d z T) : ∃ w', Ev 162 [.inr (some (10, 57))] T (some (pI (aI st w d z) 6), hRow T 59 w') := by
  obtain ⟨w', q⟩ := wm_l o 6 0 T (by omega) h
  refine ⟨w', ?_⟩
  show Rn hc_X10_which 0 [some (.inr (some (10, 57))), none, none] [] T _
  iterate 4 refine r_step rfl rfl ?_
  exact q
/-- the two contexts of a state in the relation -/
theorem ctx {S : hS} (h : Rel S) : ∃ z, okW (S.2.1 1) (S.2.1 7) (S.2.1 70) z ∧ okW (S.2.1 63) (S.2.1 58) (S.2.1 70) z ∧ cCx (S.2.1 1) (S.2.1 7) (S.2.1 70) z S ∧ mCx (S.2.1 63) (S.2.1 58) (S.2.1 70) z S ∧ eq16 (S.2.1 7) (S.2.1 58) ∧ (∀ j, j < 6 → S.2.1 1 j = S.2.1 63 j) := by
  have hL := h.1
  have hm := h.2.2.2.1
  obtain ⟨z, k1, k2, k3, k4⟩ := h.2.2.2.2.2.2
  have e16 : eq16 (S.2.1 7) (S.2.1 58) := hm.1.1
  have hsC : okSet (S.2.1 1) := h.2.1.1.congr h.2.1.2
  have hrC : wRng (S.2.1 1) (S.2.1 7) := hm.2.1.congr (h.2.1.2 4 (by decide)) e16
  have hpC : wPot (S.2.1 7) := hm.2.2.1.congr (e16 0 (by decide)) (e16 1 (by decide)) (e16 2 (by decide))
  refine ⟨z, ⟨hsC, hrC, hpC, k1, fun i hi => ⟨(k4 i hi).2.1, (k4 i hi).2.2.1⟩⟩, ⟨h.2.1.1, hm.2.1, hm.2.2.1, k1, fun i hi => ⟨(k4 i hi).2.1, (k4 i hi).2.2.1⟩⟩, ⟨hL, rfl, rfl, k2, fun j hj => (k4 j hj).1⟩, ⟨hL, rfl, rfl, k3, rfl⟩, e16, h.2.1.2⟩
theorem aI_c {a b w u : Nat → Int32} (s : ∀ j, j < 6 → a j = b j) (h : eq16 w u) (d : Nat → Int32) (z k : Nat) : aI a w d z k = aI b u d z k := agr_c z 0 (fun _ _ => ⟨sAf_c s h _ _ _, rfl⟩)
theorem mCx.sh {st w d : Nat → Int32} {z : Nat} {T T' : hS} (h : mCx st w d z T) (f : hFr T T' (fun p => p = 50 ∨ p = 56)) : mCx st w d z T' := by
  obtain ⟨a, b, c, e, g⟩ := h
  have k := f.2.2
  refine ⟨a.fr f, ?_, ?_, ?_, ?_⟩
  · rw [k 63 (by decide)]; exact b
  · rw [k 58 (by decide)]; exact c
  · rw [k 57 (by decide)]; exact e
  · rw [k 70 (by decide)]; exact g
theorem a_which {S : hS} (h : Rel S) : Alk 161 162 [] S := by
  obtain ⟨z, o1, o2, c1, c2, e16, es⟩ := ctx h
  obtain ⟨u, a⟩ := e_possible o1 S c1
  have f : hFr S (hRow S 56 u) (fun p => p = 50 ∨ p = 56) := hFr_row _ _ _ (Or.inr rfl)
  obtain ⟨w', b⟩ := e_mwhich o2 (hRow S 56 u) (c2.sh f)
  rw [pI_c 6 (fun i _ => aI_c es e16 (S.2.1 70) z i)] at a
  refine ⟨_, hRow S 56 u, hRow (hRow S 56 u) 59 w', ?_, b, ?_⟩
  · show Rn hc_X9_which 0 [some (.inr (some (9, 0)))] [] S _
    refine r_step rfl rfl ?_
    refine r_call rfl rfl a ?_
    exact r_reti rfl rfl rfl
  · refine rel_scr h ((hFr_row _ _ _ (by unfold pScr; omega)).trans (hFr_row _ _ _ (by unfold pScr; omega))) ?_ ?_ ?_ <;> rw [hRow_ne _ _ (by decide), hRow_ne _ _ (by decide)]
