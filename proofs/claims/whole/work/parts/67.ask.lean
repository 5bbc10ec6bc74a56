/-! ask. -/
theorem mi_l (p : Int32) (V f : Nat → Int32) (wd : Int32) (i : Nat) (hi : i < 6) (T : hS) (hL : hLay T) (h71 : ∀ j, j < 6 → T.2.1 71 j = if bit p j = 1 then V j else -9) (nV : ∀ j, j < 6 → ¬ V j = -9) (l3 : Option hV) : ∀ (d j : Nat) (o : Option Int32 × hS), j + d = 6 → Rn hc_X10_mostAlike 112 [some (.inr (some (10, 57))), some (.inl p), some (.inl wd), l3, some (.inl (nI i)), some (.inl (nI (if bit p i = 1 then cU p V i 6 else 0))), some (.inl (nI 6))] [] T o → Rn hc_X10_mostAlike 60 [some (.inr (some (10, 57))), some (.inl p), some (.inl wd), l3, some (.inl (nI i)), some (.inl (nI (if bit p i = 1 then cU p V i j else 0))), some (.inl (nI j))] [] T o := by
  intro d
  induction d with
  | zero =>
    intro j o hj k
    have : j = 6 := by omega
    subst this
    iterate 3 refine r_step rfl rfl ?_
    exact r_i_ge (fun _ => k) (fun q => absurd (show (6 : Int32) ≤ nI 6 by decide) q)
  | succ d ih =>
    intro j o hj k
    have ihk := ih (j + 1) o (by omega) k
    have hi1 := h71 i hi
    have hj1 := h71 j (by omega)
    iterate 3 refine r_step rfl rfl ?_
    refine r_i_ge (fun q => absurd q (lt_lit (N := 6) rfl (by decide) (by omega))) (fun _ => ?_)
    iterate 2 refine r_step rfl rfl ?_
    refine r_getr rfl (rv_57_25 hL) ?_
    refine r_step rfl rfl ?_
    refine r_iald rfl i (ti (by omega)) ⟨⟨by decide, by decide⟩, by show i < 6; omega⟩ ?_
    have fin : ∀ x : Nat, nI (if bit p i = 1 then cU p V i (j + 1) else 0) = nI ((if bit p i = 1 then cU p V i j else 0) + x) → Rn hc_X10_mostAlike 103 [some (.inr (some (10, 57))), some (.inl p), some (.inl wd), l3, some (.inl (nI i)), some (.inl (nI (if bit p i = 1 then cU p V i j else 0))), some (.inl (nI j))] [.inl (nI x), .inl (nI (if bit p i = 1 then cU p V i j else 0))] T o := by
      intro x e
      rw [e] at ihk
      refine r_step rfl rfl ?_
      rw [nI_add]
      iterate 3 refine r_step rfl rfl ?_
      show Rn hc_X10_mostAlike 60 [some (.inr (some (10, 57))), some (.inl p), some (.inl wd), l3, some (.inl (nI i)), some (.inl (nI ((if bit p i = 1 then cU p V i j else 0) + x))), some (.inl (nI j + 1))] [] _ _
      rw [nI_s1]
      exact ihk
    have zero : nI (if bit p i = 1 then cU p V i (j + 1) else 0) = nI ((if bit p i = 1 then cU p V i j else 0) + 0) → Rn hc_X10_mostAlike 102 [some (.inr (some (10, 57))), some (.inl p), some (.inl wd), l3, some (.inl (nI i)), some (.inl (nI (if bit p i = 1 then cU p V i j else 0))), some (.inl (nI j))] [.inl (nI (if bit p i = 1 then cU p V i j else 0))] T o := by
      intro e
      refine r_step rfl rfl ?_
      exact fin 0 e
    iterate 2 refine r_step rfl rfl ?_
    by_cases bi : bit p i = 1
    · rw [if_pos bi] at hi1
      have e0 : ¬ (bit p j = 1 ∧ V j = V i) → nI (if bit p i = 1 then cU p V i (j + 1) else 0) = nI ((if bit p i = 1 then cU p V i j else 0) + 0) := fun c => by
        rw [if_pos bi, if_pos bi, cU_s, if_neg c]
      refine r_i_eq (fun q => absurd (hi1.symm.trans q) (nV i hi)) (fun _ => ?_)
      refine r_step rfl rfl ?_
      refine r_getr rfl (rv_57_25 hL) ?_
      refine r_step rfl rfl ?_
      refine r_iald rfl i (ti (by omega)) ⟨⟨by decide, by decide⟩, by show i < 6; omega⟩ ?_
      refine r_step rfl rfl ?_
      refine r_getr rfl (rv_57_25 hL) ?_
      refine r_step rfl rfl ?_
      refine r_iald rfl j (ti (by omega)) ⟨⟨by decide, by decide⟩, by show j < 6; omega⟩ ?_
      rw [hi1, hj1]
      refine r_step rfl rfl ?_
      refine r_i_ne (fun q => zero (e0 (fun w => q (by rw [if_pos w.1]; exact w.2.symm)))) (fun q => ?_)
      have bj : bit p j = 1 := by
        by_cases bj : bit p j = 1
        · exact bj
        · rw [if_neg bj] at q; exact absurd q (nV i hi)
      rw [if_pos bj] at q
      iterate 2 refine r_step rfl rfl ?_
      exact fin 1 (by rw [if_pos bi, if_pos bi, cU_s, if_pos ⟨bj, q.symm⟩])
    · rw [if_neg bi] at hi1
      refine r_i_eq (fun _ => zero (by rw [if_neg bi, if_neg bi])) (fun q => absurd hi1 q)
theorem mo_l (p : Int32) (V : Nat → Int32) (wd : Int32) (T : hS) (hL : hLay T) (h71 : ∀ j, j < 6 → T.2.1 71 j = if bit p j = 1 then V j else -9) (nV : ∀ j, j < 6 → ¬ V j = -9) : ∀ (d i : Nat) (l5 l6 : Option hV), i + d = 6 → Rn hc_X10_mostAlike 47 [some (.inr (some (10, 57))), some (.inl p), some (.inl wd), some (.inl (nI (mM p V i))), some (.inl (nI i)), l5, l6] [] T (some (nI (mM p V 6)), T) := by
  intro d
  induction d with
  | zero =>
    intro i l5 l6 hi
    have : i = 6 := by omega
    subst this
    iterate 3 refine r_step rfl rfl ?_
    refine r_i_ge (fun _ => ?_) (fun q => absurd (show (6 : Int32) ≤ nI 6 by decide) q)
    refine r_step rfl rfl ?_
    exact r_reti rfl rfl rfl
  | succ d ih =>
    intro i l5 l6 hi
    have bd : mM p V i ≤ mC p V 6 := mM_mC p V i
    have bd2 := mC_le p V 6
    have bc := cU_le p V i 6
    have hx : (if bit p i = 1 then cU p V i 6 else 0) ≤ 6 := by
      by_cases c : bit p i = 1
      · rw [if_pos c]; exact bc
      · rw [if_neg c]; omega
    iterate 3 refine r_step rfl rfl ?_
    refine r_i_ge (fun q => absurd q (lt_lit (N := 6) rfl (by decide) (by omega))) (fun _ => ?_)
    iterate 4 refine r_step rfl rfl ?_
    have e0 : (if bit p i = 1 then cU p V i 0 else 0) = 0 := by
      by_cases c : bit p i = 1
      · rw [if_pos c]; rfl
      · rw [if_neg c]
    have inner := mi_l p V V wd i (by omega) T hL h71 nV (some (.inl (nI (mM p V i)))) 6 0 (some (nI (mM p V 6)), T) (by omega)
    rw [e0] at inner
    refine inner ?_
    have ihk := fun l5 l6 => ih (i + 1) l5 l6 (by omega)
    rw [mM_s] at ihk
    generalize (if bit p i = 1 then cU p V i 6 else 0) = x at *
    iterate 3 refine r_step rfl rfl ?_
    have fin : ∀ y : Nat, y = max (mM p V i) x → Rn hc_X10_mostAlike 124 [some (.inr (some (10, 57))), some (.inl p), some (.inl wd), some (.inl (nI (mM p V i))), some (.inl (nI i)), some (.inl (nI x)), some (.inl (nI 6))] [.inl (nI y)] T (some (nI (mM p V 6)), T) := by
      intro y e
      rw [e]
      iterate 3 refine r_step rfl rfl ?_
      show Rn hc_X10_mostAlike 47 [some (.inr (some (10, 57))), some (.inl p), some (.inl wd), some (.inl (nI (max (mM p V i) x))), some (.inl (nI i + 1)), some (.inl (nI x)), some (.inl (nI 6))] [] _ _
      rw [nI_s1]
      exact ihk _ _
    refine r_i_le (fun q => ?_) (fun q => ?_)
    · refine r_step rfl rfl ?_
      refine fin _ ?_
      rw [i_le, ti (by omega), ti (by omega)] at q
      omega
    · iterate 2 refine r_step rfl rfl ?_
      refine fin _ ?_
      rw [i_le, ti (by omega), ti (by omega)] at q
      omega
theorem ms_l {st w d : Nat → Int32} {z : Nat} (o : okW st w d z) (p : Int32) (wd : Nat) (hw : wd ≤ 40) : ∀ (c k : Nat) (T : hS), k + c = 6 → mCx st w d z T → (∀ j, j < k → T.2.1 71 j = if bit p j = 1 then sAf st w 10 (nI wd) (nI j) else -9) → ∃ T', hFr T T' (fun p => p = 59 ∨ p = 71) ∧ (∀ j, j < 6 → T'.2.1 71 j = if bit p j = 1 then sAf st w 10 (nI wd) (nI j) else -9) ∧ (∀ o, Rn hc_X10_mostAlike 42 [some (.inr (some (10, 57))), some (.inl p), some (.inl (nI wd)), some (.inl (nI 6)), none, none, none] [] T' o → Rn hc_X10_mostAlike 2 [some (.inr (some (10, 57))), some (.inl p), some (.inl (nI wd)), some (.inl (nI k)), none, none, none] [] T o) := by
  intro c
  induction c with
  | zero =>
    intro k T hk h hf
    have : k = 6 := by omega
    subst this
    refine ⟨T, hFr.rf _ _, hf, fun o q => ?_⟩
    iterate 3 refine r_step rfl rfl ?_
    exact r_i_ge (fun _ => q) (fun q => absurd (show (6 : Int32) ≤ nI 6 by decide) q)
  | succ c ih =>
    intro k T hk h hf
    have hL := h.1
    have go : ∀ (T1 : hS) (x : Int32), hFr T T1 (fun p => p = 59 ∨ p = 71) → T1.2.1 71 = T.2.1 71 → (x = if bit p k = 1 then sAf st w 10 (nI wd) (nI k) else -9) → ∃ T', hFr T T' (fun p => p = 59 ∨ p = 71) ∧ (∀ j, j < 6 → T'.2.1 71 j = if bit p j = 1 then sAf st w 10 (nI wd) (nI j) else -9) ∧ (∀ o, Rn hc_X10_mostAlike 42 [some (.inr (some (10, 57))), some (.inl p), some (.inl (nI wd)), some (.inl (nI 6)), none, none, none] [] T' o → Rn hc_X10_mostAlike 35 [some (.inr (some (10, 57))), some (.inl p), some (.inl (nI wd)), some (.inl (nI k)), none, none, none] [.inl x, .inl (nI k), .inr (some (10006, 71))] T1 o) := by
      intro T1 x f1 e71 ex
      have f : hFr T (hPut T1 71 k x) (fun p => p = 59 ∨ p = 71) := f1.trans (hFr_put _ _ _ _ (Or.inr rfl))
      obtain ⟨T', a, b, b3⟩ := ih (k + 1) (hPut T1 71 k x) (by omega) (h.fr f) (fun j hj => by
        rw [hPut_at]
        by_cases e : j = k
        · rw [e, pk_us]; exact ex
        · rw [pk_un e, e71]; exact hf j (by omega))
      refine ⟨T', f.trans a, b, fun o q => ?_⟩
      refine r_iast0 rfl k (ti (by omega)) ⟨⟨by decide, by decide⟩, by show k < 6; omega⟩ ?_
      iterate 2 refine r_step rfl rfl ?_
      show Rn hc_X10_mostAlike 2 [some (.inr (some (10, 57))), some (.inl p), some (.inl (nI wd)), some (.inl (nI k + 1)), none, none, none] [] _ _
      rw [nI_s1]
      exact b3 o q
    have start : ∀ o, Rn hc_X10_mostAlike 19 [some (.inr (some (10, 57))), some (.inl p), some (.inl (nI wd)), some (.inl (nI k)), none, none, none] [.inl 1, .inl (bit p k), .inl (nI k), .inr (some (10006, 71))] T o → Rn hc_X10_mostAlike 2 [some (.inr (some (10, 57))), some (.inl p), some (.inl (nI wd)), some (.inl (nI k)), none, none, none] [] T o := by
      intro o q
      iterate 3 refine r_step rfl rfl ?_
      refine r_i_ge (fun q => absurd q (lt_lit (N := 6) rfl (by decide) (by omega))) (fun _ => ?_)
      refine r_step rfl rfl ?_
      refine r_getr rfl (rv_57_25 hL) ?_
      iterate 7 refine r_step rfl rfl ?_
      exact q
    by_cases b : bit p k = 1
    · obtain ⟨u, a⟩ := e_speedBy 10 (by decide) (nI wd) (nI k) (bt_n (by omega) (by omega)) (bt_n (by omega) (by omega)) T hL (by rw [h.2.1]; exact o.1) (by rw [h.2.1, h.2.2.1]; exact o.2.1) (by rw [h.2.2.1]; exact o.2.2.1)
      rw [h.2.1, h.2.2.1] at a
      obtain ⟨T', a1, a2, a3⟩ := go (hRow T 59 u) (sAf st w 10 (nI wd) (nI k)) (hFr_row _ _ _ (Or.inl rfl)) (hRow_ne _ _ (by decide)) (by rw [if_pos b])
      refine ⟨T', a1, a2, fun o q => start _ ?_⟩
      refine r_step rfl rfl ?_
      refine r_i_ne (fun q => absurd b q) (fun _ => ?_)
      iterate 4 refine r_step rfl rfl ?_
      refine r_call rfl rfl a ?_
      refine r_step rfl rfl ?_
      exact a3 o q
    · obtain ⟨T', a1, a2, a3⟩ := go T (-9) (hFr.rf _ _) rfl (by rw [if_neg b])
      refine ⟨T', a1, a2, fun o q => start _ ?_⟩
      refine r_step rfl rfl ?_
      refine r_i_ne (fun _ => ?_) (fun q => absurd q b)
      refine r_step rfl rfl ?_
      exact a3 o q
theorem e_mmostAlike {st w d : Nat → Int32} {z : Nat} (o : okW st w d z) (p : Int32) (wd : Nat) (hw : wd ≤ 40) (T : hS) (h : mCx st w d z T) : ∃ T', Ev 159 [.inr (some (10, 57)), .inl p, .inl (nI wd)] T (some (nI (mM p (fun j => sAf st w 10 (nI wd) (nI j)) 6)), T') ∧ hFr T T' (fun p => p = 59 ∨ p = 71) := by
  obtain ⟨T', a, b, c⟩ := ms_l o p wd hw 6 0 T (by omega) h (fun j hj => absurd hj (by omega))
  refine ⟨T', ?_, a⟩
  show Rn hc_X10_mostAlike 0 [some (.inr (some (10, 57))), some (.inl p), some (.inl (nI wd)), none, none, none, none] [] T _
  iterate 2 refine r_step rfl rfl ?_
  refine c _ ?_
  iterate 4 refine r_step rfl rfl ?_
  refine mo_l p (fun j => sAf st w 10 (nI wd) (nI j)) (nI wd) T' (h.1.fr a) b (fun j hj e => ?_) 6 0 _ _ (by omega)
  have bt := sAf_bt o.1 o.2.1 o.2.2.1 10 (wd := nI wd) (ic := nI j) (bt_n (by omega) (by omega)) (bt_n (by omega) (by omega))
  have e2 : sAf st w 10 (nI wd) (nI j) = -9 := e
  rw [e2] at bt
  exact absurd bt.1 (by decide)
