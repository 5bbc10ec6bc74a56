/-! The model's turns. -/
theorem mOk.push {T : hS} {TL : List Int32} (h : mOk T TL) (v : Int32) : mOk (hPut (hPut T 67 TL.length v) 57 18 (nI (TL.length + 1))) (v :: TL) := by
  refine ⟨?_, ?_⟩
  · rw [hPut_ne (by decide), hPut_at]; exact h.1.push
  · rw [hPut_at, pk_us]; rfl
theorem ps_fr {T : hS} (k : Nat) (v y : Int32) : hFr T (hPut (hPut T 67 k v) 57 18 y) (fun p => p = 57 ∨ p = 67) ∧ (∀ j, j ≠ 18 → (hPut (hPut T 67 k v) 57 18 y).2.1 57 j = T.2.1 57 j) := by
  refine ⟨(hFr_put _ _ _ _ (Or.inr rfl)).trans (hFr_put _ _ _ _ (Or.inl rfl)), fun j hj => ?_⟩
  rw [hPut_at, pk_un hj, hPut_ne (by decide)]
/-- is the place i a turn: the words of the loop before its choice -/
theorem ftm_test (u : Nat → Int32) (n j : Nat) (l3 : Option hV) (T : hS) (o : Option Int32 × hS) (hL : hLay T) (hu : T.2.1 66 = u) (hj : j + 2 < n) (hn : n ≤ 40) (kt : ¬ ((u j < u (j + 1)) ↔ (u (j + 1) < u (j + 2))) → Rn hc_X10_findsTurns 75 [some (.inr (some (10, 57))), some (.inl (nI n)), some (.inl (nI (j + 1))), l3] [] T o) (kf : ((u j < u (j + 1)) ↔ (u (j + 1) < u (j + 2))) → Rn hc_X10_findsTurns 79 [some (.inr (some (10, 57))), some (.inl (nI n)), some (.inl (nI (j + 1))), l3] [] T o) : Rn hc_X10_findsTurns 12 [some (.inr (some (10, 57))), some (.inl (nI n)), some (.inl (nI (j + 1))), l3] [] T o := by
  iterate 3 refine r_step rfl rfl ?_
  refine r_i_ge (fun q => absurd q (nI_ge (by omega) (by omega))) (fun _ => ?_)
  iterate 2 refine r_step rfl rfl ?_
  refine r_i_eq (fun q => absurd ((nI_eq (by omega) (by decide)).1 (show nI (j + 1) = nI 0 from q)) (by omega)) (fun _ => ?_)
  iterate 5 refine r_step rfl rfl ?_
  refine r_i_eq (fun q => absurd (show nI (j + 1) = nI (n - 1) by rw [q]; exact (show n = n - 1 + 1 by omega) ▸ nI_pred (n - 1)) (fun w => absurd ((nI_eq (by omega) (by omega)).1 w) (by omega))) (fun _ => ?_)
  refine r_step rfl rfl ?_
  refine r_getr rfl (rv_57_16 hL) ?_
  refine r_step rfl rfl ?_
  refine r_iald rfl (j + 1) (ti (by omega)) ⟨⟨by decide, by decide⟩, by show j + 1 < 40; omega⟩ ?_
  refine r_step rfl rfl ?_
  refine r_getr rfl (rv_57_16 hL) ?_
  iterate 3 refine r_step rfl rfl ?_
  refine r_iald rfl j (by rw [nI_pred]; exact ti (by omega)) ⟨⟨by decide, by decide⟩, by show j < 40; omega⟩ ?_
  rw [hu]
  have second : ∀ w : Int32, (w = 1 ∧ u j < u (j + 1) ∨ w = 0 ∧ ¬ u j < u (j + 1)) → Rn hc_X10_findsTurns 50 [some (.inr (some (10, 57))), some (.inl (nI n)), some (.inl (nI (j + 1))), l3] [.inl w] T o := by
    intro w hw
    refine r_step rfl rfl ?_
    refine r_getr rfl (rv_57_16 hL) ?_
    iterate 3 refine r_step rfl rfl ?_
    refine r_iald rfl (j + 2) (by rw [nI_s1]; exact ti (by omega)) ⟨⟨by decide, by decide⟩, by show j + 2 < 40; omega⟩ ?_
    refine r_step rfl rfl ?_
    refine r_getr rfl (rv_57_16 hL) ?_
    refine r_step rfl rfl ?_
    refine r_iald rfl (j + 1) (ti (by omega)) ⟨⟨by decide, by decide⟩, by show j + 1 < 40; omega⟩ ?_
    rw [hu]
    have third : ∀ v : Int32, (v = 1 ∧ u (j + 1) < u (j + 2) ∨ v = 0 ∧ ¬ u (j + 1) < u (j + 2)) → Rn hc_X10_findsTurns 72 [some (.inr (some (10, 57))), some (.inl (nI n)), some (.inl (nI (j + 1))), l3] [.inl v, .inl w] T o := by
      intro v hv
      refine r_step rfl rfl ?_
      refine r_i_eq (fun q => kf ?_) (fun q => kt ?_)
      · rcases hw with ⟨a1, a2⟩ | ⟨a1, a2⟩ <;> rcases hv with ⟨b1, b2⟩ | ⟨b1, b2⟩ <;> subst a1 <;> subst b1
        · exact ⟨fun _ => b2, fun _ => a2⟩
        · exact absurd q (by decide)
        · exact absurd q (by decide)
        · exact ⟨fun y => absurd y a2, fun y => absurd y b2⟩
      · rcases hw with ⟨a1, a2⟩ | ⟨a1, a2⟩ <;> rcases hv with ⟨b1, b2⟩ | ⟨b1, b2⟩ <;> subst a1 <;> subst b1
        · exact absurd rfl q
        · exact fun c => b2 (c.1 a2)
        · exact fun c => a2 (c.2 b2)
        · exact absurd rfl q
    refine r_step rfl rfl ?_
    refine r_i_le (fun c => ?_) (fun c => ?_)
    · refine r_step rfl rfl ?_
      exact third 0 (Or.inr ⟨rfl, by rw [i_lt]; rw [i_le] at c; omega⟩)
    · iterate 2 refine r_step rfl rfl ?_
      exact third 1 (Or.inl ⟨rfl, by rw [i_lt]; rw [i_le] at c; omega⟩)
  refine r_step rfl rfl ?_
  refine r_i_le (fun c => ?_) (fun c => ?_)
  · refine r_step rfl rfl ?_
    exact second 0 (Or.inr ⟨rfl, by rw [i_lt]; rw [i_le] at c; omega⟩)
  · iterate 2 refine r_step rfl rfl ?_
    exact second 1 (Or.inl ⟨rfl, by rw [i_lt]; rw [i_le] at c; omega⟩)
theorem ftm_l (u : Nat → Int32) (n : Nat) (hn : n ≤ 40) : ∀ (d i : Nat) (T : hS) (l3 : Option hV), i + (d + 1) = n → hLay T → T.2.1 66 = u → mOk T (inn u i) → ∃ T', Rn hc_X10_findsTurns 12 [some (.inr (some (10, 57))), some (.inl (nI n)), some (.inl (nI i)), l3] [] T (none, T') ∧ hFr T T' (fun p => p = 57 ∨ p = 67) ∧ (∀ j, j ≠ 18 → T'.2.1 57 j = T.2.1 57 j) ∧ mOk T' (tn u n) := by
  intro d
  induction d with
  | zero =>
    intro i T l3 hi hL hu ht
    subst hi
    have hlen := inn_len u i
    refine ⟨hPut (hPut T 67 (inn u i).length (T.2.1 66 i)) 57 18 (nI ((inn u i).length + 1)), ?_, (ps_fr _ _ _).1, (ps_fr _ _ _).2, ?_⟩
    · have p := ftm_push (some (.inl (nI (i + 1)))) i l3 T (inn u i) (none, hPut (hPut T 67 (inn u i).length (T.2.1 66 i)) 57 18 (nI ((inn u i).length + 1))) hL ht.2 (by omega) (by omega) (by
        iterate 3 refine r_step rfl rfl ?_
        refine r_i_ge (fun _ => r_retn rfl rfl) (fun q => absurd (nI_le (Nat.le_refl (i + 1)) (by omega)) q))
      iterate 3 refine r_step rfl rfl ?_
      refine r_i_ge (fun q => absurd q (nI_ge (by omega) (by omega))) (fun _ => ?_)
      iterate 2 refine r_step rfl rfl ?_
      refine r_i_eq (fun _ => p) (fun _ => ?_)
      iterate 5 refine r_step rfl rfl ?_
      refine r_i_eq (fun _ => p) (fun q => absurd (nI_pred i).symm q)
    · show mOk _ (u i :: inn u i)
      rw [show u i = T.2.1 66 i by rw [hu]]
      exact ht.push _
  | succ d ih =>
    intro i T l3 hi hL hu ht
    have hlen := inn_len u i
    have hL2 : hLay (hPut (hPut T 67 (inn u i).length (T.2.1 66 i)) 57 18 (nI ((inn u i).length + 1))) := (hL.put _ _ _).put _ _ _
    have hu2 : (hPut (hPut T 67 (inn u i).length (T.2.1 66 i)) 57 18 (nI ((inn u i).length + 1))).2.1 66 = u := by rw [hPut_ne (by decide), hPut_ne (by decide)]; exact hu
    have pk := ht.push (T.2.1 66 i)
    have doPush : inn u (i + 1) = u i :: inn u i → ∃ T', Rn hc_X10_findsTurns 75 [some (.inr (some (10, 57))), some (.inl (nI n)), some (.inl (nI i)), l3] [] T (none, T') ∧ hFr T T' (fun p => p = 57 ∨ p = 67) ∧ (∀ j, j ≠ 18 → T'.2.1 57 j = T.2.1 57 j) ∧ mOk T' (tn u n) := by
      intro e
      obtain ⟨T', b1, b2, b3, b4⟩ := ih (i + 1) _ (some (.inl 1)) (by omega) hL2 hu2 (by rw [e, show u i = T.2.1 66 i by rw [hu]]; exact pk)
      exact ⟨T', ftm_push _ i l3 T (inn u i) _ hL ht.2 (by omega) (by omega) b1, (ps_fr _ _ _).1.trans b2, fun j hj => (b3 j hj).trans ((ps_fr _ _ _).2 j hj), b4⟩
    match i, hi, ht, hlen, doPush with
    | 0, hi, ht, hlen, doPush =>
      obtain ⟨T', b1, b2⟩ := doPush rfl
      refine ⟨T', ?_, b2⟩
      iterate 3 refine r_step rfl rfl ?_
      refine r_i_ge (fun q => absurd q (nI_ge (by omega) (by omega))) (fun _ => ?_)
      iterate 2 refine r_step rfl rfl ?_
      exact b1
    | j + 1, hi, ht, hlen, doPush =>
      by_cases c : (u j < u (j + 1)) ↔ (u (j + 1) < u (j + 2))
      · obtain ⟨T', b1, b2, b3, b4⟩ := ih (j + 2) T (some (.inl 0)) (by omega) hL hu (by rw [inn_s, if_pos c]; exact ht)
        refine ⟨T', ftm_test u n j l3 T _ hL hu (by omega) hn (fun q => absurd c q) (fun _ => ?_), b2, b3, b4⟩
        iterate 6 refine r_step rfl rfl ?_
        show Rn hc_X10_findsTurns 12 [some (.inr (some (10, 57))), some (.inl (nI n)), some (.inl (nI (j + 1) + 1)), some (.inl 0)] [] _ _
        rw [nI_s1]
        exact b1
      · obtain ⟨T', b1, b2⟩ := doPush (by rw [inn_s, if_neg c])
        exact ⟨T', ftm_test u n j l3 T _ hL hu (by omega) hn (fun _ => b1) (fun q => absurd q c), b2⟩
theorem e_findsTurns (x : Nat → Int32) (z : Nat) (hz : z ≤ 40) (S : hS) (hL : hLay S) (h18 : S.2.1 58 18 = nI z) (hx : ∀ i, i < z → S.2.1 58 (19 + i) = x i) : ∃ T', Ev 61 [.inr (some (10, 57))] S (none, T') ∧ hFr S T' (fun p => p = 57 ∨ p = 66 ∨ p = 67) ∧ (∀ j, j ≠ 18 → T'.2.1 57 j = S.2.1 57 j) ∧ mOk T' (tn (uP x z (S.2.1 66) 0).1 (uP x z (S.2.1 66) 0).2) := by
  have e1 := e_unlikeOnes x z hz S hL h18 hx
  have hn := uP_n x z (S.2.1 66) 0
  generalize hq : uP x z (S.2.1 66) 0 = q at *
  obtain ⟨u, n⟩ := q
  have start : ∀ o, Rn hc_X10_findsTurns 12 [some (.inr (some (10, 57))), some (.inl (nI n)), some (.inl (nI 0)), none] [] (hPut (hRow S 66 u) 57 18 0) o → Ev 61 [.inr (some (10, 57))] S o := by
    intro o k
    show Rn hc_X10_findsTurns 0 [some (.inr (some (10, 57))), none, none, none] [] S _
    refine r_step rfl rfl ?_
    refine r_call rfl rfl e1 ?_
    iterate 6 refine r_step rfl rfl ?_
    exact k
  have f0 : hFr S (hPut (hRow S 66 u) 57 18 0) (fun p => p = 57 ∨ p = 66 ∨ p = 67) := (hFr_row _ _ _ (Or.inr (Or.inl rfl))).trans (hFr_put _ _ _ _ (Or.inl rfl))
  have g0 : ∀ j, j ≠ 18 → (hPut (hRow S 66 u) 57 18 0).2.1 57 j = S.2.1 57 j := fun j hj => by rw [hPut_at, pk_un hj, hRow_ne _ _ (by decide)]
  have o0 : mOk (hPut (hRow S 66 u) 57 18 0) [] := ⟨trivial, by rw [hPut_at, pk_us]; rfl⟩
  match n, hn, hq, e1, start with
  | 0, hn, hq, e1, start =>
    refine ⟨_, start _ ?_, f0, g0, o0⟩
    iterate 3 refine r_step rfl rfl ?_
    exact r_retn rfl rfl
  | m + 1, hn, hq, e1, start =>
    have hm : m + 1 ≤ 0 + z := hn
    obtain ⟨T', b1, b2, b3, b4⟩ := ftm_l u (m + 1) (by omega) m 0 _ none (by omega) ((hL.row _ _).put _ _ _) (by rw [hPut_ne (by decide), hRow_at]) o0
    exact ⟨T', start _ b1, f0.trans (b2.mono (fun p hp => by omega)), fun j hj => (b3 j hj).trans (g0 j hj), b4⟩
