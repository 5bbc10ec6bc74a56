/-! The model's rain, all of it. -/
theorem rn_clear : ∀ (d k : Nat) (T : hS), k + d = 1000 → hLay T → (∀ i, i < k → T.2.1 69 i = 0) → ∃ w, (∀ i, i < 1000 → w i = 0) ∧ (∀ o, Rn hc_X10_rains 36 [some (.inr (some (10, 57))), some (.inl (nI 1000))] [] (hRow T 69 w) o → Rn hc_X10_rains 16 [some (.inr (some (10, 57))), some (.inl (nI k))] [] T o) := by
  intro d
  induction d with
  | zero =>
    intro k T hk hL h0
    have : k = 1000 := by omega
    subst this
    refine ⟨T.2.1 69, h0, fun o q => ?_⟩
    rw [hRow_self] at q
    iterate 3 refine r_step rfl rfl ?_
    exact r_i_ge (fun _ => q) (fun q => absurd (show (1000 : Int32) ≤ nI 1000 by decide) q)
  | succ d ih =>
    intro k T hk hL h0
    obtain ⟨w, w1, w2⟩ := ih (k + 1) (hPut T 69 k 0) (by omega) (hL.put _ _ _) (fun i hi => by
      rw [hPut_at]
      by_cases c : i = k
      · rw [c, pk_us]
      · rw [pk_un c]; exact h0 i (by omega))
    rw [hPut_eq, hRow_row] at w2
    refine ⟨w, w1, fun o q => ?_⟩
    iterate 3 refine r_step rfl rfl ?_
    refine r_i_ge (fun q => absurd q (lt_lit (N := 1000) rfl (by decide) (by omega))) (fun _ => ?_)
    refine r_step rfl rfl ?_
    refine r_getr rfl (rv_57_21 hL) ?_
    iterate 2 refine r_step rfl rfl ?_
    refine r_iast0 rfl k (ti (by omega)) ⟨⟨by decide, by decide⟩, by show k < 1000; omega⟩ ?_
    iterate 2 refine r_step rfl rfl ?_
    show Rn hc_X10_rains 16 [some (.inr (some (10, 57))), some (.inl (nI k + 1))] [] (hPut T 69 k 0) _
    rw [nI_s1, hPut_eq]
    exact w2 o q
theorem rn_row (t : Nat → Int32) (n : Nat) (hn : n ≤ 40) (ht : ∀ i, i < n → bt (t i) 0 999) : ∀ (d i : Nat) (T : hS), i + d = n → hLay T → T.2.1 67 = t → T.2.1 57 18 = nI n → mrOk T (po t i) → ∃ T', hFr T T' (fun p => p = 57 ∨ p = 68 ∨ p = 69) ∧ (∀ j, j ≠ 20 → j ≠ 22 → T'.2.1 57 j = T.2.1 57 j) ∧ mrOk T' (po t n) ∧ (∀ o, Rn hc_X10_rains 163 [some (.inr (some (10, 57))), some (.inl (nI n))] [] T' o → Rn hc_X10_rains 38 [some (.inr (some (10, 57))), some (.inl (nI i))] [] T o) := by
  intro d
  induction d with
  | zero =>
    intro i T hi hL h67 h1 ho
    have : i = n := by omega
    subst this
    refine ⟨T, hFr.rf _ _, fun _ _ _ => rfl, ho, fun o k => ?_⟩
    iterate 4 refine r_step rfl rfl ?_
    rw [h1]
    exact r_i_ge (fun _ => k) (fun q => absurd (nI_le (Nat.le_refl i) (by omega)) q)
  | succ d ih =>
    intro i T hi hL h67 h1 ho
    have hg := gd_po i (fun j hj => ht j (by omega))
    have hx := ht i (by omega)
    generalize hP : po t i = P at *
    obtain ⟨o1, o2, o3, o4⟩ := ho
    have hl : P.1.length + 2 * P.2.1 = i := hg.2.1
    have hL1 : hLay (hPut (hPut T 68 P.1.length (t i)) 57 20 (nI (P.1.length + 1))) := (hL.put _ _ _).put _ _ _
    obtain ⟨T1, a2, a3, a4, a1⟩ := ml_l (some (.inl (nI i))) (i + 1) (by omega) 40 (t i :: P.1) P.2.1 P.2.2 (hPut (hPut T 68 P.1.length (t i)) 57 20 (nI (P.1.length + 1))) (by show P.1.length + 1 ≤ 40 + 3; omega) (gd_push hg hx) hL1 (by
      refine ⟨?_, ?_, ?_, ?_⟩
      · show rL _ (t i :: P.1)
        rw [hPut_ne (by decide), hPut_at]
        exact o1.push
      · rw [hPut_at, pk_us]; rfl
      · rw [hPut_at, pk_un (by decide), hPut_ne (by decide)]; exact o3
      · intro m hm
        rw [hPut_ne (by decide), hPut_ne (by decide)]
        exact o4 m hm)
    have f1 : hFr T (hPut (hPut T 68 P.1.length (t i)) 57 20 (nI (P.1.length + 1))) (fun p => p = 57 ∨ p = 68 ∨ p = 69) := (hFr_put _ _ _ _ (Or.inr (Or.inl rfl))).trans (hFr_put _ _ _ _ (Or.inl rfl))
    have g1 : ∀ j, j ≠ 20 → (hPut (hPut T 68 P.1.length (t i)) 57 20 (nI (P.1.length + 1))).2.1 57 j = T.2.1 57 j := fun j hj => by rw [hPut_at, pk_un hj, hPut_ne (by decide)]
    obtain ⟨T2, b2, b3, b4, b1⟩ := ih (i + 1) T1 (by omega) (hL1.fr a2) (by rw [a2.2.2 67 (by decide), hPut_ne (by decide), hPut_ne (by decide)]; exact h67) (by rw [a3 18 (by decide) (by decide), g1 18 (by decide)]; exact h1) (by rw [po_s, hP]; exact a4)
    refine ⟨T2, (f1.trans a2).trans b2, fun j h3 h6 => (b3 j h3 h6).trans ((a3 j h3 h6).trans (g1 j h3)), b4, fun o k => ?_⟩
    iterate 4 refine r_step rfl rfl ?_
    rw [h1]
    refine r_i_ge (fun q => absurd q (nI_ge (by omega) (by omega))) (fun _ => ?_)
    refine r_step rfl rfl ?_
    refine r_getr rfl (rv_57_19 hL) ?_
    iterate 3 refine r_step rfl rfl ?_
    refine r_getr rfl (rv_57_17 hL) ?_
    refine r_step rfl rfl ?_
    refine r_iald rfl i (ti (by omega)) ⟨⟨by decide, by decide⟩, by show i < 40; omega⟩ ?_
    rw [h67]
    refine r_iast0 rfl P.1.length (by rw [o2]; exact ti (by omega)) ⟨⟨by decide, by decide⟩, by show P.1.length < 40; omega⟩ ?_
    iterate 6 refine r_step rfl rfl ?_
    rw [hPut_ne (show 57 ≠ 68 by decide), o2, nI_s1]
    refine a1 _ ?_
    iterate 2 refine r_step rfl rfl ?_
    show Rn hc_X10_rains 38 [some (.inr (some (10, 57))), some (.inl (nI i + 1))] [] _ _
    rw [nI_s1]
    exact b1 o k
theorem rn_end (f : Nat → Int32) (g : List (Nat × Nat)) (s : Nat) (hf : ∀ i, i < s → bt (f i) 0 999) (hs : s ≤ 40) : ∀ (d j : Nat) (T : hS), j + d = s - 1 → hLay T → T.2.1 68 = f → T.2.1 57 20 = nI s → hvM T (lg f g j) → ∃ T', hFr T T' (fun p => p = 69) ∧ hvM T' (lg f g (s - 1)) ∧ Rn hc_X10_rains 165 [some (.inr (some (10, 57))), some (.inl (nI (j + 1)))] [] T (none, T') := by
  intro d
  induction d with
  | zero =>
    intro j T hj hL h68 h3 ho
    have e : j = s - 1 := by omega
    subst e
    refine ⟨T, hFr.rf _ _, ho, ?_⟩
    iterate 4 refine r_step rfl rfl ?_
    rw [h3]
    refine r_i_ge (fun _ => r_retn rfl rfl) (fun q => absurd (nI_le (by omega) (by omega)) q)
  | succ d ih =>
    intro j T hj hL h68 h3 ho
    have bA := hf (j + 1) (by omega)
    have bB := hf j (by omega)
    have nl := nab_lt bA bB
    have hv : hvM (hPut T 69 (nab (f (j + 1)) (f j)) (T.2.1 69 (nab (f (j + 1)) (f j)) + nI 1)) (lg f g (j + 1)) := hvM.add ho 1 nl hPut_at
    obtain ⟨T2, b1, b3, b4⟩ := ih (j + 1) (hPut T 69 (nab (f (j + 1)) (f j)) (T.2.1 69 (nab (f (j + 1)) (f j)) + nI 1)) (by omega) (hL.put _ _ _) (by rw [hPut_ne (by decide)]; exact h68) (by rw [hPut_ne (by decide)]; exact h3) hv
    refine ⟨T2, (hFr_put T 69 _ _ (P := fun p => p = 69) rfl).trans b1, b3, ?_⟩
    iterate 4 refine r_step rfl rfl ?_
    rw [h3]
    refine r_i_ge (fun q => absurd q (nI_ge (by omega) (by omega))) (fun _ => ?_)
    refine r_step rfl rfl ?_
    refine r_getr rfl (rv_57_21 hL) ?_
    refine r_step rfl rfl ?_
    refine r_getr rfl (rv_57_19 hL) ?_
    refine r_step rfl rfl ?_
    refine r_iald rfl (j + 1) (ti (by omega)) ⟨⟨by decide, by decide⟩, by show j + 1 < 40; omega⟩ ?_
    refine r_step rfl rfl ?_
    refine r_getr rfl (rv_57_19 hL) ?_
    iterate 3 refine r_step rfl rfl ?_
    refine r_iald rfl j (by rw [nI_pred]; exact ti (by omega)) ⟨⟨by decide, by decide⟩, by show j < 40; omega⟩ ?_
    rw [h68]
    refine r_call rfl rfl (e_away _ _ _) ?_
    rw [nab_away bA bB]
    refine r_step rfl rfl ?_
    refine r_iald rfl (nab (f (j + 1)) (f j)) (ti (by omega)) ⟨⟨by decide, by decide⟩, by show nab (f (j + 1)) (f j) < 1000; omega⟩ ?_
    iterate 2 refine r_step rfl rfl ?_
    refine r_iast0 rfl (nab (f (j + 1)) (f j)) (ti (by omega)) ⟨⟨by decide, by decide⟩, by show nab (f (j + 1)) (f j) < 1000; omega⟩ ?_
    iterate 2 refine r_step rfl rfl ?_
    show Rn hc_X10_rains 165 [some (.inr (some (10, 57))), some (.inl (nI (j + 1) + 1))] [] (hPut T 69 (nab (f (j + 1)) (f j)) (T.2.1 69 (nab (f (j + 1)) (f j)) + nI 1)) _
    rw [nI_s1]
    exact b4
set_option maxHeartbeats 4000000 in
set_option maxRecDepth 100000 in
theorem e_rains (z : Nat) (hz : z ≤ 40) (x : Nat → Int32) (hx : ∀ i, i < z → bt (x i) 0 999) (S : hS) (hL : hLay S) (h18 : S.2.1 58 18 = nI z) (hxs : ∀ i, i < z → S.2.1 58 (19 + i) = x i) : ∃ S' t f, Ev 104 [.inr (some (10, 57))] S (none, S') ∧ hFr S S' (fun p => p = 57 ∨ (66 ≤ p ∧ p ≤ 69)) ∧ (∀ j, j ≠ 18 → j ≠ 20 → j ≠ 22 → S'.2.1 57 j = S.2.1 57 j) ∧ rL t (tn (uP x z (S.2.1 66) 0).1 (uP x z (S.2.1 66) 0).2) ∧ S'.2.1 57 18 = nI (tn (uP x z (S.2.1 66) 0).1 (uP x z (S.2.1 66) 0).2).length ∧ rL f (po t (tn (uP x z (S.2.1 66) 0).1 (uP x z (S.2.1 66) 0).2).length).1 ∧ S'.2.1 57 22 = nI (po t (tn (uP x z (S.2.1 66) 0).1 (uP x z (S.2.1 66) 0).2).length).2.1 ∧ hvM S' (lgOf t f (tn (uP x z (S.2.1 66) 0).1 (uP x z (S.2.1 66) 0).2).length) := by
  have hbt := tn_bt (uP_bt z (S.2.1 66) 0 hx (fun j hj => absurd hj (by omega)))
  have hlen := Nat.le_trans (tn_len (uP x z (S.2.1 66) 0).1 (uP x z (S.2.1 66) 0).2) (uP_n x z (S.2.1 66) 0)
  obtain ⟨S1, a1, a2, a3, c1, c2⟩ := e_findsTurns x z hz S hL h18 hxs
  generalize hTL : tn (uP x z (S.2.1 66) 0).1 (uP x z (S.2.1 66) 0).2 = TL at *
  have hL1 := hL.fr a2
  have hL2 : hLay (hPut (hPut S1 57 20 0) 57 22 0) := (hL1.put _ _ _).put _ _ _
  obtain ⟨w, w1, w2⟩ := rn_clear 1000 0 (hPut (hPut S1 57 20 0) 57 22 0) (by omega) hL2 (fun i hi => absurd hi (by omega))
  have start : ∀ o, Rn hc_X10_rains 36 [some (.inr (some (10, 57))), some (.inl (nI 1000))] [] (hRow (hPut (hPut S1 57 20 0) 57 22 0) 69 w) o → Ev 104 [.inr (some (10, 57))] S o := by
    intro o k
    show Rn hc_X10_rains 0 [some (.inr (some (10, 57))), none] [] S _
    refine r_step rfl rfl ?_
    refine r_callv rfl rfl a1 ?_
    iterate 8 refine r_step rfl rfl ?_
    exact w2 o k
  have fr2 : hFr S1 (hRow (hPut (hPut S1 57 20 0) 57 22 0) 69 w) (fun p => p = 57 ∨ (66 ≤ p ∧ p ≤ 69)) := ((hFr_put S1 57 20 0 (Or.inl rfl)).trans (hFr_put _ _ _ _ (Or.inl rfl))).trans (hFr_row _ _ _ (Or.inr ⟨by decide, by decide⟩))
  have hL3 := hL1.fr fr2
  have g57 : ∀ j, j ≠ 20 → j ≠ 22 → (hRow (hPut (hPut S1 57 20 0) 57 22 0) 69 w).2.1 57 j = S1.2.1 57 j := fun j h1 h2 => by rw [hRow_ne _ _ (by decide), hPut_at, pk_un h2, hPut_at, pk_un h1]
  have g20 : (hRow (hPut (hPut S1 57 20 0) 57 22 0) 69 w).2.1 57 20 = 0 := by rw [hRow_ne _ _ (by decide), hPut_at, pk_un (by decide), hPut_at, pk_us]
  have g22 : (hRow (hPut (hPut S1 57 20 0) 57 22 0) 69 w).2.1 57 22 = 0 := by rw [hRow_ne _ _ (by decide), hPut_at, pk_us]
  have g67 : (hRow (hPut (hPut S1 57 20 0) 57 22 0) 69 w).2.1 67 = S1.2.1 67 := by rw [hRow_ne _ _ (by decide), hPut_ne (by decide), hPut_ne (by decide)]
  have g69 : (hRow (hPut (hPut S1 57 20 0) 57 22 0) 69 w).2.1 69 = w := hRow_at _ _ _
  generalize hRow (hPut (hPut S1 57 20 0) 57 22 0) 69 w = S2 at *
  have ht : ∀ i, i < TL.length → bt (S1.2.1 67 i) 0 999 := fun i hi => hbt _ (rL_mem c1 i hi)
  obtain ⟨S3, b1, b2, b3, b4⟩ := rn_row (S1.2.1 67) TL.length (by omega) ht TL.length 0 S2 (by omega) hL3 g67 (by rw [g57 18 (by decide) (by decide)]; exact c2) ⟨trivial, g20, g22, fun n hn => by rw [g69]; exact w1 n hn⟩
  have hL4 := hL3.fr b1
  have hg := gd_po TL.length ht
  generalize hP : po (S1.2.1 67) TL.length = P at *
  obtain ⟨q1, q2, q3, q4, -⟩ := hg
  obtain ⟨d1, d2, d3, d4⟩ := b3
  obtain ⟨S4, f1, f3, f4⟩ := rn_end (S3.2.1 68) P.2.2 P.1.length (fun i hi => q1 _ (rL_mem d1 i hi)) (by omega) (P.1.length - 1) 0 S3 (by omega) hL4 rfl d2 d4
  have k57 : ∀ j, S4.2.1 57 j = S3.2.1 57 j := fun j => by rw [f1.2.2 57 (by decide)]
  refine ⟨S4, S1.2.1 67, S3.2.1 68, start _ ?_, ?_, fun j h1 h2 h3 => ?_, c1, ?_, ?_, ?_, ?_⟩
  · iterate 2 refine r_step rfl rfl ?_
    refine b4 _ ?_
    iterate 2 refine r_step rfl rfl ?_
    exact f4
  · exact (((a2.mono (fun p hp => by omega)).trans fr2).trans (b1.mono (fun p hp => by omega))).trans (f1.mono (fun p hp => by omega))
  · rw [k57, b2 j h2 h3, g57 j h2 h3, a3 j h1]
  · rw [k57, b2 18 (by decide) (by decide), g57 18 (by decide) (by decide)]; exact c2
  · rw [hP]; exact d1
  · rw [hP, k57]; exact d3
  · unfold lgOf
    rw [hP]
    exact f3
