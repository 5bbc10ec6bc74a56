/-! dip, all of it. -/
theorem e_ridesDip (n : Int32) (S : hS) (hL : hLay S) (hs : okSet (S.2.1 1)) (hr : wRng (S.2.1 1) (S.2.1 7)) (hp : wPot (S.2.1 7)) : ∃ w', Ev 129 [.inr (some (9, 0)), .inl n] S (some (dB (S.2.1 1) n 60 0 (S.2.1 7)), hRow S 56 w') := by
  have lo : eq16 (wCopy (S.2.1 56) (S.2.1 7)) (S.2.1 7) := fun j hj => wCopy_at j hj
  generalize hu : wCopy (S.2.1 56) (S.2.1 7) = u at lo
  have e1 : (hRow S 56 u).2.1 1 = S.2.1 1 := hRow_ne _ _ (by decide)
  obtain ⟨w', k⟩ := dip_c n 60 0 (hRow S 56 u) (by omega) (hL.row _ _) (by rw [e1]; exact hs) (by rw [e1, hRow_at]; exact hr.congr rfl lo) (by rw [hRow_at]; exact hp.congr (lo 0 (by decide)) (lo 1 (by decide)) (lo 2 (by decide)))
  rw [e1, hRow_at, hRow_row, dB_c (fun _ _ => rfl) n 60 0 u _ lo] at k
  refine ⟨w', ?_⟩
  show Rn hc_X9_ridesDip 0 [some (.inr (some (9, 0))), some (.inl n), none] [] S _
  refine r_step rfl rfl ?_
  refine r_getr rfl (rv_0_9 hL) ?_
  refine r_step rfl rfl ?_
  refine r_getr rfl (rv_0_3 hL) ?_
  refine r_getr rfl (rv_6_0 hL) ?_
  refine r_callv rfl rfl (e_wcopy 56 7 S (by decide) hr.2.2.2.2.2.2.2.2.2.1 hr.2.2.2.2.2.2.2.2.2.2.1 hr.2.2.2.2.2.2.2.2.2.2.2) ?_
  rw [hu]
  iterate 2 refine r_step rfl rfl ?_
  exact k
theorem e_rides (n : Int32) (S : hS) (hL : hLay S) (hs : okSet (S.2.1 63)) (hr : wRng (S.2.1 63) (S.2.1 58)) (hp : wPot (S.2.1 58)) : ∃ w', Ev 150 [.inr (some (10, 57)), .inl n] S (some (dB (S.2.1 63) n 60 0 (S.2.1 58)), hRow S 59 w') := by
  have lo : eq16 (cp (S.2.1 59) (S.2.1 58) 0 0 0 59) (S.2.1 58) := fun j hj => cp0 _ _ (by omega)
  generalize hu : cp (S.2.1 59) (S.2.1 58) 0 0 0 59 = u at lo
  have e1 : (hRow S 59 u).2.1 63 = S.2.1 63 := hRow_ne _ _ (by decide)
  obtain ⟨w', k⟩ := dip_m n 60 0 (hRow S 59 u) (by omega) (hL.row _ _) (by rw [e1]; exact hs) (by rw [e1, hRow_at]; exact hr.congr rfl lo) (by rw [hRow_at]; exact hp.congr (lo 0 (by decide)) (lo 1 (by decide)) (lo 2 (by decide)))
  rw [e1, hRow_at, hRow_row, dB_c (fun _ _ => rfl) n 60 0 u _ lo] at k
  refine ⟨w', ?_⟩
  show Rn hc_X10_rides 0 [some (.inr (some (10, 57))), some (.inl n), none, none] [] S _
  refine r_step rfl rfl ?_
  refine r_callv rfl rfl (e_tries S hL) ?_
  rw [hu]
  iterate 4 refine r_step rfl rfl ?_
  exact k
theorem dl_c (mo : Int32) (st w : Nat → Int32) (hs : okSet st) (hr : wRng st w) (hp : wPot w) : ∀ (m : Nat) (T : hS), m ≤ 21 → hLay T → T.2.1 1 = st → T.2.1 7 = w → ∃ w', Rn hc_X9_dip 27 [some (.inr (some (9, 0))), some (.inl mo), some (.inl (nI m + -1))] [] T (some (best (fun k => dB st (nI k) 60 0 w) m), hRow T 56 w') := by
  intro m
  induction m with
  | zero =>
    intro T hm hL e1 e7
    refine ⟨T.2.1 56, ?_⟩
    rw [hRow_self]
    iterate 2 refine r_step rfl rfl ?_
    refine r_i_lt (fun _ => ?_) (fun q => absurd (show nI 0 + -1 < 0 by decide) q)
    refine r_step rfl rfl ?_
    exact r_reti rfl rfl rfl
  | succ m ih =>
    intro T hm hL e1 e7
    obtain ⟨u, k⟩ := e_ridesDip (nI m) T hL (by rw [e1]; exact hs) (by rw [e1, e7]; exact hr) (by rw [e7]; exact hp)
    rw [e1, e7] at k
    obtain ⟨w', ihk⟩ := ih (hRow T 56 u) (by omega) (hL.row _ _) (by rw [hRow_ne _ _ (by decide)]; exact e1) (by rw [hRow_ne _ _ (by decide)]; exact e7)
    rw [hRow_row] at ihk
    rw [best_s, nI_m1]
    by_cases c : dB st (nI m) 60 0 w = 0
    · refine ⟨w', ?_⟩
      rw [if_pos c]
      iterate 2 refine r_step rfl rfl ?_
      refine r_i_lt (fun q => absurd q (nI_pos (by omega))) (fun _ => ?_)
      iterate 2 refine r_step rfl rfl ?_
      refine r_call rfl rfl k ?_
      refine r_step rfl rfl ?_
      refine r_i_eq (fun _ => ?_) (fun q => absurd c q)
      iterate 2 refine r_step rfl rfl ?_
      exact ihk
    · refine ⟨u, ?_⟩
      rw [if_neg c]
      iterate 2 refine r_step rfl rfl ?_
      refine r_i_lt (fun q => absurd q (nI_pos (by omega))) (fun _ => ?_)
      iterate 2 refine r_step rfl rfl ?_
      refine r_call rfl rfl k ?_
      refine r_step rfl rfl ?_
      refine r_i_eq (fun q => absurd q c) (fun _ => ?_)
      refine r_step rfl rfl ?_
      exact r_reti rfl rfl rfl
/-- a number of at most N is not above the literal N -/
theorem ngt_lit {k N : Nat} {x : Int32} (hx : x = nI N) (hN : N < 2147483648) (h : k ≤ N) : ¬ x < nI k := by
  rw [hx, i_lt, ti hN, ti (by omega)]
  omega
theorem dl_m (st w : Nat → Int32) (hs : okSet st) (hr : wRng st w) (hp : wPot w) : ∀ (d m : Nat) (T : hS), m + d = 21 → hLay T → T.2.1 63 = st → T.2.1 58 = w → ∃ w', Rn hc_X10_dip 22 [some (.inr (some (10, 57))), some (.inl (best (fun k => dB st (nI k) 60 0 w) m)), some (.inl (nI m))] [] T (some (best (fun k => dB st (nI k) 60 0 w) 21), hRow T 59 w') := by
  intro d
  induction d with
  | zero =>
    intro m T hm hL e1 e7
    have : m = 21 := by omega
    subst this
    refine ⟨T.2.1 59, ?_⟩
    rw [hRow_self]
    iterate 3 refine r_step rfl rfl ?_
    refine r_i_gt (fun _ => ?_) (fun q => absurd (show (20 : Int32) < nI 21 by decide) q)
    refine r_step rfl rfl ?_
    exact r_reti rfl rfl rfl
  | succ d ih =>
    intro m T hm hL e1 e7
    obtain ⟨u, k⟩ := e_rides (nI m) T hL (by rw [e1]; exact hs) (by rw [e1, e7]; exact hr) (by rw [e7]; exact hp)
    rw [e1, e7] at k
    obtain ⟨w', ihk⟩ := ih (m + 1) (hRow T 59 u) (by omega) (hL.row _ _) (by rw [hRow_ne _ _ (by decide)]; exact e1) (by rw [hRow_ne _ _ (by decide)]; exact e7)
    rw [hRow_row, best_s] at ihk
    refine ⟨w', ?_⟩
    iterate 3 refine r_step rfl rfl ?_
    refine r_i_gt (fun q => absurd q (ngt_lit (N := 20) rfl (by decide) (by omega))) (fun _ => ?_)
    iterate 2 refine r_step rfl rfl ?_
    refine r_call rfl rfl k ?_
    refine r_step rfl rfl ?_
    by_cases c : dB st (nI m) 60 0 w = 0
    · rw [if_pos c] at ihk
      refine r_i_eq (fun _ => ?_) (fun q => absurd c q)
      iterate 4 refine r_step rfl rfl ?_
      show Rn hc_X10_dip 22 [some (.inr (some (10, 57))), some (.inl (best (fun k => dB st (nI k) 60 0 w) m)), some (.inl (nI m + 1))] [] _ _
      rw [nI_s1]
      exact ihk
    · rw [if_neg c] at ihk
      refine r_i_eq (fun q => absurd q c) (fun _ => ?_)
      iterate 5 refine r_step rfl rfl ?_
      show Rn hc_X10_dip 22 [some (.inr (some (10, 57))), some (.inl (nI m)), some (.inl (nI m + 1))] [] _ _
      rw [nI_s1]
      exact ihk
theorem mIn23 : ∀ {m : Int32}, isMode m → (mIn m 2 3 = 1 ∧ (m = 2 ∨ m = 3)) ∨ (mIn m 2 3 = 0 ∧ ¬ m = 2 ∧ ¬ m = 3) := by
  intro m h
  rcases h with rfl | rfl | rfl | rfl | rfl | rfl <;> decide
theorem a_dip {S : hS} (h : Rel S) : Alk 137 156 [] S := by
  have hL := h.1
  have hm := h.2.2.2.1
  have e16 : eq16 (S.2.1 7) (S.2.1 58) := hm.1.1
  have hsC : okSet (S.2.1 1) := h.2.1.1.congr h.2.1.2
  have hrC : wRng (S.2.1 1) (S.2.1 7) := hm.2.1.congr (h.2.1.2 4 (by decide)) e16
  have hpC : wPot (S.2.1 7) := hm.2.2.1.congr (e16 0 (by decide)) (e16 1 (by decide)) (e16 2 (by decide))
  have startC : ∀ o, Rn hc_X9_dip 11 [some (.inr (some (9, 0))), some (.inl (S.2.1 58 0)), none] [] S o → Ev 137 [.inr (some (9, 0))] S o := by
    intro o q
    show Rn hc_X9_dip 0 [some (.inr (some (9, 0))), none, none] [] S _
    refine r_step rfl rfl ?_
    refine r_getr rfl (rv_0_3 hL) ?_
    refine r_getr rfl (rv_6_0 hL) ?_
    iterate 2 refine r_step rfl rfl ?_
    rw [e16 0 (by decide)]
    exact q
  have startM : ∀ T o, hLay T → T.2.1 58 = S.2.1 58 → Rn hc_X10_dip 11 [some (.inr (some (10, 57))), none, none] [.inl (mIn (S.2.1 58 0) 2 3)] T o → Ev 156 [.inr (some (10, 57))] T o := by
    intro T o hT e q
    show Rn hc_X10_dip 0 [some (.inr (some (10, 57))), none, none] [] T _
    refine r_step rfl rfl ?_
    refine r_getr rfl (rv_57_0 hT) ?_
    refine r_step rfl rfl ?_
    refine r_iald rfl 0 rfl ⟨⟨by decide, by decide⟩, by decide⟩ ?_
    iterate 2 refine r_step rfl rfl ?_
    refine r_call rfl rfl (e_in _ _ _ _) ?_
    rw [e]
    exact q
  rcases mIn23 hm.2.1.1 with ⟨c, cc⟩ | ⟨c, c2, c3⟩
  · obtain ⟨u, k1⟩ := dl_c (S.2.1 58 0) (S.2.1 1) (S.2.1 7) hsC hrC hpC 21 S (by omega) hL rfl rfl
    obtain ⟨w', k2⟩ := dl_m (S.2.1 63) (S.2.1 58) h.2.1.1 hm.2.1 hm.2.2.1 21 0 (hRow S 56 u) (by omega) (hL.row _ _) (hRow_ne _ _ (by decide)) (hRow_ne _ _ (by decide))
    have e : best (fun k => dB (S.2.1 1) (nI k) 60 0 (S.2.1 7)) 21 = best (fun k => dB (S.2.1 63) (nI k) 60 0 (S.2.1 58)) 21 := by
      refine best_c (N := 21) (fun k hk => ?_) 21 (by omega)
      exact dB_c h.2.1.2 _ _ _ _ _ e16
    refine ⟨best (fun k => dB (S.2.1 63) (nI k) 60 0 (S.2.1 58)) 21, hRow S 56 u, hRow (hRow S 56 u) 59 w', startC _ ?_, startM _ _ (hL.row _ _) (hRow_ne _ _ (by decide)) ?_, ?_⟩
    · rw [← e]
      have k3 : Rn hc_X9_dip 24 [some (.inr (some (9, 0))), some (.inl (S.2.1 58 0)), none] [] S (some (best (fun k => dB (S.2.1 1) (nI k) 60 0 (S.2.1 7)) 21), hRow S 56 u) := by
        iterate 2 refine r_step rfl rfl ?_
        exact k1
      iterate 3 refine r_step rfl rfl ?_
      refine r_i_eq (fun _ => k3) (fun q => ?_)
      iterate 3 refine r_step rfl rfl ?_
      refine r_i_eq (fun _ => k3) (fun p => absurd cc (fun x => x.elim q p))
    · rw [c]
      iterate 5 refine r_step rfl rfl ?_
      exact k2
    · refine rel_scr h ((hFr_row _ _ _ (by unfold pScr; omega)).trans (hFr_row _ _ _ (by unfold pScr; omega))) ?_ ?_ ?_ <;> rw [hRow_ne _ _ (by decide), hRow_ne _ _ (by decide)]
  · refine ⟨-9, S, S, startC _ ?_, startM S _ hL rfl ?_, h⟩
    · iterate 3 refine r_step rfl rfl ?_
      refine r_i_eq (fun q => absurd q c2) (fun _ => ?_)
      iterate 3 refine r_step rfl rfl ?_
      refine r_i_eq (fun q => absurd q c3) (fun _ => ?_)
      refine r_step rfl rfl ?_
      exact r_reti rfl rfl rfl
    · rw [c]
      iterate 2 refine r_step rfl rfl ?_
      exact r_reti rfl rfl rfl
