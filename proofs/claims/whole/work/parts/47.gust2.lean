/-! A gust in the model. -/
theorem bears_x (n v i : Int32) (T : hS) : Rn hc_X10_bears 23 [some (.inr (some (10, 57))), some (.inl n), some (.inl v), some (.inl 0), some (.inl i)] [] T (some 0, T) := by
  have out : Rn hc_X10_bears 86 [some (.inr (some (10, 57))), some (.inl n), some (.inl v), some (.inl 0), some (.inl i)] [] T (some 0, T) := by
    refine r_step rfl rfl ?_
    exact r_retz rfl (Or.inl rfl) rfl rfl
  iterate 3 refine r_step rfl rfl ?_
  refine r_i_ge (fun _ => out) (fun _ => ?_)
  iterate 2 refine r_step rfl rfl ?_
  exact out
set_option maxHeartbeats 4000000 in
set_option maxRecDepth 100000 in
theorem gust_m (n v s4 : Int32) (hv : bt v 0 40) (h4 : bt s4 0 40) : ∀ (d i : Nat) (T : hS), i + d = 60 → hLay T → T.2.1 58 4 = s4 → okSet (T.2.1 63) → wRng (T.2.1 63) (T.2.1 59) → wPot (T.2.1 59) → ∃ w', Rn hc_X10_bears 23 [some (.inr (some (10, 57))), some (.inl n), some (.inl v), some (.inl 1), some (.inl (nI i))] [] T (some (gB (T.2.1 63) n v s4 d i (T.2.1 59)), hRow T 59 w') := by
  intro d
  induction d with
  | zero =>
    intro i T hi hL e4 hs hr hp
    have : i = 60 := by omega
    subst this
    refine ⟨T.2.1 59, ?_⟩
    rw [hRow_self]
    iterate 3 refine r_step rfl rfl ?_
    refine r_i_ge (fun _ => ?_) (fun q => absurd (show (60 : Int32) ≤ nI 60 by decide) q)
    refine r_step rfl rfl ?_
    exact r_retz rfl (Or.inr rfl) rfl rfl
  | succ d ih =>
    intro i T hi hL e4 hs hr hp
    have hb := gWnd_bt (n := n) i hv h4
    obtain ⟨k1, k2⟩ := gKeep hs hr hp hb
    have ge := (goes_eq hs (hr.up4 hb)).1
    have lo : eq16 (mGoes (T.2.1 63) (upd (T.2.1 59) 4 (gWnd i n v s4))) (wStep (T.2.1 63) (upd (T.2.1 59) 4 (gWnd i n v s4))) := fun j hj => by rw [ge, pk_un (by omega)]
    generalize hu : mGoes (T.2.1 63) (upd (T.2.1 59) 4 (gWnd i n v s4)) = u at lo
    have e1 : (hRow T 59 u).2.1 63 = T.2.1 63 := hRow_ne _ _ (by decide)
    have e7 : (hRow T 59 u).2.1 58 = T.2.1 58 := hRow_ne _ _ (by decide)
    obtain ⟨w', ihk⟩ := ih (i + 1) (hRow T 59 u) (by omega) (hL.row _ _) (by rw [e7]; exact e4) (by rw [e1]; exact hs) (by rw [e1, hRow_at]; exact k1.congr rfl lo) (by rw [hRow_at]; exact k2.congr (lo 0 (by decide)) (lo 1 (by decide)) (lo 2 (by decide)))
    rw [e1, hRow_at, hRow_row, gB_c (fun _ _ => rfl) n v s4 d (i + 1) u _ lo] at ihk
    have mid : ∃ w', Rn hc_X10_bears 55 [some (.inr (some (10, 57))), some (.inl n), some (.inl v), some (.inl 1), some (.inl (nI i))] [.inl (gWnd i n v s4), .inl 4, .inr (some (10059, 59))] T (some (gB (T.2.1 63) n v s4 (d + 1) i (T.2.1 59)), hRow T 59 w') := by
      rw [gB_s]
      have go : ∀ o, Rn hc_X10_bears 71 [some (.inr (some (10, 57))), some (.inl n), some (.inl v), some (.inl 1), some (.inl (nI i))] [.inl 5, .inl (u 0)] (hRow T 59 u) o → Rn hc_X10_bears 55 [some (.inr (some (10, 57))), some (.inl n), some (.inl v), some (.inl 1), some (.inl (nI i))] [.inl (gWnd i n v s4), .inl 4, .inr (some (10059, 59))] T o := by
        intro o q
        refine r_iast0 rfl 4 rfl ⟨⟨by decide, by decide⟩, by decide⟩ ?_
        iterate 2 refine r_step rfl rfl ?_
        refine r_getr rfl (rv_57_1 (hL.put _ _ _)) ?_
        refine r_callv rfl rfl (e_goesOn 59 (hPut T 59 4 (gWnd i n v s4)) (rv_57_6 (hL.put _ _ _)) (by decide) (by rw [hPut_at, pk_un (by decide)]; exact hr.1)) ?_
        rw [hPut_at, hPut_ne (show 63 ≠ 59 by decide), hPut_eq, hRow_row, hu]
        refine r_step rfl rfl ?_
        refine r_getr rfl (rv_57_1 (hL.row _ _)) ?_
        refine r_step rfl rfl ?_
        refine r_iald rfl 0 rfl ⟨⟨by decide, by decide⟩, by decide⟩ ?_
        refine r_step rfl rfl ?_
        rw [hRow_at]
        exact q
      by_cases c : wStep (T.2.1 63) (upd (T.2.1 59) 4 (gWnd i n v s4)) 0 = 5
      · refine ⟨u, go _ ?_⟩
        rw [if_pos c]
        refine r_step rfl rfl ?_
        refine r_i_eq (fun _ => ?_) (fun q => absurd ((lo 0 (by decide)).trans c) q)
        iterate 4 refine r_step rfl rfl ?_
        exact bears_x n v _ _
      · refine ⟨w', go _ ?_⟩
        rw [if_neg c]
        refine r_step rfl rfl ?_
        refine r_i_eq (fun q => absurd ((lo 0 (by decide)).symm.trans q) c) (fun _ => ?_)
        iterate 5 refine r_step rfl rfl ?_
        show Rn hc_X10_bears 23 [some (.inr (some (10, 57))), some (.inl n), some (.inl v), some (.inl 1), some (.inl (nI i + 1))] [] _ _
        rw [nI_s1]
        exact ihk
    obtain ⟨w2, mid⟩ := mid
    refine ⟨w2, ?_⟩
    iterate 3 refine r_step rfl rfl ?_
    refine r_i_ge (fun q => absurd q (lt_lit (N := 60) rfl (by decide) (by omega))) (fun _ => ?_)
    iterate 3 refine r_step rfl rfl ?_
    refine r_getr rfl (rv_57_1 hL) ?_
    iterate 4 refine r_step rfl rfl ?_
    by_cases c : n ≤ nI i
    · rw [show gWnd i n v s4 = s4 from if_pos c] at mid
      refine r_i_ge (fun _ => ?_) (fun q => absurd c q)
      refine r_step rfl rfl ?_
      refine r_getr rfl (rv_57_0 hL) ?_
      refine r_step rfl rfl ?_
      refine r_iald rfl 4 rfl ⟨⟨by decide, by decide⟩, by decide⟩ ?_
      rw [e4]
      exact mid
    · rw [show gWnd i n v s4 = v from if_neg c] at mid
      refine r_i_ge (fun q => absurd q c) (fun _ => ?_)
      iterate 2 refine r_step rfl rfl ?_
      exact mid
