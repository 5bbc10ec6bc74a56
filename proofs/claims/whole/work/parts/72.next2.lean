/-! The model's next token, all of it. -/
def tk (b : Nat → Int32) (n p : Nat) : Int32 := if p = n then 2 else if mIn (b p) 48 57 = 0 then (if b p = 59 ∨ ¬ sOf (b p) = -1 then b p else 3) else (if 255 < mv b p (nL b n p) ∨ (b p = 48 ∧ 1 < nL b n p) then 3 else 1)
def nSt (b : Nat → Int32) (n p : Nat) (U : hS) : Prop := U.2.1 57 10 = nI p ∧ U.2.1 57 11 = tk b n p ∧ (p < n → U.2.1 57 9 = nI (tkE b n p)) ∧ (p < n → ¬ mIn (b p) 48 57 = 0 → U.2.1 57 12 = nI (mv b p (nL b n p)))
theorem wOf_9 {x : Int32} : wOf x = -9 ↔ sOf x = -1 := by
  unfold wOf
  by_cases c : sOf x = -1
  · rw [if_pos c]; exact ⟨fun _ => c, fun _ => rfl⟩
  · rw [if_neg c]
    refine ⟨fun e => ?_, fun e => absurd e c⟩
    exfalso
    unfold sOf at e
    by_cases c1 : x = 114
    · rw [if_pos c1] at e; exact absurd e (by decide)
    rw [if_neg c1] at e
    by_cases c2 : x = 116
    · rw [if_pos c2] at e; exact absurd e (by decide)
    rw [if_neg c2] at e
    by_cases c3 : x = 105
    · rw [if_pos c3] at e; exact absurd e (by decide)
    rw [if_neg c3] at e
    by_cases c4 : x = 111
    · rw [if_pos c4] at e; exact absurd e (by decide)
    rw [if_neg c4] at e
    by_cases c5 : x = 108
    · rw [if_pos c5] at e; exact absurd e (by decide)
    rw [if_neg c5] at e
    by_cases c6 : x = 115
    · rw [if_pos c6] at e; exact absurd e (by decide)
    rw [if_neg c6] at e; exact absurd e (by decide)
set_option maxHeartbeats 4000000 in
set_option maxRecDepth 100000 in
theorem e_next {b : Nat → Int32} {n : Nat} {U : hS} (h : mT b n U) (q : Nat) (hq : q ≤ n) (ha : U.2.1 57 9 = nI q) : ∃ U', Ev 103 [.inr (some (10, 57))] U (none, U') ∧ mFr U U' ∧ nSt b n (bl b (n - q) q) U' := by
  obtain ⟨U1, a1, a2, a3⟩ := nx_skip (n - q) q U (by omega) h ha
  have bb := bl_le b (n - q) q
  generalize bl b (n - q) q = p at *
  have hp : p ≤ n := by omega
  have hT1 := h.fr a1
  have h80 := h.2.1
  have f2 := mFr.put U1 10 (nI p) (by omega)
  have hT2 := hT1.fr f2
  have s9 : (hPut U1 57 10 (nI p)).2.1 57 9 = nI p := by rw [hPut_at, pk_un (by decide)]; exact a2
  have s10 : (hPut U1 57 10 (nI p)).2.1 57 10 = nI p := by rw [hPut_at, pk_us]
  have start : ∀ o, Rn hc_X10_next 54 [some (.inr (some (10, 57)))] [.inl (nI n), .inl (nI p)] (hPut U1 57 10 (nI p)) o → Ev 103 [.inr (some (10, 57))] U o := by
    intro o k
    show Rn hc_X10_next 0 [some (.inr (some (10, 57)))] [] U _
    refine a3 _ ?_
    iterate 4 refine r_step rfl rfl ?_
    rw [a2]
    iterate 4 refine r_step rfl rfl ?_
    rw [s9, hT2.2.2.1]
    exact k
  have f0 := a1.trans f2
  generalize hPut U1 57 10 (nI p) = V at *
  have hLV := hT2.1
  by_cases cn : p = n
  · have f3 := mFr.put V 11 2 (by omega)
    refine ⟨hPut V 57 11 2, start _ ?_, f0.trans f3, ?_, ?_, fun w => absurd w (by omega), fun w => absurd w (by omega)⟩
    · refine r_step rfl rfl ?_
      refine r_i_ne (fun q => absurd (congrArg nI cn) q) (fun _ => ?_)
      iterate 4 refine r_step rfl rfl ?_
      exact r_retn rfl rfl
    · rw [hPut_at, pk_un (by decide)]; exact s10
    · rw [hPut_at, pk_us]; exact (if_pos cn).symm
  have pn : p < n := by omega
  have fg := e_isFigure hT2 p hp s9
  rw [if_pos pn] at fg
  have start2 : ∀ o, Rn hc_X10_next 69 [some (.inr (some (10, 57)))] [.inl (mIn (b p) 48 57)] V o → Ev 103 [.inr (some (10, 57))] U o := by
    intro o k
    refine start _ ?_
    refine r_step rfl rfl ?_
    refine r_i_ne (fun _ => ?_) (fun q => absurd ((nI_eq (by omega) (by omega)).1 q) cn)
    refine r_step rfl rfl ?_
    exact r_call rfl rfl fg k
  by_cases cf : mIn (b p) 48 57 = 0
  · have tE : tkE b n p = p + 1 := if_pos cf
    have fin : ∀ x : Int32, x = tk b n p → Rn hc_X10_next 231 [some (.inr (some (10, 57)))] [.inl x, .inr (some (10, 57))] V (none, hPut (hPut V 57 11 (tk b n p)) 57 9 (nI (p + 1))) := by
      intro x e
      rw [e]
      iterate 6 refine r_step rfl rfl ?_
      rw [hPut_at, pk_un (by decide), s9, nI_s1]
      refine r_step rfl rfl ?_
      exact r_retn rfl rfl
    have tkv : tk b n p = if b p = 59 ∨ ¬ sOf (b p) = -1 then b p else 3 := by
      unfold tk
      rw [if_neg cn, if_pos cf]
    have let1 : b p = 59 ∨ ¬ sOf (b p) = -1 → Rn hc_X10_next 218 [some (.inr (some (10, 57)))] [.inr (some (10, 57))] V (none, hPut (hPut V 57 11 (tk b n p)) 57 9 (nI (p + 1))) := by
      intro w
      refine r_step rfl rfl ?_
      refine r_getr rfl (rv_57_7 hLV) ?_
      iterate 2 refine r_step rfl rfl ?_
      refine r_iald rfl p (by rw [s9]; exact ti (by omega)) ⟨⟨by decide, by decide⟩, by show p < 80; omega⟩ ?_
      refine r_step rfl rfl ?_
      exact fin _ (by rw [hT2.2.2.2, tkv, if_pos w])
    refine ⟨hPut (hPut V 57 11 (tk b n p)) 57 9 (nI (p + 1)), start2 _ ?_, (f0.trans (mFr.put V 11 (tk b n p) (by omega))).trans (mFr.put _ 9 (nI (p + 1)) (by omega)), ?_, ?_, fun _ => ?_, fun _ w => absurd cf w⟩
    · refine r_step rfl rfl ?_
      refine r_i_eq (fun _ => ?_) (fun q => absurd cf q)
      iterate 2 refine r_step rfl rfl ?_
      refine r_getr rfl (rv_57_7 hLV) ?_
      iterate 2 refine r_step rfl rfl ?_
      refine r_iald rfl p (by rw [s9]; exact ti (by omega)) ⟨⟨by decide, by decide⟩, by show p < 80; omega⟩ ?_
      iterate 2 refine r_step rfl rfl ?_
      rw [hT2.2.2.2]
      refine r_i_eq (fun q => let1 (Or.inl q)) (fun n59 => ?_)
      refine r_step rfl rfl ?_
      refine r_getr rfl (rv_57_7 hLV) ?_
      iterate 2 refine r_step rfl rfl ?_
      refine r_iald rfl p (by rw [s9]; exact ti (by omega)) ⟨⟨by decide, by decide⟩, by show p < 80; omega⟩ ?_
      rw [hT2.2.2.2]
      refine r_call rfl rfl (e_whichOf _ _) ?_
      iterate 2 refine r_step rfl rfl ?_
      refine r_i_eq (fun q => ?_) (fun q => let1 (Or.inr (fun w => q (wOf_9.2 w))))
      refine r_step rfl rfl ?_
      exact fin _ (by rw [tkv, if_neg (fun w => w.elim n59 (fun w => w (wOf_9.1 q)))])
    · rw [hPut_at, pk_un (by decide), hPut_at, pk_un (by decide)]; exact s10
    · rw [hPut_at, pk_un (by decide), hPut_at, pk_us]
    · rw [hPut_at, pk_us, tE]
  · have f3 := mFr.put V 12 0 (by omega)
    have tE : tkE b n p = be b (n - p) p := if_neg cf
    obtain ⟨W, c1, c2, c3, c4, c5⟩ := nx_dig (b := b) (n := n) p (n - p) 0 (hPut V 57 12 0) (by omega) (hT2.fr f3) (fun i g1 g2 => absurd g2 (by omega)) (by rw [hPut_at, pk_un (by decide)]; exact s9) (by rw [hPut_at, pk_us]; rfl)
    rw [Nat.add_zero, ← tE] at c2 c3
    have c3' : W.2.1 57 12 = nI (mv b p (nL b n p)) := c3
    rw [hPut_at, pk_un (show 10 ≠ 12 by decide), s10] at c4
    have hTW := (hT2.fr f3).fr c1
    have tl := tkE_le (b := b) pn
    have vb := mv_lt b p (nL b n p) (fun i g1 g2 => (dg_of (nL_dg pn cf i g1 g2)).2)
    have tkv : tk b n p = if 255 < mv b p (nL b n p) ∨ (b p = 48 ∧ 1 < nL b n p) then 3 else 1 := by
      unfold tk
      rw [if_neg cn, if_neg cf]
    have start3 : ∀ o, Rn hc_X10_next 137 [some (.inr (some (10, 57)))] [] W o → Ev 103 [.inr (some (10, 57))] U o := by
      intro o k
      refine start2 _ ?_
      refine r_step rfl rfl ?_
      refine r_i_eq (fun q => absurd q cf) (fun _ => ?_)
      iterate 3 refine r_step rfl rfl ?_
      exact c5 o k
    have fin : ∀ x : Int32, x = tk b n p → Rn hc_X10_next 180 [some (.inr (some (10, 57)))] [.inl x, .inr (some (10, 57))] W (none, hPut W 57 11 (tk b n p)) := by
      intro x e
      rw [e]
      iterate 2 refine r_step rfl rfl ?_
      exact r_retn rfl rfl
    have bad : 255 < mv b p (nL b n p) ∨ (b p = 48 ∧ 1 < nL b n p) → Rn hc_X10_next 175 [some (.inr (some (10, 57)))] [.inr (some (10, 57))] W (none, hPut W 57 11 (tk b n p)) := by
      intro w
      iterate 2 refine r_step rfl rfl ?_
      exact fin _ (by rw [tkv, if_pos w])
    have good : ¬ (255 < mv b p (nL b n p) ∨ (b p = 48 ∧ 1 < nL b n p)) → Rn hc_X10_next 179 [some (.inr (some (10, 57)))] [.inr (some (10, 57))] W (none, hPut W 57 11 (tk b n p)) := by
      intro w
      refine r_step rfl rfl ?_
      exact fin _ (by rw [tkv, if_neg w])
    refine ⟨hPut W 57 11 (tk b n p), start3 _ ?_, ((f0.trans f3).trans c1).trans (mFr.put W 11 (tk b n p) (by omega)), ?_, ?_, fun _ => ?_, fun _ _ => ?_⟩
    · iterate 5 refine r_step rfl rfl ?_
      rw [c3']
      by_cases e : 255 < mv b p (nL b n p)
      · exact r_i_gt (fun _ => bad (Or.inl e)) (fun q => absurd (by rw [i_lt, ti (by omega), show (255 : Int32).toInt = 255 from rfl]; omega) q)
      refine r_i_gt (fun q => absurd q (by rw [i_lt, ti (by omega), show (255 : Int32).toInt = 255 from rfl]; omega)) (fun _ => ?_)
      refine r_step rfl rfl ?_
      refine r_getr rfl (rv_57_7 hTW.1) ?_
      iterate 2 refine r_step rfl rfl ?_
      refine r_iald rfl p (by rw [c4]; exact ti (by omega)) ⟨⟨by decide, by decide⟩, by show p < 80; omega⟩ ?_
      iterate 2 refine r_step rfl rfl ?_
      rw [hTW.2.2.2]
      refine r_i_ne (fun q => good (fun w => w.elim e (fun w => q w.1))) (fun b48 => ?_)
      iterate 7 refine r_step rfl rfl ?_
      rw [c2, c4, nI_s1]
      by_cases e1 : 1 < nL b n p
      · have e2 : p + 1 < tkE b n p := by unfold nL at e1; omega
        exact r_i_le (fun q => absurd q (nI_ge e2 (by omega))) (fun _ => bad (Or.inr ⟨b48, e1⟩))
      · have e2 : tkE b n p ≤ p + 1 := by unfold nL at e1; omega
        exact r_i_le (fun _ => good (fun w => w.elim e (fun w => e1 w.2))) (fun q => absurd (nI_le e2 (by omega)) q)
    · rw [hPut_at, pk_un (by decide)]; exact c4
    · rw [hPut_at, pk_us]
    · rw [hPut_at, pk_un (by decide)]; exact c2
    · rw [hPut_at, pk_un (by decide)]; exact c3'
