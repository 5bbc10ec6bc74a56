/-! A gust, in rows. -/
def gWnd (i : Nat) (n v s4 : Int32) : Int32 := if n ≤ nI i then s4 else v
def gB (st : Nat → Int32) (n v s4 : Int32) : Nat → Nat → (Nat → Int32) → Int32
  | 0, _, _ => 1
  | d + 1, i, w => if wStep st (upd w 4 (gWnd i n v s4)) 0 = 5 then 0 else gB st n v s4 d (i + 1) (wStep st (upd w 4 (gWnd i n v s4)))
theorem gB_s (st : Nat → Int32) (n v s4 : Int32) (d i : Nat) (w : Nat → Int32) : gB st n v s4 (d + 1) i w = if wStep st (upd w 4 (gWnd i n v s4)) 0 = 5 then 0 else gB st n v s4 d (i + 1) (wStep st (upd w 4 (gWnd i n v s4))) := rfl
theorem wRng.up4 {st w : Nat → Int32} (h : wRng st w) {x : Int32} (hx : bt x 0 40) : wRng st (upd w 4 x) := by
  obtain ⟨r0, r1, r2, r3, r4, r5, r6, r7, r8, r9, r10, r15⟩ := h
  exact ⟨r0, r1, r2, r3, hx, r5, r6, r7, r8, r9, r10, r15⟩
theorem gWnd_bt {n v s4 : Int32} (i : Nat) (hv : bt v 0 40) (h4 : bt s4 0 40) : bt (gWnd i n v s4) 0 40 := by
  unfold gWnd
  by_cases c : n ≤ nI i
  · rw [if_pos c]; exact h4
  · rw [if_neg c]; exact hv
theorem gKeep {st w : Nat → Int32} (hs : okSet st) (h : wRng st w) (hp : wPot w) {x : Int32} (hx : bt x 0 40) : wRng st (wStep st (upd w 4 x)) ∧ wPot (wStep st (upd w 4 x)) := by
  have k := step_inv hs (h.up4 hx) (hp.slot 4 (by decide) x)
  exact ⟨k.1, k.2.1⟩
theorem gB_c {a b : Nat → Int32} (s : ∀ j, j < 6 → a j = b j) (n v s4 : Int32) : ∀ (d i : Nat) (w u : Nat → Int32), eq16 w u → gB a n v s4 d i w = gB b n v s4 d i u := by
  intro d
  induction d with
  | zero => intro i w u _; rfl
  | succ d ih =>
    intro i w u h
    have k := wStep_c (h.up 4 (x := gWnd i n v s4) rfl) s
    rw [gB_s, gB_s, k 0 (by decide), ih (i + 1) _ _ k]
set_option maxHeartbeats 4000000 in
set_option maxRecDepth 100000 in
theorem gust_c (n v s4 : Int32) (hv : bt v 0 40) (h4 : bt s4 0 40) : ∀ (d i : Nat) (T : hS), i + d = 60 → hLay T → T.2.1 7 4 = s4 → okSet (T.2.1 1) → wRng (T.2.1 1) (T.2.1 56) → wPot (T.2.1 56) → ∃ w', Rn hc_X9_bearsGust 16 [some (.inr (some (9, 0))), some (.inl v), some (.inl n), some (.inl (nI i))] [] T (some (gB (T.2.1 1) n v s4 d i (T.2.1 56)), hRow T 56 w') := by
  intro d
  induction d with
  | zero =>
    intro i T hi hL e4 hs hr hp
    have : i = 60 := by omega
    subst this
    refine ⟨T.2.1 56, ?_⟩
    rw [hRow_self]
    iterate 3 refine r_step rfl rfl ?_
    refine r_i_ge (fun _ => ?_) (fun q => absurd (show (60 : Int32) ≤ nI 60 by decide) q)
    refine r_step rfl rfl ?_
    exact r_retz rfl (Or.inr rfl) rfl rfl
  | succ d ih =>
    intro i T hi hL e4 hs hr hp
    obtain ⟨k1, k2⟩ := gKeep hs hr hp (gWnd_bt (n := n) i hv h4)
    have e1 : (hRow T 56 (wStep (T.2.1 1) (upd (T.2.1 56) 4 (gWnd i n v s4)))).2.1 1 = T.2.1 1 := hRow_ne _ _ (by decide)
    have e7 : (hRow T 56 (wStep (T.2.1 1) (upd (T.2.1 56) 4 (gWnd i n v s4)))).2.1 7 = T.2.1 7 := hRow_ne _ _ (by decide)
    obtain ⟨w', ihk⟩ := ih (i + 1) (hRow T 56 (wStep (T.2.1 1) (upd (T.2.1 56) 4 (gWnd i n v s4)))) (by omega) (hL.row _ _) (by rw [e7]; exact e4) (by rw [e1]; exact hs) (by rw [e1, hRow_at]; exact k1) (by rw [hRow_at]; exact k2)
    rw [e1, hRow_at, hRow_row] at ihk
    have mid : ∃ w', Rn hc_X9_bearsGust 45 [some (.inr (some (9, 0))), some (.inl v), some (.inl n), some (.inl (nI i))] [.inl (gWnd i n v s4), .inr (some (8, 56))] T (some (gB (T.2.1 1) n v s4 (d + 1) i (T.2.1 56)), hRow T 56 w') := by
      rw [gB_s]
      by_cases c : wStep (T.2.1 1) (upd (T.2.1 56) 4 (gWnd i n v s4)) 0 = 5
      · refine ⟨wStep (T.2.1 1) (upd (T.2.1 56) 4 (gWnd i n v s4)), ?_⟩
        rw [if_pos c]
        iterate 2 refine r_step rfl rfl ?_
        refine r_getr rfl (rv_0_9 (hL.put _ _ _)) ?_
        refine r_step rfl rfl ?_
        refine r_getr rfl (rv_0_0 (hL.put _ _ _)) ?_
        refine r_callv rfl rfl (e_step 56 1 (hPut T 56 4 (gWnd i n v s4)) (by decide) (by rw [hPut_at, pk_un (by decide)]; exact hr.1)) ?_
        rw [hPut_at, hPut_ne (show 1 ≠ 56 by decide), hPut_eq, hRow_row]
        refine r_step rfl rfl ?_
        refine r_getr rfl (rv_0_9 (hL.row _ _)) ?_
        iterate 3 refine r_step rfl rfl ?_
        rw [hRow_at]
        refine r_i_ne (fun q => absurd c q) (fun _ => ?_)
        refine r_step rfl rfl ?_
        exact r_retz rfl (Or.inl rfl) rfl rfl
      · refine ⟨w', ?_⟩
        rw [if_neg c]
        iterate 2 refine r_step rfl rfl ?_
        refine r_getr rfl (rv_0_9 (hL.put _ _ _)) ?_
        refine r_step rfl rfl ?_
        refine r_getr rfl (rv_0_0 (hL.put _ _ _)) ?_
        refine r_callv rfl rfl (e_step 56 1 (hPut T 56 4 (gWnd i n v s4)) (by decide) (by rw [hPut_at, pk_un (by decide)]; exact hr.1)) ?_
        rw [hPut_at, hPut_ne (show 1 ≠ 56 by decide), hPut_eq, hRow_row]
        refine r_step rfl rfl ?_
        refine r_getr rfl (rv_0_9 (hL.row _ _)) ?_
        iterate 3 refine r_step rfl rfl ?_
        rw [hRow_at]
        refine r_i_ne (fun _ => ?_) (fun q => absurd q c)
        iterate 2 refine r_step rfl rfl ?_
        show Rn hc_X9_bearsGust 16 [some (.inr (some (9, 0))), some (.inl v), some (.inl n), some (.inl (nI i + 1))] [] _ _
        rw [nI_s1]
        exact ihk
    obtain ⟨w2, mid⟩ := mid
    refine ⟨w2, ?_⟩
    iterate 3 refine r_step rfl rfl ?_
    refine r_i_ge (fun q => absurd q (lt_lit (N := 60) rfl (by decide) (by omega))) (fun _ => ?_)
    refine r_step rfl rfl ?_
    refine r_getr rfl (rv_0_9 hL) ?_
    iterate 3 refine r_step rfl rfl ?_
    by_cases c : n ≤ nI i
    · rw [show gWnd i n v s4 = s4 from if_pos c] at mid
      refine r_i_ge (fun _ => ?_) (fun q => absurd c q)
      refine r_step rfl rfl ?_
      refine r_getr rfl (rv_0_3 hL) ?_
      refine r_getr rfl (rv_6_0 hL) ?_
      refine r_step rfl rfl ?_
      rw [e4]
      exact mid
    · rw [show gWnd i n v s4 = v from if_neg c] at mid
      refine r_i_ge (fun q => absurd q c) (fun _ => ?_)
      iterate 2 refine r_step rfl rfl ?_
      exact mid
