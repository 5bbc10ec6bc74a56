/-! dip. -/
def dG (i : Nat) (n : Int32) : Int32 := if nI i < n then 0 else 1
def dB (st : Nat → Int32) (n : Int32) : Nat → Nat → (Nat → Int32) → Int32
  | 0, _, _ => 1
  | d + 1, i, w => if 4 ≤ wStep st (upd w 9 (dG i n)) 0 then 0 else dB st n d (i + 1) (wStep st (upd w 9 (dG i n)))
theorem dB_s (st : Nat → Int32) (n : Int32) (d i : Nat) (w : Nat → Int32) : dB st n (d + 1) i w = if 4 ≤ wStep st (upd w 9 (dG i n)) 0 then 0 else dB st n d (i + 1) (wStep st (upd w 9 (dG i n))) := rfl
theorem dG_b (i : Nat) (n : Int32) : isB (dG i n) := by
  unfold dG
  by_cases c : nI i < n
  · rw [if_pos c]; exact Or.inl rfl
  · rw [if_neg c]; exact Or.inr rfl
theorem wRng.up9 {st w : Nat → Int32} (h : wRng st w) {x : Int32} (hx : isB x) : wRng st (upd w 9 x) := by
  obtain ⟨r0, r1, r2, r3, r4, r5, r6, r7, r8, r9, r10, r15⟩ := h
  exact ⟨r0, r1, r2, r3, r4, r5, r6, r7, r8, hx, r10, r15⟩
theorem dKeep {st w : Nat → Int32} (hs : okSet st) (h : wRng st w) (hp : wPot w) {x : Int32} (hx : isB x) : wRng st (wStep st (upd w 9 x)) ∧ wPot (wStep st (upd w 9 x)) := by
  have k := step_inv hs (h.up9 hx) (hp.slot 9 (by decide) x)
  exact ⟨k.1, k.2.1⟩
theorem dB_c {a b : Nat → Int32} (s : ∀ j, j < 6 → a j = b j) (n : Int32) : ∀ (d i : Nat) (w u : Nat → Int32), eq16 w u → dB a n d i w = dB b n d i u := by
  intro d
  induction d with
  | zero => intro i w u _; rfl
  | succ d ih =>
    intro i w u h
    have k := wStep_c (h.up 9 (x := dG i n) rfl) s
    rw [dB_s, dB_s, k 0 (by decide), ih (i + 1) _ _ k]
theorem mode4 {m : Int32} (h : isMode m) : 4 ≤ m ↔ (m = 4 ∨ m = 5) := by
  rcases h with rfl | rfl | rfl | rfl | rfl | rfl <;> decide
set_option maxHeartbeats 4000000 in
set_option maxRecDepth 100000 in
theorem dip_c (n : Int32) : ∀ (d i : Nat) (T : hS), i + d = 60 → hLay T → okSet (T.2.1 1) → wRng (T.2.1 1) (T.2.1 56) → wPot (T.2.1 56) → ∃ w', Rn hc_X9_ridesDip 16 [some (.inr (some (9, 0))), some (.inl n), some (.inl (nI i))] [] T (some (dB (T.2.1 1) n d i (T.2.1 56)), hRow T 56 w') := by
  intro d
  induction d with
  | zero =>
    intro i T hi hL hs hr hp
    have : i = 60 := by omega
    subst this
    refine ⟨T.2.1 56, ?_⟩
    rw [hRow_self]
    iterate 3 refine r_step rfl rfl ?_
    refine r_i_ge (fun _ => ?_) (fun q => absurd (show (60 : Int32) ≤ nI 60 by decide) q)
    refine r_step rfl rfl ?_
    exact r_retz rfl (Or.inr rfl) rfl rfl
  | succ d ih =>
    intro i T hi hL hs hr hp
    have hb := dG_b i n
    obtain ⟨k1, k2⟩ := dKeep hs hr hp hb
    generalize hu : wStep (T.2.1 1) (upd (T.2.1 56) 9 (dG i n)) = u at k1 k2
    have e1 : (hRow T 56 u).2.1 1 = T.2.1 1 := hRow_ne _ _ (by decide)
    obtain ⟨w', ihk⟩ := ih (i + 1) (hRow T 56 u) (by omega) (hL.row _ _) (by rw [e1]; exact hs) (by rw [e1, hRow_at]; exact k1) (by rw [hRow_at]; exact k2)
    rw [e1, hRow_at, hRow_row] at ihk
    have go : ∀ o, Rn hc_X9_ridesDip 58 [some (.inr (some (9, 0))), some (.inl n), some (.inl (nI i))] [.inl 4, .inl (u 0)] (hRow T 56 u) o → Rn hc_X9_ridesDip 36 [some (.inr (some (9, 0))), some (.inl n), some (.inl (nI i))] [.inl (dG i n), .inr (some (8, 56))] T o := by
      intro o q
      refine r_putz rfl hb (fun _ e => ?_)
      subst e
      refine r_step rfl rfl ?_
      refine r_getr rfl (rv_0_9 (hL.put _ _ _)) ?_
      refine r_step rfl rfl ?_
      refine r_getr rfl (rv_0_0 (hL.put _ _ _)) ?_
      refine r_callv rfl rfl (e_step 56 1 (hPut T 56 9 (dG i n)) (by decide) (by rw [hPut_at, pk_un (by decide)]; exact hr.1)) ?_
      rw [hPut_at, hPut_ne (show 1 ≠ 56 by decide), hPut_eq, hRow_row, hu]
      refine r_step rfl rfl ?_
      refine r_getr rfl (rv_0_9 (hL.row _ _)) ?_
      iterate 2 refine r_step rfl rfl ?_
      rw [hRow_at]
      exact q
    have mid : ∃ w', Rn hc_X9_ridesDip 36 [some (.inr (some (9, 0))), some (.inl n), some (.inl (nI i))] [.inl (dG i n), .inr (some (8, 56))] T (some (dB (T.2.1 1) n (d + 1) i (T.2.1 56)), hRow T 56 w') := by
      rw [dB_s, hu]
      have out : Rn hc_X9_ridesDip 72 [some (.inr (some (9, 0))), some (.inl n), some (.inl (nI i))] [] (hRow T 56 u) (some 0, hRow T 56 u) := by
        refine r_step rfl rfl ?_
        exact r_retz rfl (Or.inl rfl) rfl rfl
      have m4 := mode4 k1.1
      by_cases c : 4 ≤ u 0
      · refine ⟨u, go _ ?_⟩
        rw [if_pos c]
        refine r_step rfl rfl ?_
        refine r_i_eq (fun _ => out) (fun q => ?_)
        refine r_step rfl rfl ?_
        refine r_getr rfl (rv_0_9 (hL.row _ _)) ?_
        iterate 3 refine r_step rfl rfl ?_
        rw [hRow_at]
        refine r_i_ne (fun p => absurd (m4.1 c) (fun x => x.elim q p)) (fun _ => out)
      · refine ⟨w', go _ ?_⟩
        rw [if_neg c]
        refine r_step rfl rfl ?_
        refine r_i_eq (fun q => absurd (m4.2 (Or.inl q)) c) (fun _ => ?_)
        refine r_step rfl rfl ?_
        refine r_getr rfl (rv_0_9 (hL.row _ _)) ?_
        iterate 3 refine r_step rfl rfl ?_
        rw [hRow_at]
        refine r_i_ne (fun _ => ?_) (fun q => absurd (m4.2 (Or.inr q)) c)
        iterate 2 refine r_step rfl rfl ?_
        show Rn hc_X9_ridesDip 16 [some (.inr (some (9, 0))), some (.inl n), some (.inl (nI i + 1))] [] _ _
        rw [nI_s1]
        exact ihk
    obtain ⟨w2, mid⟩ := mid
    refine ⟨w2, ?_⟩
    iterate 3 refine r_step rfl rfl ?_
    refine r_i_ge (fun q => absurd q (lt_lit (N := 60) rfl (by decide) (by omega))) (fun _ => ?_)
    refine r_step rfl rfl ?_
    refine r_getr rfl (rv_0_9 hL) ?_
    iterate 3 refine r_step rfl rfl ?_
    by_cases c : nI i < n
    · rw [show dG i n = 0 from if_pos c] at mid
      refine r_i_lt (fun _ => ?_) (fun q => absurd c q)
      refine r_step rfl rfl ?_
      exact mid
    · rw [show dG i n = 1 from if_neg c] at mid
      refine r_i_lt (fun q => absurd q c) (fun _ => ?_)
      iterate 2 refine r_step rfl rfl ?_
      exact mid
theorem rides_x (n i : Int32) (T : hS) : Rn hc_X10_rides 8 [some (.inr (some (10, 57))), some (.inl n), some (.inl 0), some (.inl i)] [] T (some 0, T) := by
  have out : Rn hc_X10_rides 65 [some (.inr (some (10, 57))), some (.inl n), some (.inl 0), some (.inl i)] [] T (some 0, T) := by
    refine r_step rfl rfl ?_
    exact r_retz rfl (Or.inl rfl) rfl rfl
  iterate 3 refine r_step rfl rfl ?_
  refine r_i_ge (fun _ => out) (fun _ => ?_)
  iterate 2 refine r_step rfl rfl ?_
  exact out
set_option maxHeartbeats 4000000 in
set_option maxRecDepth 100000 in
theorem dip_m (n : Int32) : ∀ (d i : Nat) (T : hS), i + d = 60 → hLay T → okSet (T.2.1 63) → wRng (T.2.1 63) (T.2.1 59) → wPot (T.2.1 59) → ∃ w', Rn hc_X10_rides 8 [some (.inr (some (10, 57))), some (.inl n), some (.inl 1), some (.inl (nI i))] [] T (some (dB (T.2.1 63) n d i (T.2.1 59)), hRow T 59 w') := by
  intro d
  induction d with
  | zero =>
    intro i T hi hL hs hr hp
    have : i = 60 := by omega
    subst this
    refine ⟨T.2.1 59, ?_⟩
    rw [hRow_self]
    iterate 3 refine r_step rfl rfl ?_
    refine r_i_ge (fun _ => ?_) (fun q => absurd (show (60 : Int32) ≤ nI 60 by decide) q)
    refine r_step rfl rfl ?_
    exact r_retz rfl (Or.inr rfl) rfl rfl
  | succ d ih =>
    intro i T hi hL hs hr hp
    have hb := dG_b i n
    obtain ⟨k1, k2⟩ := dKeep hs hr hp hb
    have ge := (goes_eq hs (hr.up9 hb)).1
    have lo : eq16 (mGoes (T.2.1 63) (upd (T.2.1 59) 9 (dG i n))) (wStep (T.2.1 63) (upd (T.2.1 59) 9 (dG i n))) := fun j hj => by rw [ge, pk_un (by omega)]
    generalize hu : mGoes (T.2.1 63) (upd (T.2.1 59) 9 (dG i n)) = u at lo
    have e1 : (hRow T 59 u).2.1 63 = T.2.1 63 := hRow_ne _ _ (by decide)
    obtain ⟨w', ihk⟩ := ih (i + 1) (hRow T 59 u) (by omega) (hL.row _ _) (by rw [e1]; exact hs) (by rw [e1, hRow_at]; exact k1.congr rfl lo) (by rw [hRow_at]; exact k2.congr (lo 0 (by decide)) (lo 1 (by decide)) (lo 2 (by decide)))
    rw [e1, hRow_at, hRow_row, dB_c (fun _ _ => rfl) n d (i + 1) u _ lo] at ihk
    have mid : ∃ w', Rn hc_X10_rides 34 [some (.inr (some (10, 57))), some (.inl n), some (.inl 1), some (.inl (nI i))] [.inl (dG i n), .inl 9, .inr (some (10059, 59))] T (some (dB (T.2.1 63) n (d + 1) i (T.2.1 59)), hRow T 59 w') := by
      rw [dB_s]
      have go : ∀ o, Rn hc_X10_rides 50 [some (.inr (some (10, 57))), some (.inl n), some (.inl 1), some (.inl (nI i))] [.inl 4, .inl (u 0)] (hRow T 59 u) o → Rn hc_X10_rides 34 [some (.inr (some (10, 57))), some (.inl n), some (.inl 1), some (.inl (nI i))] [.inl (dG i n), .inl 9, .inr (some (10059, 59))] T o := by
        intro o q
        refine r_iast0 rfl 9 rfl ⟨⟨by decide, by decide⟩, by decide⟩ ?_
        iterate 2 refine r_step rfl rfl ?_
        refine r_getr rfl (rv_57_1 (hL.put _ _ _)) ?_
        refine r_callv rfl rfl (e_goesOn 59 (hPut T 59 9 (dG i n)) (rv_57_6 (hL.put _ _ _)) (by decide) (by rw [hPut_at, pk_un (by decide)]; exact hr.1)) ?_
        rw [hPut_at, hPut_ne (show 63 ≠ 59 by decide), hPut_eq, hRow_row, hu]
        refine r_step rfl rfl ?_
        refine r_getr rfl (rv_57_1 (hL.row _ _)) ?_
        refine r_step rfl rfl ?_
        refine r_iald rfl 0 rfl ⟨⟨by decide, by decide⟩, by decide⟩ ?_
        refine r_step rfl rfl ?_
        rw [hRow_at]
        exact q
      have lo0 := lo 0 (by decide)
      by_cases c : 4 ≤ wStep (T.2.1 63) (upd (T.2.1 59) 9 (dG i n)) 0
      · refine ⟨u, go _ ?_⟩
        rw [if_pos c]
        refine r_step rfl rfl ?_
        refine r_i_ge (fun _ => ?_) (fun q => absurd (by rw [lo0]; exact c) q)
        iterate 4 refine r_step rfl rfl ?_
        exact rides_x n _ _
      · refine ⟨w', go _ ?_⟩
        rw [if_neg c]
        refine r_step rfl rfl ?_
        refine r_i_ge (fun q => absurd (by rw [← lo0]; exact q) c) (fun _ => ?_)
        iterate 5 refine r_step rfl rfl ?_
        show Rn hc_X10_rides 8 [some (.inr (some (10, 57))), some (.inl n), some (.inl 1), some (.inl (nI i + 1))] [] _ _
        rw [nI_s1]
        exact ihk
    obtain ⟨w2, mid⟩ := mid
    refine ⟨w2, ?_⟩
    iterate 3 refine r_step rfl rfl ?_
    refine r_i_ge (fun q => absurd q (lt_lit (N := 60) rfl (by decide) (by omega))) (fun _ => ?_)
    iterate 3 refine r_step rfl rfl ?_
    refine r_getr rfl (rv_57_1 hL) ?_
    iterate 4 refine r_step rfl rfl ?_
    by_cases c : n ≤ nI i
    · rw [show dG i n = 1 from if_neg (fun q => by rw [i_lt] at q; rw [i_le] at c; omega)] at mid
      refine r_i_ge (fun _ => ?_) (fun q => absurd c q)
      refine r_step rfl rfl ?_
      exact mid
    · rw [show dG i n = 0 from if_pos (by rw [i_le] at c; rw [i_lt]; omega)] at mid
      refine r_i_ge (fun q => absurd q c) (fun _ => ?_)
      iterate 2 refine r_step rfl rfl ?_
      exact mid
