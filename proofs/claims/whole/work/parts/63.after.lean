/-! The speed after some ticks, by a wind and by ice. -/
def itS (st : Nat → Int32) : Nat → (Nat → Int32) → Nat → Int32
  | 0, w => w
  | n + 1, w => itS st n (wStep st w)
theorem itS_c {a b : Nat → Int32} (s : ∀ j, j < 6 → a j = b j) : ∀ n w u, eq16 w u → eq16 (itS a n w) (itS b n u)
  | 0, _, _, h => h
  | n + 1, w, u, h => itS_c s n _ _ (wStep_c h s)
theorem itS_r {st : Nat → Int32} (hs : okSet st) : ∀ n w, wRng st w → wPot w → wRng st (itS st n w)
  | 0, _, h, _ => h
  | n + 1, w, h, hp => itS_r hs n _ (step_inv hs h hp).1 (step_inv hs h hp).2.1
def sAf (st w : Nat → Int32) (n : Nat) (wd ic : Int32) : Int32 := itS st n (upd (upd w 4 wd) 8 ic) 1
theorem wRng.up8 {st w : Nat → Int32} (h : wRng st w) {x : Int32} (hx : bt x 0 5) : wRng st (upd w 8 x) := by
  obtain ⟨r0, r1, r2, r3, r4, r5, r6, r7, r8, r9, r10, r15⟩ := h
  exact ⟨r0, r1, r2, r3, r4, r5, r6, r7, hx, r9, r10, r15⟩
theorem sAf_bt {st w : Nat → Int32} (hs : okSet st) (h : wRng st w) (hp : wPot w) (n : Nat) {wd ic : Int32} (h4 : bt wd 0 40) (h8 : bt ic 0 5) : bt (sAf st w n wd ic) 0 999 :=
  (itS_r hs n _ ((h.up4 h4).up8 h8) ((hp.slot 4 (by decide) wd).slot 8 (by decide) ic)).2.1
theorem sAf_c {a b w u : Nat → Int32} (s : ∀ j, j < 6 → a j = b j) (h : eq16 w u) (n : Nat) (wd ic : Int32) : sAf a w n wd ic = sAf b u n wd ic := itS_c s n _ _ ((h.up 4 rfl).up 8 rfl) 1 (by decide)
theorem sa_l (N : Nat) (hN : N ≤ 20) (wd ic : Int32) : ∀ (d i : Nat) (T : hS), i + d = N → hLay T → okSet (T.2.1 1) → wRng (T.2.1 1) (T.2.1 56) → wPot (T.2.1 56) → ∃ w', Rn hc_X9_speedAfter 33 [some (.inr (some (9, 0))), some (.inl (nI N)), some (.inl wd), some (.inl ic), some (.inl (nI i))] [] T (some (itS (T.2.1 1) d (T.2.1 56) 1), hRow T 56 w') := by
  intro d
  induction d with
  | zero =>
    intro i T hi hL hs hr hp
    have : i = N := by omega
    subst this
    refine ⟨T.2.1 56, ?_⟩
    rw [hRow_self]
    iterate 3 refine r_step rfl rfl ?_
    refine r_i_ge (fun _ => ?_) (fun q => absurd (nI_le (Nat.le_refl _) (by omega)) q)
    refine r_step rfl rfl ?_
    refine r_getr rfl (rv_0_9 hL) ?_
    refine r_step rfl rfl ?_
    exact r_reti rfl rfl rfl
  | succ d ih =>
    intro i T hi hL hs hr hp
    have k := step_inv hs hr hp
    have e1 : (hRow T 56 (wStep (T.2.1 1) (T.2.1 56))).2.1 1 = T.2.1 1 := hRow_ne _ _ (by decide)
    obtain ⟨w', ihk⟩ := ih (i + 1) (hRow T 56 (wStep (T.2.1 1) (T.2.1 56))) (by omega) (hL.row _ _) (by rw [e1]; exact hs) (by rw [e1, hRow_at]; exact k.1) (by rw [hRow_at]; exact k.2.1)
    rw [e1, hRow_at, hRow_row] at ihk
    refine ⟨w', ?_⟩
    iterate 3 refine r_step rfl rfl ?_
    refine r_i_ge (fun q => absurd q (nI_ge (by omega) (by omega))) (fun _ => ?_)
    refine r_step rfl rfl ?_
    refine r_getr rfl (rv_0_9 hL) ?_
    refine r_step rfl rfl ?_
    refine r_getr rfl (rv_0_0 hL) ?_
    refine r_callv rfl rfl (e_step 56 1 T (by decide) hr.1) ?_
    iterate 2 refine r_step rfl rfl ?_
    show Rn hc_X9_speedAfter 33 [some (.inr (some (9, 0))), some (.inl (nI N)), some (.inl wd), some (.inl ic), some (.inl (nI i + 1))] [] _ _
    rw [nI_s1]
    exact ihk
theorem e_speedAfter (N : Nat) (hN : N ≤ 20) (wd ic : Int32) (h4 : bt wd 0 40) (h8 : bt ic 0 5) (S : hS) (hL : hLay S) (hs : okSet (S.2.1 1)) (hr : wRng (S.2.1 1) (S.2.1 7)) (hp : wPot (S.2.1 7)) : ∃ w', Ev 130 [.inr (some (9, 0)), .inl (nI N), .inl wd, .inl ic] S (some (sAf (S.2.1 1) (S.2.1 7) N wd ic), hRow S 56 w') := by
  have lo : eq16 (wCopy (S.2.1 56) (S.2.1 7)) (S.2.1 7) := fun j hj => wCopy_at j hj
  generalize hu : wCopy (S.2.1 56) (S.2.1 7) = u at lo
  have e1 : (hRow S 56 (upd (upd u 4 wd) 8 ic)).2.1 1 = S.2.1 1 := hRow_ne _ _ (by decide)
  have hr2 : wRng (S.2.1 1) u := hr.congr rfl lo
  have hp2 : wPot u := hp.congr (lo 0 (by decide)) (lo 1 (by decide)) (lo 2 (by decide))
  obtain ⟨w', k⟩ := sa_l N hN wd ic N 0 (hRow S 56 (upd (upd u 4 wd) 8 ic)) (by omega) (hL.row _ _) (by rw [e1]; exact hs) (by rw [e1, hRow_at]; exact (hr2.up4 h4).up8 h8) (by rw [hRow_at]; exact (hp2.slot 4 (by decide) wd).slot 8 (by decide) ic)
  rw [e1, hRow_at, hRow_row] at k
  have e : itS (S.2.1 1) N (upd (upd u 4 wd) 8 ic) 1 = sAf (S.2.1 1) (S.2.1 7) N wd ic := sAf_c (fun _ _ => rfl) lo N wd ic
  rw [e] at k
  refine ⟨w', ?_⟩
  show Rn hc_X9_speedAfter 0 [some (.inr (some (9, 0))), some (.inl (nI N)), some (.inl wd), some (.inl ic), none] [] S _
  refine r_step rfl rfl ?_
  refine r_getr rfl (rv_0_9 hL) ?_
  refine r_step rfl rfl ?_
  refine r_getr rfl (rv_0_3 hL) ?_
  refine r_getr rfl (rv_6_0 hL) ?_
  refine r_callv rfl rfl (e_wcopy 56 7 S (by decide) hr.2.2.2.2.2.2.2.2.2.1 hr.2.2.2.2.2.2.2.2.2.2.1 hr.2.2.2.2.2.2.2.2.2.2.2) ?_
  rw [hu]
  refine r_step rfl rfl ?_
  refine r_getr rfl (rv_0_9 (hL.row _ _)) ?_
  iterate 2 refine r_step rfl rfl ?_
  rw [hPut_row]
  refine r_step rfl rfl ?_
  refine r_getr rfl (rv_0_9 (hL.row _ _)) ?_
  iterate 2 refine r_step rfl rfl ?_
  rw [hPut_row]
  iterate 2 refine r_step rfl rfl ?_
  exact k
theorem sb_l (N : Nat) (hN : N ≤ 20) (wd ic : Int32) : ∀ (d i : Nat) (T : hS), i + d = N → hLay T → okSet (T.2.1 63) → wRng (T.2.1 63) (T.2.1 59) → wPot (T.2.1 59) → ∃ w', Rn hc_X10_speedBy 22 [some (.inr (some (10, 57))), some (.inl ic), some (.inl (nI N)), some (.inl wd), some (.inl (nI i))] [] T (some (itS (T.2.1 63) d (T.2.1 59) 1), hRow T 59 w') := by
  intro d
  induction d with
  | zero =>
    intro i T hi hL hs hr hp
    have : i = N := by omega
    subst this
    refine ⟨T.2.1 59, ?_⟩
    rw [hRow_self]
    iterate 3 refine r_step rfl rfl ?_
    refine r_i_ge (fun _ => ?_) (fun q => absurd (nI_le (Nat.le_refl _) (by omega)) q)
    refine r_step rfl rfl ?_
    refine r_getr rfl (rv_57_1 hL) ?_
    refine r_step rfl rfl ?_
    refine r_iald rfl 1 rfl ⟨⟨by decide, by decide⟩, by decide⟩ ?_
    exact r_reti rfl rfl rfl
  | succ d ih =>
    intro i T hi hL hs hr hp
    have k := step_inv hs hr hp
    have ge := (goes_eq hs hr).1
    have lo : eq16 (mGoes (T.2.1 63) (T.2.1 59)) (wStep (T.2.1 63) (T.2.1 59)) := fun j hj => by rw [ge, pk_un (by omega)]
    generalize hu : mGoes (T.2.1 63) (T.2.1 59) = u at lo
    have e1 : (hRow T 59 u).2.1 63 = T.2.1 63 := hRow_ne _ _ (by decide)
    obtain ⟨w', ihk⟩ := ih (i + 1) (hRow T 59 u) (by omega) (hL.row _ _) (by rw [e1]; exact hs) (by rw [e1, hRow_at]; exact k.1.congr rfl lo) (by rw [hRow_at]; exact k.2.1.congr (lo 0 (by decide)) (lo 1 (by decide)) (lo 2 (by decide)))
    rw [e1, hRow_at, hRow_row, itS_c (fun _ _ => rfl) d u _ lo 1 (by decide)] at ihk
    refine ⟨w', ?_⟩
    iterate 3 refine r_step rfl rfl ?_
    refine r_i_ge (fun q => absurd q (nI_ge (by omega) (by omega))) (fun _ => ?_)
    iterate 2 refine r_step rfl rfl ?_
    refine r_getr rfl (rv_57_1 hL) ?_
    refine r_callv rfl rfl (e_goesOn 59 T (rv_57_6 hL) (by decide) hr.1) ?_
    rw [hu]
    iterate 2 refine r_step rfl rfl ?_
    show Rn hc_X10_speedBy 22 [some (.inr (some (10, 57))), some (.inl ic), some (.inl (nI N)), some (.inl wd), some (.inl (nI i + 1))] [] _ _
    rw [nI_s1]
    exact ihk
theorem e_speedBy (N : Nat) (hN : N ≤ 20) (wd ic : Int32) (h4 : bt wd 0 40) (h8 : bt ic 0 5) (S : hS) (hL : hLay S) (hs : okSet (S.2.1 63)) (hr : wRng (S.2.1 63) (S.2.1 58)) (hp : wPot (S.2.1 58)) : ∃ w', Ev 151 [.inr (some (10, 57)), .inl ic, .inl (nI N), .inl wd] S (some (sAf (S.2.1 63) (S.2.1 58) N wd ic), hRow S 59 w') := by
  have lo : eq16 (cp (S.2.1 59) (S.2.1 58) 0 0 0 59) (S.2.1 58) := fun j hj => cp0 _ _ (by omega)
  generalize hu : cp (S.2.1 59) (S.2.1 58) 0 0 0 59 = u at lo
  have e1 : (hRow S 59 (upd (upd u 8 ic) 4 wd)).2.1 63 = S.2.1 63 := hRow_ne _ _ (by decide)
  have hr2 : wRng (S.2.1 63) u := hr.congr rfl lo
  have hp2 : wPot u := hp.congr (lo 0 (by decide)) (lo 1 (by decide)) (lo 2 (by decide))
  obtain ⟨w', k⟩ := sb_l N hN wd ic N 0 (hRow S 59 (upd (upd u 8 ic) 4 wd)) (by omega) (hL.row _ _) (by rw [e1]; exact hs) (by rw [e1, hRow_at]; exact (hr2.up8 h8).up4 h4) (by rw [hRow_at]; exact (hp2.slot 8 (by decide) ic).slot 4 (by decide) wd)
  rw [e1, hRow_at, hRow_row] at k
  have q : eq16 (upd (upd u 8 ic) 4 wd) (upd (upd (S.2.1 58) 4 wd) 8 ic) := fun j hj => by
    by_cases c4 : j = 4
    · rw [c4, pk_us, pk_un (by decide), pk_us]
    · by_cases c8 : j = 8
      · rw [c8, pk_us, pk_un (by decide), pk_us]
      · rw [pk_un c4, pk_un c8, pk_un c8, pk_un c4]
        exact lo j hj
  have e : itS (S.2.1 63) N (upd (upd u 8 ic) 4 wd) 1 = sAf (S.2.1 63) (S.2.1 58) N wd ic := itS_c (fun _ _ => rfl) N _ _ q 1 (by decide)
  rw [e] at k
  refine ⟨w', ?_⟩
  show Rn hc_X10_speedBy 0 [some (.inr (some (10, 57))), some (.inl ic), some (.inl (nI N)), some (.inl wd), none] [] S _
  refine r_step rfl rfl ?_
  refine r_callv rfl rfl (e_tries S hL) ?_
  rw [hu]
  refine r_step rfl rfl ?_
  refine r_getr rfl (rv_57_1 (hL.row _ _)) ?_
  iterate 2 refine r_step rfl rfl ?_
  refine r_iast0 rfl 8 rfl ⟨⟨by decide, by decide⟩, by decide⟩ ?_
  rw [hPut_row]
  refine r_step rfl rfl ?_
  refine r_getr rfl (rv_57_1 (hL.row _ _)) ?_
  iterate 2 refine r_step rfl rfl ?_
  refine r_iast0 rfl 4 rfl ⟨⟨by decide, by decide⟩, by decide⟩ ?_
  rw [hPut_row]
  iterate 2 refine r_step rfl rfl ?_
  exact k
