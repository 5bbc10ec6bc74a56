/-! gust. -/
/-- the largest below m that bears -/
def best (B : Nat → Int32) : Nat → Int32
  | 0 => -9
  | m + 1 => if B m = 0 then best B m else nI m
theorem best_s (B : Nat → Int32) (m : Nat) : best B (m + 1) = if B m = 0 then best B m else nI m := rfl
theorem best_0 (B : Nat → Int32) (h : ∀ k, B k = 0) : ∀ m, best B m = -9
  | 0 => rfl
  | m + 1 => by rw [best_s, if_pos (h m), best_0 B h m]
theorem best_c {B D : Nat → Int32} {N : Nat} (h : ∀ k, k < N → B k = D k) : ∀ m, m ≤ N → best B m = best D m
  | 0, _ => rfl
  | m + 1, hm => by rw [best_s, best_s, h m hm, best_c h m (by omega)]
theorem bt_n {k : Nat} {hi : Int} (h : (k : Int) ≤ hi) (hk : k < 2147483648) : bt (nI k) 0 hi := by
  unfold bt
  rw [ti hk]
  omega
theorem e_bearsGust (n v : Int32) (S : hS) (hL : hLay S) (hv : bt v 0 40) (hs : okSet (S.2.1 1)) (hr : wRng (S.2.1 1) (S.2.1 7)) (hp : wPot (S.2.1 7)) : ∃ w', Ev 126 [.inr (some (9, 0)), .inl v, .inl n] S (some (gB (S.2.1 1) n v (S.2.1 7 4) 60 0 (S.2.1 7)), hRow S 56 w') := by
  have lo : eq16 (wCopy (S.2.1 56) (S.2.1 7)) (S.2.1 7) := fun j hj => wCopy_at j hj
  generalize hu : wCopy (S.2.1 56) (S.2.1 7) = u at lo
  have e1 : (hRow S 56 u).2.1 1 = S.2.1 1 := hRow_ne _ _ (by decide)
  have e7 : (hRow S 56 u).2.1 7 = S.2.1 7 := hRow_ne _ _ (by decide)
  obtain ⟨w', k⟩ := gust_c n v (S.2.1 7 4) hv hr.2.2.2.2.1 60 0 (hRow S 56 u) (by omega) (hL.row _ _) (by rw [e7]) (by rw [e1]; exact hs) (by rw [e1, hRow_at]; exact hr.congr rfl lo) (by rw [hRow_at]; exact hp.congr (lo 0 (by decide)) (lo 1 (by decide)) (lo 2 (by decide)))
  rw [e1, hRow_at, hRow_row, gB_c (fun _ _ => rfl) n v (S.2.1 7 4) 60 0 u _ lo] at k
  refine ⟨w', ?_⟩
  show Rn hc_X9_bearsGust 0 [some (.inr (some (9, 0))), some (.inl v), some (.inl n), none] [] S _
  refine r_step rfl rfl ?_
  refine r_getr rfl (rv_0_9 hL) ?_
  refine r_step rfl rfl ?_
  refine r_getr rfl (rv_0_3 hL) ?_
  refine r_getr rfl (rv_6_0 hL) ?_
  refine r_callv rfl rfl (e_wcopy 56 7 S (by decide) hr.2.2.2.2.2.2.2.2.2.1 hr.2.2.2.2.2.2.2.2.2.2.1 hr.2.2.2.2.2.2.2.2.2.2.2) ?_
  rw [hu]
  iterate 2 refine r_step rfl rfl ?_
  exact k
def gM (st : Nat → Int32) (n v : Int32) (w : Nat → Int32) : Int32 := if w 0 = 5 then 0 else gB st n v (w 4) 60 0 w
theorem e_bears (n v : Int32) (S : hS) (hL : hLay S) (hv : bt v 0 40) (hs : okSet (S.2.1 63)) (hr : wRng (S.2.1 63) (S.2.1 58)) (hp : wPot (S.2.1 58)) : ∃ w', Ev 149 [.inr (some (10, 57)), .inl n, .inl v] S (some (gM (S.2.1 63) n v (S.2.1 58)), hRow S 59 w') := by
  have lo : eq16 (cp (S.2.1 59) (S.2.1 58) 0 0 0 59) (S.2.1 58) := fun j hj => cp0 _ _ (by omega)
  generalize hu : cp (S.2.1 59) (S.2.1 58) 0 0 0 59 = u at lo
  have start : ∀ o, Rn hc_X10_bears 11 [some (.inr (some (10, 57))), some (.inl n), some (.inl v), none, none] [.inl 5, .inl (u 0)] (hRow S 59 u) o → Ev 149 [.inr (some (10, 57)), .inl n, .inl v] S o := by
    intro o q
    show Rn hc_X10_bears 0 [some (.inr (some (10, 57))), some (.inl n), some (.inl v), none, none] [] S _
    refine r_step rfl rfl ?_
    refine r_callv rfl rfl (e_tries S hL) ?_
    rw [hu]
    refine r_step rfl rfl ?_
    refine r_getr rfl (rv_57_1 (hL.row _ _)) ?_
    refine r_step rfl rfl ?_
    refine r_iald rfl 0 rfl ⟨⟨by decide, by decide⟩, by decide⟩ ?_
    refine r_step rfl rfl ?_
    rw [hRow_at]
    exact q
  by_cases c : S.2.1 58 0 = 5
  · refine ⟨u, ?_⟩
    rw [show gM (S.2.1 63) n v (S.2.1 58) = 0 from if_pos c]
    refine start _ ?_
    refine r_step rfl rfl ?_
    refine r_i_eq (fun _ => ?_) (fun q => absurd ((lo 0 (by decide)).trans c) q)
    iterate 4 refine r_step rfl rfl ?_
    exact bears_x n v _ _
  · have e1 : (hRow S 59 u).2.1 63 = S.2.1 63 := hRow_ne _ _ (by decide)
    have e7 : (hRow S 59 u).2.1 58 = S.2.1 58 := hRow_ne _ _ (by decide)
    obtain ⟨w', k⟩ := gust_m n v (S.2.1 58 4) hv hr.2.2.2.2.1 60 0 (hRow S 59 u) (by omega) (hL.row _ _) (by rw [e7]) (by rw [e1]; exact hs) (by rw [e1, hRow_at]; exact hr.congr rfl lo) (by rw [hRow_at]; exact hp.congr (lo 0 (by decide)) (lo 1 (by decide)) (lo 2 (by decide)))
    rw [e1, hRow_at, hRow_row, gB_c (fun _ _ => rfl) n v (S.2.1 58 4) 60 0 u _ lo] at k
    refine ⟨w', ?_⟩
    rw [show gM (S.2.1 63) n v (S.2.1 58) = gB (S.2.1 63) n v (S.2.1 58 4) 60 0 (S.2.1 58) from if_neg c]
    refine start _ ?_
    refine r_step rfl rfl ?_
    refine r_i_eq (fun q => absurd ((lo 0 (by decide)).symm.trans q) c) (fun _ => ?_)
    iterate 5 refine r_step rfl rfl ?_
    exact k
theorem gl_c (x : Int32) (st w : Nat → Int32) (hs : okSet st) (hr : wRng st w) (hp : wPot w) : ∀ (m : Nat) (T : hS), m ≤ 41 → hLay T → T.2.1 1 = st → T.2.1 7 = w → ∃ w', Rn hc_X9_gust 32 [some (.inr (some (9, 0))), some (.inl x), some (.inl (nI m + -1))] [] T (some (best (fun k => gB st x (nI k) (w 4) 60 0 w) m), hRow T 56 w') := by
  intro m
  induction m with
  | zero =>
    intro T hm hL e1 e7
    refine ⟨T.2.1 56, ?_⟩
    rw [hRow_self]
    iterate 2 refine r_step rfl rfl ?_
    refine r_i_lt (fun _ => ?_) (fun q => absurd (show nI 0 + -1 < 0 by decide) q)
    refine r_step rfl rfl ?_
    exact r_reti rfl rfl rfl
  | succ m ih =>
    intro T hm hL e1 e7
    obtain ⟨u, k⟩ := e_bearsGust x (nI m) T hL (bt_n (by omega) (by omega)) (by rw [e1]; exact hs) (by rw [e1, e7]; exact hr) (by rw [e7]; exact hp)
    rw [e1, e7] at k
    obtain ⟨w', ihk⟩ := ih (hRow T 56 u) (by omega) (hL.row _ _) (by rw [hRow_ne _ _ (by decide)]; exact e1) (by rw [hRow_ne _ _ (by decide)]; exact e7)
    rw [hRow_row] at ihk
    rw [best_s, nI_m1]
    by_cases c : gB st x (nI m) (w 4) 60 0 w = 0
    · refine ⟨w', ?_⟩
      rw [if_pos c]
      iterate 2 refine r_step rfl rfl ?_
      refine r_i_lt (fun q => absurd q (nI_pos (by omega))) (fun _ => ?_)
      iterate 3 refine r_step rfl rfl ?_
      refine r_call rfl rfl k ?_
      refine r_step rfl rfl ?_
      refine r_i_eq (fun _ => ?_) (fun q => absurd c q)
      iterate 2 refine r_step rfl rfl ?_
      exact ihk
    · refine ⟨u, ?_⟩
      rw [if_neg c]
      iterate 2 refine r_step rfl rfl ?_
      refine r_i_lt (fun q => absurd q (nI_pos (by omega))) (fun _ => ?_)
      iterate 3 refine r_step rfl rfl ?_
      refine r_call rfl rfl k ?_
      refine r_step rfl rfl ?_
      refine r_i_eq (fun q => absurd q c) (fun _ => ?_)
      refine r_step rfl rfl ?_
      exact r_reti rfl rfl rfl
theorem gl_m (x : Int32) (st w : Nat → Int32) (hs : okSet st) (hr : wRng st w) (hp : wPot w) : ∀ (d m : Nat) (T : hS), m + d = 41 → hLay T → T.2.1 63 = st → T.2.1 58 = w → ∃ w', Rn hc_X10_gust 17 [some (.inr (some (10, 57))), some (.inl x), some (.inl (best (fun k => gM st x (nI k) w) m)), some (.inl (nI m))] [] T (some (best (fun k => gM st x (nI k) w) 41), hRow T 59 w') := by
  intro d
  induction d with
  | zero =>
    intro m T hm hL e1 e7
    have : m = 41 := by omega
    subst this
    refine ⟨T.2.1 59, ?_⟩
    rw [hRow_self]
    iterate 3 refine r_step rfl rfl ?_
    refine r_i_gt (fun _ => ?_) (fun q => absurd (show (40 : Int32) < nI 41 by decide) q)
    refine r_step rfl rfl ?_
    exact r_reti rfl rfl rfl
  | succ d ih =>
    intro m T hm hL e1 e7
    obtain ⟨u, k⟩ := e_bears x (nI m) T hL (bt_n (by omega) (by omega)) (by rw [e1]; exact hs) (by rw [e1, e7]; exact hr) (by rw [e7]; exact hp)
    rw [e1, e7] at k
    obtain ⟨w', ihk⟩ := ih (m + 1) (hRow T 59 u) (by omega) (hL.row _ _) (by rw [hRow_ne _ _ (by decide)]; exact e1) (by rw [hRow_ne _ _ (by decide)]; exact e7)
    rw [hRow_row, best_s] at ihk
    refine ⟨w', ?_⟩
    iterate 3 refine r_step rfl rfl ?_
    refine r_i_gt (fun q => absurd q (fun q => absurd (nI_le (a := m) (b := 40) (by omega) (by decide)) (by rw [i_le]; rw [i_lt] at q; have l40 : (nI 40).toInt = 40 := rfl; have l41 : (40 : Int32).toInt = 40 := rfl; omega))) (fun _ => ?_)
    iterate 3 refine r_step rfl rfl ?_
    refine r_call rfl rfl k ?_
    refine r_step rfl rfl ?_
    by_cases c : gM st x (nI m) w = 0
    · rw [if_pos c] at ihk
      refine r_i_eq (fun _ => ?_) (fun q => absurd c q)
      iterate 4 refine r_step rfl rfl ?_
      show Rn hc_X10_gust 17 [some (.inr (some (10, 57))), some (.inl x), some (.inl (best (fun k => gM st x (nI k) w) m)), some (.inl (nI m + 1))] [] _ _
      rw [nI_s1]
      exact ihk
    · rw [if_neg c] at ihk
      refine r_i_eq (fun q => absurd q c) (fun _ => ?_)
      iterate 5 refine r_step rfl rfl ?_
      show Rn hc_X10_gust 17 [some (.inr (some (10, 57))), some (.inl x), some (.inl (nI m)), some (.inl (nI m + 1))] [] _ _
      rw [nI_s1]
      exact ihk
theorem a_gust {S : hS} (h : Rel S) (x : Int32) : Alk 139 157 [.inl x] S := by
  have hL := h.1
  have hm := h.2.2.2.1
  rcases mIn_iff (v := x) (lo := 1) (hi := 20) with ⟨kx, -⟩ | ⟨kx, x1, x2⟩
  · refine ⟨-1, S, S, ?_, ?_, h⟩
    · show Rn hc_X9_gust 0 [some (.inr (some (9, 0))), some (.inl x), none] [] S _
      iterate 3 refine r_step rfl rfl ?_
      refine r_call rfl rfl (e_within _ _ _ _) ?_
      rw [kx]
      iterate 2 refine r_step rfl rfl ?_
      exact r_reti rfl rfl rfl
    · show Rn hc_X10_gust 0 [some (.inr (some (10, 57))), some (.inl x), none, none] [] S _
      iterate 3 refine r_step rfl rfl ?_
      refine r_call rfl rfl (e_in _ _ _ _) ?_
      rw [kx]
      iterate 2 refine r_step rfl rfl ?_
      exact r_reti rfl rfl rfl
  have startC : ∀ o, Rn hc_X9_gust 23 [some (.inr (some (9, 0))), some (.inl x), none] [.inl 5, .inl (S.2.1 7 0)] S o → Ev 139 [.inr (some (9, 0)), .inl x] S o := by
    intro o q
    show Rn hc_X9_gust 0 [some (.inr (some (9, 0))), some (.inl x), none] [] S _
    iterate 3 refine r_step rfl rfl ?_
    refine r_call rfl rfl (e_within _ _ _ _) ?_
    rw [kx]
    iterate 2 refine r_step rfl rfl ?_
    refine r_getr rfl (rv_0_3 hL) ?_
    refine r_getr rfl (rv_6_0 hL) ?_
    iterate 2 refine r_step rfl rfl ?_
    exact q
  have e16 : eq16 (S.2.1 7) (S.2.1 58) := hm.1.1
  have hsC : okSet (S.2.1 1) := h.2.1.1.congr h.2.1.2
  have hrC : wRng (S.2.1 1) (S.2.1 7) := hm.2.1.congr (h.2.1.2 4 (by decide)) e16
  have hpC : wPot (S.2.1 7) := hm.2.2.1.congr (e16 0 (by decide)) (e16 1 (by decide)) (e16 2 (by decide))
  have endM : ∀ T, hLay T → T.2.1 63 = S.2.1 63 → T.2.1 58 = S.2.1 58 → ∃ w', Ev 157 [.inr (some (10, 57)), .inl x] T (some (best (fun k => gM (S.2.1 63) x (nI k) (S.2.1 58)) 41), hRow T 59 w') := by
    intro T hT t1 t2
    obtain ⟨w', k⟩ := gl_m x (S.2.1 63) (S.2.1 58) h.2.1.1 hm.2.1 hm.2.2.1 41 0 T (by omega) hT t1 t2
    refine ⟨w', ?_⟩
    show Rn hc_X10_gust 0 [some (.inr (some (10, 57))), some (.inl x), none, none] [] T _
    iterate 3 refine r_step rfl rfl ?_
    refine r_call rfl rfl (e_in _ _ _ _) ?_
    rw [kx]
    iterate 5 refine r_step rfl rfl ?_
    exact k
  by_cases c : S.2.1 58 0 = 5
  · obtain ⟨w', k⟩ := endM S hL rfl rfl
    rw [best_0 (fun k => gM (S.2.1 63) x (nI k) (S.2.1 58)) (fun k => if_pos c) 41] at k
    refine ⟨-9, S, hRow S 59 w', startC _ ?_, k, ?_⟩
    · refine r_step rfl rfl ?_
      refine r_i_ne (fun q => absurd ((e16 0 (by decide)).trans c) q) (fun _ => ?_)
      refine r_step rfl rfl ?_
      exact r_reti rfl rfl rfl
    · refine rel_scr h (hFr_row _ _ _ (by unfold pScr; omega)) ?_ ?_ ?_ <;> rw [hRow_ne _ _ (by decide)]
  · obtain ⟨u, k1⟩ := gl_c x (S.2.1 1) (S.2.1 7) hsC hrC hpC 41 S (by omega) hL rfl rfl
    obtain ⟨w', k2⟩ := endM (hRow S 56 u) (hL.row _ _) (hRow_ne _ _ (by decide)) (hRow_ne _ _ (by decide))
    have e : best (fun k => gB (S.2.1 1) x (nI k) (S.2.1 7 4) 60 0 (S.2.1 7)) 41 = best (fun k => gM (S.2.1 63) x (nI k) (S.2.1 58)) 41 := by
      refine best_c (N := 41) (fun k hk => ?_) 41 (by omega)
      show gB (S.2.1 1) x (nI k) (S.2.1 7 4) 60 0 (S.2.1 7) = gM (S.2.1 63) x (nI k) (S.2.1 58)
      rw [show gM (S.2.1 63) x (nI k) (S.2.1 58) = _ from if_neg c, e16 4 (by decide)]
      exact gB_c h.2.1.2 _ _ _ _ _ _ _ e16
    refine ⟨best (fun k => gM (S.2.1 63) x (nI k) (S.2.1 58)) 41, hRow S 56 u, hRow (hRow S 56 u) 59 w', startC _ ?_, k2, ?_⟩
    · refine r_step rfl rfl ?_
      refine r_i_ne (fun _ => ?_) (fun q => absurd ((e16 0 (by decide)).symm.trans q) c)
      iterate 2 refine r_step rfl rfl ?_
      rw [← e]
      exact k1
    · refine rel_scr h ((hFr_row _ _ _ (by unfold pScr; omega)).trans (hFr_row _ _ _ (by unfold pScr; omega))) ?_ ?_ ?_ <;> rw [hRow_ne _ _ (by decide), hRow_ne _ _ (by decide)]
