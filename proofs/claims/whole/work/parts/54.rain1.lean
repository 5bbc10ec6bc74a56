/-! Differences and their halves. -/
def nab (x y : Int32) : Nat := (x.toInt - y.toInt).natAbs
theorem nab_abs {x y : Int32} (hx : bt x 0 999) (hy : bt y 0 999) : jabs (x - y) = nI (nab x y) := by
  obtain ⟨x1, x2⟩ := hx
  obtain ⟨y1, y2⟩ := hy
  have e : (x - y).toInt = x.toInt - y.toInt := i_sub (by omega) (by omega)
  have g : nab x y < 2147483648 := by unfold nab; omega
  unfold jabs
  by_cases c : (0 : Int32) ≤ x - y
  · rw [if_pos c]
    rw [i_le, i_z] at c
    rw [i_eq, ti g, e]
    unfold nab
    omega
  · rw [if_neg c]
    rw [i_le, i_z] at c
    rw [i_eq, ti g, i_neg (by omega), e]
    unfold nab
    omega
theorem nab_away {x y : Int32} (hx : bt x 0 999) (hy : bt y 0 999) : mAway x y = nI (nab x y) := by
  obtain ⟨x1, x2⟩ := hx
  obtain ⟨y1, y2⟩ := hy
  have g : nab x y < 2147483648 := by unfold nab; omega
  unfold mAway
  by_cases c : x ≤ y
  · rw [if_pos c]
    rw [i_le] at c
    rw [i_eq, ti g, i_sub (by omega) (by omega)]
    unfold nab
    omega
  · rw [if_neg c]
    rw [i_le] at c
    rw [i_eq, ti g, i_sub (by omega) (by omega)]
    unfold nab
    omega
theorem nab_lt {x y : Int32} (hx : bt x 0 999) (hy : bt y 0 999) : nab x y < 1000 := by
  obtain ⟨x1, x2⟩ := hx
  obtain ⟨y1, y2⟩ := hy
  unfold nab
  omega
theorem nab_sy (x y : Int32) : nab x y = nab y x := by
  unfold nab
  omega
def cnt : List (Nat × Nat) → Nat → Nat
  | [], _ => 0
  | m :: g, n => (if m.1 = n then m.2 else 0) + cnt g n
def kd : List (Nat × Nat) → Nat
  | [] => 0
  | m :: g => (if cnt g m.1 = 0 then 1 else 0) + kd g
def tw : List (Nat × Nat) → Nat
  | [] => 0
  | m :: g => m.2 + tw g
theorem cnt_s (n w : Nat) (g : List (Nat × Nat)) (j : Nat) : cnt ((n, w) :: g) j = (if n = j then w else 0) + cnt g j := rfl
theorem kd_s (n w : Nat) (g : List (Nat × Nat)) : kd ((n, w) :: g) = (if cnt g n = 0 then 1 else 0) + kd g := rfl
theorem kd_le : ∀ g, kd g ≤ g.length
  | [] => Nat.le_refl _
  | m :: g => by
    have k := kd_le g
    show (if cnt g m.1 = 0 then 1 else 0) + kd g ≤ g.length + 1
    by_cases c : cnt g m.1 = 0
    · rw [if_pos c]; omega
    · rw [if_neg c]; omega
theorem cnt_tw : ∀ g n, cnt g n ≤ tw g
  | [], _ => Nat.le_refl _
  | m :: g, n => by
    have k := cnt_tw g n
    show (if m.1 = n then m.2 else 0) + cnt g n ≤ m.2 + tw g
    by_cases c : m.1 = n
    · rw [if_pos c]; omega
    · rw [if_neg c]; omega
def sumN (f : Nat → Nat) : Nat → Nat
  | 0 => 0
  | k + 1 => sumN f k + f k
theorem sumN_c {f g : Nat → Nat} : ∀ {k}, (∀ q, q < k → f q = g q) → sumN f k = sumN g k
  | 0, _ => rfl
  | k + 1, h => by show sumN f k + f k = sumN g k + g k; rw [sumN_c (fun q hq => h q (by omega)), h k (by omega)]
theorem sumN_one {f g : Nat → Nat} {p w : Nat} : ∀ {k}, p < k → (∀ q, q < k → q ≠ p → f q = g q) → f p = g p + w → sumN f k = sumN g k + w
  | 0, h, _, _ => absurd h (by omega)
  | k + 1, h, h1, h2 => by
    show sumN f k + f k = sumN g k + g k + w
    by_cases c : p = k
    · subst c
      rw [sumN_c (fun q hq => h1 q (by omega) (by omega)), h2]
      omega
    · rw [sumN_one (by omega) (fun q hq => h1 q (by omega)) h2, h1 k (by omega) (fun e => c e.symm)]
      omega
def hvC (S : hS) (g : List (Nat × Nat)) : Prop := ∃ d : Nat → Nat, S.2.1 51 6 = nI (kd g) ∧ (∀ p, p < kd g → d p < 1000 ∧ S.2.1 54 p = nI (d p) ∧ S.2.1 55 p = nI (cnt g (d p)) ∧ 0 < cnt g (d p)) ∧ (∀ p q, p < kd g → q < kd g → d p = d q → p = q) ∧ (∀ n, 0 < cnt g n → ∃ p, p < kd g ∧ d p = n) ∧ sumN (fun p => cnt g (d p)) (kd g) = tw g
theorem po_l (n : Nat) (hn : n < 1000) (d : Nat → Nat) (k : Nat) (hk : k ≤ 40) (S : hS) (hL : hLay S) (h6 : S.2.1 51 6 = nI k) (hd : ∀ p, p < k → d p < 1000 ∧ S.2.1 54 p = nI (d p)) : ∀ (c p : Nat), p + c = k → (∀ q, q < p → ¬ d q = n) → ∃ p', p' ≤ k ∧ (∀ q, q < p' → ¬ d q = n) ∧ (p' < k → d p' = n) ∧ Rn hc_X2_placeOf 2 [some (.inr (some (2, 51))), some (.inl (nI n)), some (.inl (nI p))] [] S (some (nI p'), S) := by
  intro c
  induction c with
  | zero =>
    intro p hp hq
    refine ⟨p, by omega, hq, fun w => absurd w (by omega), ?_⟩
    iterate 4 refine r_step rfl rfl ?_
    rw [h6]
    refine r_i_ge (fun _ => ?_) (fun q => absurd (nI_le (by omega) (by omega)) q)
    refine r_step rfl rfl ?_
    exact r_reti rfl rfl rfl
  | succ c ih =>
    intro p hp hq
    obtain ⟨d1, d2⟩ := hd p (by omega)
    have start : ∀ o, Rn hc_X2_placeOf 17 [some (.inr (some (2, 51))), some (.inl (nI n)), some (.inl (nI p))] [.inl (nI n), .inl (nI (d p))] S o → Rn hc_X2_placeOf 2 [some (.inr (some (2, 51))), some (.inl (nI n)), some (.inl (nI p))] [] S o := by
      intro o k
      iterate 4 refine r_step rfl rfl ?_
      rw [h6]
      refine r_i_ge (fun q => absurd q (nI_ge (by omega) (by omega))) (fun _ => ?_)
      refine r_step rfl rfl ?_
      refine r_getr rfl (rv_51_4 hL) ?_
      refine r_step rfl rfl ?_
      refine r_iald rfl p (ti (by omega)) ⟨⟨by decide, by decide⟩, by show p < 40; omega⟩ ?_
      rw [d2]
      refine r_step rfl rfl ?_
      exact k
    by_cases e : d p = n
    · refine ⟨p, by omega, hq, fun _ => e, start _ ?_⟩
      refine r_step rfl rfl ?_
      refine r_i_eq (fun _ => ?_) (fun q => absurd (congrArg nI e) q)
      refine r_step rfl rfl ?_
      exact r_reti rfl rfl rfl
    · obtain ⟨p', b1, b2, b3, b4⟩ := ih (p + 1) (by omega) (fun q hq2 => by
        by_cases f : q = p
        · rw [f]; exact e
        · exact hq q (by omega))
      refine ⟨p', b1, b2, b3, start _ ?_⟩
      refine r_step rfl rfl ?_
      refine r_i_eq (fun q => absurd ((nI_eq (by omega) (by omega)).1 q) e) (fun _ => ?_)
      iterate 2 refine r_step rfl rfl ?_
      show Rn hc_X2_placeOf 2 [some (.inr (some (2, 51))), some (.inl (nI n)), some (.inl (nI p + 1))] [] _ _
      rw [nI_s1]
      exact b4
theorem e_placeOf (n : Nat) (hn : n < 1000) (d : Nat → Nat) (k : Nat) (hk : k ≤ 40) (S : hS) (hL : hLay S) (h6 : S.2.1 51 6 = nI k) (hd : ∀ p, p < k → d p < 1000 ∧ S.2.1 54 p = nI (d p)) : ∃ p', p' ≤ k ∧ (∀ q, q < p' → ¬ d q = n) ∧ (p' < k → d p' = n) ∧ Ev 29 [.inr (some (2, 51)), .inl (nI n)] S (some (nI p'), S) := by
  obtain ⟨p', b1, b2, b3, b4⟩ := po_l n hn d k hk S hL h6 hd k 0 (by omega) (fun q hq => absurd hq (by omega))
  refine ⟨p', b1, b2, b3, ?_⟩
  show Rn hc_X2_placeOf 0 [some (.inr (some (2, 51))), some (.inl (nI n)), none] [] S _
  iterate 2 refine r_step rfl rfl ?_
  exact b4
set_option maxHeartbeats 4000000 in
set_option maxRecDepth 100000 in
theorem e_addHalves (n w : Nat) (hn : n < 1000) (hw : 0 < w) (S : hS) (g : List (Nat × Nat)) (hL : hLay S) (h : hvC S g) (hg : g.length < 40) : ∃ S', Ev 71 [.inr (some (2, 51)), .inl (nI n), .inl (nI w)] S (none, S') ∧ hFr S S' (fun p => p = 51 ∨ p = 54 ∨ p = 55) ∧ (∀ j, j ≠ 6 → S'.2.1 51 j = S.2.1 51 j) ∧ hvC S' ((n, w) :: g) := by
  obtain ⟨d, h6, hd, hi, hs, ht⟩ := h
  have kl := kd_le g
  obtain ⟨p, b1, b2, b3, b4⟩ := e_placeOf n hn d (kd g) (by omega) S hL h6 (fun p hp => ⟨(hd p hp).1, (hd p hp).2.1⟩)
  have start : ∀ o, Rn hc_X2_addHalves 18 [some (.inr (some (2, 51))), some (.inl (nI n)), some (.inl (nI w)), some (.inl (nI p))] [.inl (nI (kd g)), .inl (nI p)] S o → Ev 71 [.inr (some (2, 51)), .inl (nI n), .inl (nI w)] S o := by
    intro o k
    show Rn hc_X2_addHalves 0 [some (.inr (some (2, 51))), some (.inl (nI n)), some (.inl (nI w)), none] [] S _
    iterate 2 refine r_step rfl rfl ?_
    refine r_call rfl rfl b4 ?_
    iterate 4 refine r_step rfl rfl ?_
    refine r_i_lt (fun _ => ?_) (fun q => absurd (nI_lt (b := 40) (by omega) (by decide)) q)
    iterate 3 refine r_step rfl rfl ?_
    rw [h6]
    exact k
  have fin : ∀ T o, hLay T → Rn hc_X2_addHalves 55 [some (.inr (some (2, 51))), some (.inl (nI n)), some (.inl (nI w)), some (.inl (nI p))] [] (hPut T 55 p (T.2.1 55 p + nI w)) o → Rn hc_X2_addHalves 45 [some (.inr (some (2, 51))), some (.inl (nI n)), some (.inl (nI w)), some (.inl (nI p))] [] T o := by
    intro T o hT k
    refine r_step rfl rfl ?_
    refine r_getr rfl (rv_51_5 hT) ?_
    iterate 2 refine r_step rfl rfl ?_
    refine r_iald rfl p (ti (by omega)) ⟨⟨by decide, by decide⟩, by show p < 40; omega⟩ ?_
    iterate 2 refine r_step rfl rfl ?_
    refine r_iast0 rfl p (ti (by omega)) ⟨⟨by decide, by decide⟩, by show p < 40; omega⟩ ?_
    exact k
  by_cases c : p < kd g
  · have e := b3 c
    obtain ⟨d1, d2, d3, d4⟩ := hd p c
    have ek : kd ((n, w) :: g) = kd g := by rw [kd_s, if_neg (by rw [← e]; omega)]; omega
    have ec : ∀ q, q < kd g → q ≠ p → cnt ((n, w) :: g) (d q) = cnt g (d q) := fun q hq hqp => by
      rw [cnt_s, if_neg (fun x => hqp (hi q p hq c (by rw [e]; exact x.symm)))]; omega
    have ep : cnt ((n, w) :: g) (d p) = cnt g (d p) + w := by rw [cnt_s, if_pos e.symm]; omega
    refine ⟨hPut S 55 p (S.2.1 55 p + nI w), start _ ?_, hFr_put _ _ _ _ (Or.inr (Or.inr rfl)), fun j _ => by rw [hPut_ne (by decide)], d, ?_, ?_, ?_, ?_, ?_⟩
    · refine r_step rfl rfl ?_
      refine r_i_ne (fun _ => ?_) (fun q => absurd ((nI_eq (by omega) (by omega)).1 q) (by omega))
      refine fin S _ hL ?_
      exact r_retn rfl rfl
    · rw [hPut_ne (by decide), ek]; exact h6
    · intro q hq
      rw [ek] at hq
      obtain ⟨f1, f2, f3, f4⟩ := hd q hq
      rw [hPut_ne (by decide), hPut_at]
      by_cases f : q = p
      · subst f
        rw [pk_us, ep, d3, nI_add]
        exact ⟨f1, f2, rfl, by omega⟩
      · rw [pk_un f, ec q hq f]
        exact ⟨f1, f2, f3, f4⟩
    · intro q r hq hr2
      rw [ek] at hq hr2
      exact hi q r hq hr2
    · intro m hm
      rw [ek]
      by_cases f : n = m
      · exact ⟨p, c, e.trans f⟩
      · rw [cnt_s, if_neg f] at hm
        exact hs m (by omega)
    · rw [ek, sumN_one (p := p) (w := w) (g := fun q => cnt g (d q)) c ec ep, ht]
      show tw g + w = w + tw g
      omega
  · have e : p = kd g := by omega
    have c0 : cnt g n = 0 := by
      by_cases f : cnt g n = 0
      · exact f
      · obtain ⟨q, q1, q2⟩ := hs n (by omega)
        exact absurd q2 (b2 q (by omega))
    have ek : kd ((n, w) :: g) = kd g + 1 := by rw [kd_s, if_pos c0]; omega
    have ec : ∀ q, q < kd g → cnt ((n, w) :: g) (d q) = cnt g (d q) := fun q hq => by
      rw [cnt_s, if_neg (fun x => b2 q (by omega) x.symm)]; omega
    obtain ⟨d', dk, dn⟩ : ∃ d' : Nat → Nat, d' (kd g) = n ∧ ∀ q, q ≠ kd g → d' q = d q := ⟨fun q => if q = kd g then n else d q, if_pos rfl, fun q hq => if_neg hq⟩
    have eN : cnt ((n, w) :: g) n = w := by rw [cnt_s, if_pos rfl, c0]; rfl
    refine ⟨hPut (hPut (hPut (hPut S 54 p (nI n)) 55 p 0) 51 6 (nI (kd g + 1))) 55 p (nI w), start _ ?_, (((hFr_put _ _ _ _ (Or.inr (Or.inl rfl))).trans (hFr_put _ _ _ _ (Or.inr (Or.inr rfl)))).trans (hFr_put _ _ _ _ (Or.inl rfl))).trans (hFr_put _ _ _ _ (Or.inr (Or.inr rfl))), fun j hj => by rw [hPut_ne (by decide), hPut_at, pk_un hj, hPut_ne (by decide), hPut_ne (by decide)], d', ?_, ?_, ?_, ?_, ?_⟩
    · refine r_step rfl rfl ?_
      refine r_i_ne (fun q => absurd (congrArg nI e) q) (fun _ => ?_)
      refine r_step rfl rfl ?_
      refine r_getr rfl (rv_51_4 hL) ?_
      iterate 2 refine r_step rfl rfl ?_
      refine r_iast0 rfl p (ti (by omega)) ⟨⟨by decide, by decide⟩, by show p < 40; omega⟩ ?_
      refine r_step rfl rfl ?_
      refine r_getr rfl (rv_51_5 (hL.put _ _ _)) ?_
      iterate 2 refine r_step rfl rfl ?_
      refine r_iast0 rfl p (ti (by omega)) ⟨⟨by decide, by decide⟩, by show p < 40; omega⟩ ?_
      iterate 6 refine r_step rfl rfl ?_
      rw [hPut_ne (show 51 ≠ 55 by decide), hPut_ne (show 51 ≠ 54 by decide), h6, nI_s1]
      refine fin _ _ (((hL.put _ _ _).put _ _ _).put _ _ _) ?_
      rw [hPut_ne (show 55 ≠ 51 by decide), hPut_at, pk_us, Int32.zero_add]
      exact r_retn rfl rfl
    · rw [hPut_ne (by decide), hPut_at, pk_us, ek]
    · intro q hq
      rw [ek] at hq
      rw [hPut_ne (show 54 ≠ 55 by decide), hPut_ne (show 54 ≠ 51 by decide), hPut_ne (show 54 ≠ 55 by decide), hPut_at, hPut_at, hPut_ne (show 55 ≠ 51 by decide), hPut_at, hPut_ne (show 55 ≠ 54 by decide)]
      by_cases f : q = kd g
      · have f2 : q = p := by omega
        rw [f2, pk_us, pk_us, e, dk, eN]
        exact ⟨hn, rfl, rfl, hw⟩
      · obtain ⟨f1, f2, f3, f4⟩ := hd q (by omega)
        rw [dn q f, pk_un (by omega), pk_un (by omega), pk_un (by omega), ec q (by omega)]
        exact ⟨f1, f2, f3, f4⟩
    · intro q r hq hr2
      rw [ek] at hq hr2
      by_cases f : q = kd g
      · by_cases f2 : r = kd g
        · exact fun _ => f.trans f2.symm
        · rw [f, dk, dn r f2]
          exact fun x => absurd x.symm (b2 r (by omega))
      · by_cases f2 : r = kd g
        · rw [dn q f, f2, dk]
          exact fun x => absurd x (b2 q (by omega))
        · rw [dn q f, dn r f2]
          exact hi q r (by omega) (by omega)
    · intro m hm
      rw [ek]
      by_cases f : n = m
      · exact ⟨kd g, by omega, dk.trans f⟩
      · rw [cnt_s, if_neg f] at hm
        obtain ⟨q, q1, q2⟩ := hs m (by omega)
        exact ⟨q, by omega, (dn q (by omega)).trans q2⟩
    · rw [ek]
      show sumN _ (kd g) + cnt ((n, w) :: g) (d' (kd g)) = w + tw g
      rw [dk, eN, sumN_c (g := fun q => cnt g (d q)) (fun q hq => by
        show cnt ((n, w) :: g) (d' q) = cnt g (d q)
        rw [dn q (by omega)]
        exact ec q hq), ht]
      omega
