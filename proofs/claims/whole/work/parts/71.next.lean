/-! The model's next token. -/
def sOf (x : Int32) : Int32 := if x = 114 then 0 else if x = 116 then 1 else if x = 105 then 2 else if x = 111 then 3 else if x = 108 then 4 else if x = 115 then 5 else -1
def wOf (x : Int32) : Int32 := if sOf x = -1 then -9 else sOf x
theorem sOf_out {x : Int32} (h : x.toInt < 105 ∨ 116 < x.toInt) : sOf x = -1 := by
  have g : ∀ y : Int32, 105 ≤ y.toInt ∧ y.toInt ≤ 116 → ¬ x = y := fun y hy e => by rw [e] at h; omega
  unfold sOf
  rw [if_neg (g 114 (by decide)), if_neg (g 116 (by decide)), if_neg (g 105 (by decide)), if_neg (g 111 (by decide)), if_neg (g 108 (by decide)), if_neg (g 115 (by decide))]
theorem e_settingOf (x : Int32) (S : hS) : Ev 31 [.inl x] S (some (sOf x), S) := by
  show Rn hc_X3_settingOf 0 [some (.inl x)] [] S _
  refine r_step rfl rfl ?_
  by_cases c : x.toInt < 105 ∨ 116 < x.toInt
  · rw [sOf_out c]
    refine r_tsw 76 rfl (hTs_out c) ?_
    refine r_step rfl rfl ?_
    exact r_reti rfl rfl rfl
  · have r : 105 ≤ x.toInt ∧ x.toInt ≤ 116 := by omega
    obtain ⟨k, hk, rfl⟩ := bt_nI (hi := 116) (x := x) ⟨by omega, r.2⟩ (by decide)
    have tk : (nI k).toInt = (k : Int) := ti (by omega)
    have hk2 : 105 ≤ k := by omega
    match k, hk, hk2 with
    | 105, _, _ => refine r_tsw 68 rfl (by decide) ?_; refine r_step rfl rfl ?_; exact r_reti rfl rfl rfl
    | 106, _, _ => refine r_tsw 76 rfl (by decide) ?_; refine r_step rfl rfl ?_; exact r_reti rfl rfl rfl
    | 107, _, _ => refine r_tsw 76 rfl (by decide) ?_; refine r_step rfl rfl ?_; exact r_reti rfl rfl rfl
    | 108, _, _ => refine r_tsw 72 rfl (by decide) ?_; refine r_step rfl rfl ?_; exact r_reti rfl rfl rfl
    | 109, _, _ => refine r_tsw 76 rfl (by decide) ?_; refine r_step rfl rfl ?_; exact r_reti rfl rfl rfl
    | 110, _, _ => refine r_tsw 76 rfl (by decide) ?_; refine r_step rfl rfl ?_; exact r_reti rfl rfl rfl
    | 111, _, _ => refine r_tsw 70 rfl (by decide) ?_; refine r_step rfl rfl ?_; exact r_reti rfl rfl rfl
    | 112, _, _ => refine r_tsw 76 rfl (by decide) ?_; refine r_step rfl rfl ?_; exact r_reti rfl rfl rfl
    | 113, _, _ => refine r_tsw 76 rfl (by decide) ?_; refine r_step rfl rfl ?_; exact r_reti rfl rfl rfl
    | 114, _, _ => refine r_tsw 64 rfl (by decide) ?_; refine r_step rfl rfl ?_; exact r_reti rfl rfl rfl
    | 115, _, _ => refine r_tsw 74 rfl (by decide) ?_; refine r_step rfl rfl ?_; exact r_reti rfl rfl rfl
    | 116, _, _ => refine r_tsw 66 rfl (by decide) ?_; refine r_step rfl rfl ?_; exact r_reti rfl rfl rfl
    | n + 117, h, _ => exact absurd h (by omega)
theorem e_whichOf (x : Int32) (S : hS) : Ev 25 [.inl x] S (some (wOf x), S) := by
  show Rn hc_X10_whichOf 0 [some (.inl x)] [] S _
  refine r_step rfl rfl ?_
  by_cases c : x.toInt < 105 ∨ 116 < x.toInt
  · rw [show wOf x = -9 from if_pos (sOf_out c)]
    refine r_tsw 76 rfl (hTs_out c) ?_
    refine r_step rfl rfl ?_
    exact r_reti rfl rfl rfl
  · have r : 105 ≤ x.toInt ∧ x.toInt ≤ 116 := by omega
    obtain ⟨k, hk, rfl⟩ := bt_nI (hi := 116) (x := x) ⟨by omega, r.2⟩ (by decide)
    have tk : (nI k).toInt = (k : Int) := ti (by omega)
    have hk2 : 105 ≤ k := by omega
    match k, hk, hk2 with
    | 105, _, _ => refine r_tsw 68 rfl (by decide) ?_; refine r_step rfl rfl ?_; exact r_reti rfl rfl rfl
    | 106, _, _ => refine r_tsw 76 rfl (by decide) ?_; refine r_step rfl rfl ?_; exact r_reti rfl rfl rfl
    | 107, _, _ => refine r_tsw 76 rfl (by decide) ?_; refine r_step rfl rfl ?_; exact r_reti rfl rfl rfl
    | 108, _, _ => refine r_tsw 72 rfl (by decide) ?_; refine r_step rfl rfl ?_; exact r_reti rfl rfl rfl
    | 109, _, _ => refine r_tsw 76 rfl (by decide) ?_; refine r_step rfl rfl ?_; exact r_reti rfl rfl rfl
    | 110, _, _ => refine r_tsw 76 rfl (by decide) ?_; refine r_step rfl rfl ?_; exact r_reti rfl rfl rfl
    | 111, _, _ => refine r_tsw 70 rfl (by decide) ?_; refine r_step rfl rfl ?_; exact r_reti rfl rfl rfl
    | 112, _, _ => refine r_tsw 76 rfl (by decide) ?_; refine r_step rfl rfl ?_; exact r_reti rfl rfl rfl
    | 113, _, _ => refine r_tsw 76 rfl (by decide) ?_; refine r_step rfl rfl ?_; exact r_reti rfl rfl rfl
    | 114, _, _ => refine r_tsw 64 rfl (by decide) ?_; refine r_step rfl rfl ?_; exact r_reti rfl rfl rfl
    | 115, _, _ => refine r_tsw 74 rfl (by decide) ?_; refine r_step rfl rfl ?_; exact r_reti rfl rfl rfl
    | 116, _, _ => refine r_tsw 66 rfl (by decide) ?_; refine r_step rfl rfl ?_; exact r_reti rfl rfl rfl
    | n + 117, h, _ => exact absurd h (by omega)
/-- the model's text -/
def mT (b : Nat → Int32) (n : Nat) (U : hS) : Prop := hLay U ∧ n ≤ 80 ∧ U.2.1 57 8 = nI n ∧ U.2.1 64 = b
def mFr (U U' : hS) : Prop := hFr U U' (fun p => p = 57) ∧ ∀ j, (j ≤ 8 ∨ 13 ≤ j) → U'.2.1 57 j = U.2.1 57 j
theorem mFr.trans {U V W : hS} (a : mFr U V) (b : mFr V W) : mFr U W := ⟨a.1.trans b.1, fun j hj => (b.2 j hj).trans (a.2 j hj)⟩
theorem mFr.rf (U : hS) : mFr U U := ⟨hFr.rf _ _, fun _ _ => rfl⟩
theorem mFr.put (U : hS) (k : Nat) (x : Int32) (h : 9 ≤ k ∧ k ≤ 12) : mFr U (hPut U 57 k x) := ⟨hFr_put _ _ _ _ rfl, fun j hj => by rw [hPut_at, pk_un (by omega)]⟩
theorem mT.fr {b : Nat → Int32} {n : Nat} {U U' : hS} (h : mT b n U) (f : mFr U U') : mT b n U' := by
  obtain ⟨a, c, d, e⟩ := h
  exact ⟨a.fr f.1, c, by rw [f.2 8 (by omega)]; exact d, by rw [f.1.2.2 64 (by decide)]; exact e⟩
theorem e_isFigure {b : Nat → Int32} {n : Nat} {U : hS} (h : mT b n U) (p : Nat) (hp : p ≤ n) (ha : U.2.1 57 9 = nI p) : Ev 64 [.inr (some (10, 57))] U (some (if p < n then mIn (b p) 48 57 else 0), U) := by
  obtain ⟨hL, h80, hn, hb⟩ := h
  have out : Rn hc_X10_isFigure 34 [some (.inr (some (10, 57)))] [] U (some 0, U) := by
    refine r_step rfl rfl ?_
    exact r_retz rfl (Or.inl rfl) rfl rfl
  show Rn hc_X10_isFigure 0 [some (.inr (some (10, 57)))] [] U _
  iterate 5 refine r_step rfl rfl ?_
  rw [ha, hn]
  by_cases c : p < n
  · rw [if_pos c]
    refine r_i_ge (fun q => absurd q (nI_ge c (by omega))) (fun _ => ?_)
    refine r_step rfl rfl ?_
    refine r_getr rfl (rv_57_7 hL) ?_
    iterate 2 refine r_step rfl rfl ?_
    refine r_iald rfl p (by rw [ha]; exact ti (by omega)) ⟨⟨by decide, by decide⟩, by show p < 80; omega⟩ ?_
    iterate 2 refine r_step rfl rfl ?_
    rw [hb]
    refine r_call rfl rfl (e_in _ _ _ _) ?_
    refine r_step rfl rfl ?_
    rcases mIn_b (b p) 48 57 with e | e
    · rw [e]
      exact r_i_eq (fun _ => out) (fun q => absurd rfl q)
    · rw [e]
      refine r_i_eq (fun q => absurd q (by decide)) (fun _ => ?_)
      iterate 2 refine r_step rfl rfl ?_
      exact r_retz rfl (Or.inr rfl) rfl rfl
  · rw [if_neg c]
    exact r_i_ge (fun _ => out) (fun q => absurd (nI_le (by omega) (by omega)) q)
theorem nx_skip {b : Nat → Int32} {n : Nat} : ∀ (d p : Nat) (U : hS), p + d = n → mT b n U → U.2.1 57 9 = nI p → ∃ U', mFr U U' ∧ U'.2.1 57 9 = nI (bl b d p) ∧ (∀ o, Rn hc_X10_next 38 [some (.inr (some (10, 57)))] [] U' o → Rn hc_X10_next 0 [some (.inr (some (10, 57)))] [] U o) := by
  intro d
  induction d with
  | zero =>
    intro p U hp h ha
    have h80 := h.2.1
    refine ⟨U, mFr.rf _, ha, fun o q => ?_⟩
    iterate 5 refine r_step rfl rfl ?_
    rw [ha, h.2.2.1]
    exact r_i_ge (fun _ => q) (fun q => absurd (nI_le (by omega) (by omega)) q)
  | succ d ih =>
    intro p U hp h ha
    have h80 := h.2.1
    have hL := h.1
    have start : ∀ o, Rn hc_X10_next 22 [some (.inr (some (10, 57)))] [.inl 32, .inl (b p)] U o → Rn hc_X10_next 0 [some (.inr (some (10, 57)))] [] U o := by
      intro o q
      iterate 5 refine r_step rfl rfl ?_
      rw [ha, h.2.2.1]
      refine r_i_ge (fun q => absurd q (nI_ge (by omega) (by omega))) (fun _ => ?_)
      refine r_step rfl rfl ?_
      refine r_getr rfl (rv_57_7 hL) ?_
      iterate 2 refine r_step rfl rfl ?_
      refine r_iald rfl p (by rw [ha]; exact ti (by omega)) ⟨⟨by decide, by decide⟩, by show p < 80; omega⟩ ?_
      refine r_step rfl rfl ?_
      rw [h.2.2.2]
      exact q
    rw [bl_s]
    by_cases c : b p = 32
    · have f := mFr.put U 9 (nI (p + 1)) (by omega)
      obtain ⟨U', a1, a2, a3⟩ := ih (p + 1) (hPut U 57 9 (nI (p + 1))) (by omega) (h.fr f) (by rw [hPut_at, pk_us])
      rw [if_pos c]
      refine ⟨U', f.trans a1, a2, fun o q => start _ ?_⟩
      refine r_step rfl rfl ?_
      refine r_i_ne (fun q => absurd c q) (fun _ => ?_)
      iterate 6 refine r_step rfl rfl ?_
      rw [ha, nI_s1]
      refine r_step rfl rfl ?_
      exact a3 o q
    · rw [if_neg c]
      refine ⟨U, mFr.rf _, ha, fun o q => start _ ?_⟩
      refine r_step rfl rfl ?_
      exact r_i_ne (fun _ => q) (fun q => absurd q c)
theorem mv_lt (b : Nat → Int32) (p : Nat) : ∀ k, (∀ i, p ≤ i → i < p + k → dg b i ≤ 9) → mv b p k ≤ 2559
  | 0, _ => Nat.zero_le _
  | k + 1, h => by
    have := h (p + k) (by omega) (by omega)
    rw [mv_s]
    by_cases c : 255 < mv b p k
    · rw [if_pos c]; omega
    · rw [if_neg c]; omega
theorem nx_dig {b : Nat → Int32} {n : Nat} (p : Nat) : ∀ (d k : Nat) (U : hS), p + k + d = n → mT b n U → (∀ i, p ≤ i → i < p + k → ¬ mIn (b i) 48 57 = 0) → U.2.1 57 9 = nI (p + k) → U.2.1 57 12 = nI (mv b p k) → ∃ U', mFr U U' ∧ U'.2.1 57 9 = nI (be b d (p + k)) ∧ U'.2.1 57 12 = nI (mv b p (be b d (p + k) - p)) ∧ U'.2.1 57 10 = U.2.1 57 10 ∧ (∀ o, Rn hc_X10_next 137 [some (.inr (some (10, 57)))] [] U' o → Rn hc_X10_next 77 [some (.inr (some (10, 57)))] [] U o) := by
  intro d
  induction d with
  | zero =>
    intro k U hk h hd ha hv
    have fg := e_isFigure h (p + k) (by omega) ha
    rw [if_neg (by omega)] at fg
    refine ⟨U, mFr.rf _, ha, ?_, rfl, fun o q => ?_⟩
    · rw [show be b 0 (p + k) - p = k from by show p + k - p = k; omega]; exact hv
    · refine r_step rfl rfl ?_
      refine r_call rfl rfl fg ?_
      refine r_step rfl rfl ?_
      exact q
  | succ d ih =>
    intro k U hk h hd ha hv
    have hL := h.1
    have h80 := h.2.1
    have fg := e_isFigure h (p + k) (by omega) ha
    rw [if_pos (by omega)] at fg
    rw [be_s]
    by_cases c : mIn (b (p + k)) 48 57 = 0
    · rw [if_pos c]
      rw [c] at fg
      refine ⟨U, mFr.rf _, ha, ?_, rfl, fun o q => ?_⟩
      · rw [show p + k - p = k by omega]; exact hv
      · refine r_step rfl rfl ?_
        refine r_call rfl rfl fg ?_
        refine r_step rfl rfl ?_
        exact q
    · rw [if_neg c]
      obtain ⟨d1, d2⟩ := dg_of c
      have vb := mv_lt b p k (fun i g1 g2 => (dg_of (hd i g1 g2)).2)
      have f1 := mFr.put U 12 (nI (mv b p (k + 1))) (by omega)
      have f2 := mFr.put (hPut U 57 12 (nI (mv b p (k + 1)))) 9 (nI (p + k + 1)) (by omega)
      obtain ⟨U', a1, a2, a3, a4, a5⟩ := ih (k + 1) (hPut (hPut U 57 12 (nI (mv b p (k + 1)))) 57 9 (nI (p + k + 1))) (by omega) (h.fr (f1.trans f2)) (fun i g1 g2 => by
        by_cases e : i = p + k
        · rw [e]; exact c
        · exact hd i g1 (by omega)) (by rw [hPut_at, pk_us]; rfl) (by rw [hPut_at, pk_un (by decide), hPut_at, pk_us])
      refine ⟨U', (f1.trans f2).trans a1, a2, a3, ?_, fun o q => ?_⟩
      · rw [a4, hPut_at, pk_un (by decide), hPut_at, pk_un (by decide)]
      have fin : ∀ x : Int32, x = nI (mv b p (k + 1)) → Rn hc_X10_next 121 [some (.inr (some (10, 57)))] [.inl x, .inr (some (10, 57))] U o := by
        intro x e
        rw [e]
        iterate 6 refine r_step rfl rfl ?_
        rw [hPut_at, pk_un (by decide), ha, nI_s1]
        iterate 2 refine r_step rfl rfl ?_
        exact a5 o q
      refine r_step rfl rfl ?_
      refine r_call rfl rfl fg ?_
      refine r_step rfl rfl ?_
      refine r_i_eq (fun q => absurd q c) (fun _ => ?_)
      iterate 5 refine r_step rfl rfl ?_
      rw [hv]
      by_cases e : 255 < mv b p k
      · refine r_i_le (fun q => absurd q (by rw [i_le, ti (by omega), show (255 : Int32).toInt = 255 from rfl]; omega)) (fun _ => ?_)
        iterate 2 refine r_step rfl rfl ?_
        exact fin _ (by rw [mv_s, if_pos e]; rfl)
      · refine r_i_le (fun _ => ?_) (fun q => absurd (by rw [i_le, ti (by omega), show (255 : Int32).toInt = 255 from rfl]; omega) q)
        iterate 5 refine r_step rfl rfl ?_
        refine r_getr rfl (rv_57_7 hL) ?_
        iterate 2 refine r_step rfl rfl ?_
        refine r_iald rfl (p + k) (by rw [ha]; exact ti (by omega)) ⟨⟨by decide, by decide⟩, by show p + k < 80; omega⟩ ?_
        iterate 3 refine r_step rfl rfl ?_
        refine fin _ ?_
        rw [hv, h.2.2.2, d1, mul_lit (x := 10) (a := 10) rfl, nI_add, show 10 * mv b p k + (48 + dg b (p + k)) = 10 * mv b p k + dg b (p + k) + 48 by omega, nI_sub48, mv_s, if_neg e]
