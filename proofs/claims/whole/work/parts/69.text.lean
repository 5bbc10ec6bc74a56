/-! The text, as it is read. -/
def bl (b : Nat → Int32) : Nat → Nat → Nat
  | 0, p => p
  | d + 1, p => if b p = 32 then bl b d (p + 1) else p
theorem bl_s (b : Nat → Int32) (d p : Nat) : bl b (d + 1) p = if b p = 32 then bl b d (p + 1) else p := rfl
theorem bl_le (b : Nat → Int32) : ∀ d p, p ≤ bl b d p ∧ bl b d p ≤ p + d
  | 0, p => ⟨Nat.le_refl _, Nat.le_refl _⟩
  | d + 1, p => by
    have := bl_le b d (p + 1)
    rw [bl_s]
    by_cases c : b p = 32
    · rw [if_pos c]; omega
    · rw [if_neg c]; omega
def be (b : Nat → Int32) : Nat → Nat → Nat
  | 0, p => p
  | d + 1, p => if mIn (b p) 48 57 = 0 then p else be b d (p + 1)
theorem be_s (b : Nat → Int32) (d p : Nat) : be b (d + 1) p = if mIn (b p) 48 57 = 0 then p else be b d (p + 1) := rfl
theorem be_le (b : Nat → Int32) : ∀ d p, p ≤ be b d p ∧ be b d p ≤ p + d
  | 0, p => ⟨Nat.le_refl _, Nat.le_refl _⟩
  | d + 1, p => by
    have := be_le b d (p + 1)
    rw [be_s]
    by_cases c : mIn (b p) 48 57 = 0
    · rw [if_pos c]; omega
    · rw [if_neg c]; omega
theorem be_fig (b : Nat → Int32) : ∀ d p i, p ≤ i → i < be b d p → ¬ mIn (b i) 48 57 = 0
  | 0, p, i, h, k => absurd k (by show ¬ i < p; omega)
  | d + 1, p, i, h, k => by
    rw [be_s] at k
    by_cases c : mIn (b p) 48 57 = 0
    · rw [if_pos c] at k; omega
    · rw [if_neg c] at k
      by_cases e : i = p
      · rw [e]; exact c
      · exact be_fig b d (p + 1) i (by omega) k
def dg (b : Nat → Int32) (i : Nat) : Nat := (b i).toInt.toNat - 48
theorem dg_of {b : Nat → Int32} {i : Nat} (h : ¬ mIn (b i) 48 57 = 0) : b i = nI (48 + dg b i) ∧ dg b i ≤ 9 := by
  rcases mIn_iff (v := b i) (lo := 48) (hi := 57) with ⟨e, -⟩ | ⟨-, h1, h2⟩
  · exact absurd e h
  · have l1 : (48 : Int32).toInt = 48 := rfl
    have l2 : (57 : Int32).toInt = 57 := rfl
    unfold dg
    refine ⟨?_, by omega⟩
    rw [i_eq, ti (by omega)]
    omega
/-- the class's text -/
def cT (b : Nat → Int32) (n : Nat) (T : hS) : Prop := hLay T ∧ n ≤ 80 ∧ T.2.1 2 1 = nI n ∧ ∀ i, i < n → T.2.1 3 i = b i
theorem cT.fr {b : Nat → Int32} {n : Nat} {T T' : hS} (h : cT b n T) (f : hFr T T' (fun p => p = 4 ∨ p = 5)) : cT b n T' := by
  obtain ⟨a, c, d, e⟩ := h
  refine ⟨a.fr f, c, ?_, ?_⟩
  · rw [f.2.2 2 (by decide)]; exact d
  · rw [f.2.2 3 (by decide)]; exact e
theorem e_letterAt {b : Nat → Int32} {n : Nat} {T : hS} (h : cT b n T) (p : Nat) (hp : p < n) : Ev 39 [.inr (some (6, 2)), .inl (nI p)] T (some (b p), T) := by
  obtain ⟨hL, h80, hn, hb⟩ := h
  show Rn hc_X6_letterAt 0 [some (.inr (some (6, 2))), some (.inl (nI p))] [] T _
  iterate 2 refine r_step rfl rfl ?_
  refine r_i_lt (fun q => absurd q (nI_pos (by omega))) (fun _ => ?_)
  iterate 4 refine r_step rfl rfl ?_
  rw [hn]
  refine r_i_ge (fun q => absurd q (nI_ge hp (by omega))) (fun _ => ?_)
  iterate 2 refine r_step rfl rfl ?_
  refine r_getr rfl (rv_2_0 hL) ?_
  iterate 2 refine r_step rfl rfl ?_
  refine r_i_ge (fun q => absurd q (nI_ge (b := 80) (by omega) (by decide))) (fun _ => ?_)
  refine r_step rfl rfl ?_
  refine r_getr rfl (rv_2_0 hL) ?_
  refine r_step rfl rfl ?_
  refine r_iald rfl p (ti (by omega)) ⟨⟨by decide, by decide⟩, by show p < 80; omega⟩ ?_
  refine r_step rfl rfl ?_
  exact r_reti rfl (hb p hp) rfl
theorem bb_l {b : Nat → Int32} {n : Nat} {T : hS} (h : cT b n T) (l1 : Option hV) : ∀ (d p : Nat), p + d = n → Rn hc_X6_behindBlanks 2 [some (.inr (some (6, 2))), l1, some (.inl (nI p))] [] T (some (nI (bl b d p)), T) := by
  obtain ⟨hL, h80, hn, hb⟩ := h
  intro d
  induction d with
  | zero =>
    intro p hp
    iterate 4 refine r_step rfl rfl ?_
    rw [hn]
    refine r_i_ge (fun _ => ?_) (fun q => absurd (nI_le (by omega) (by omega)) q)
    refine r_step rfl rfl ?_
    exact r_reti rfl rfl rfl
  | succ d ih =>
    intro p hp
    iterate 4 refine r_step rfl rfl ?_
    rw [hn]
    refine r_i_ge (fun q => absurd q (nI_ge (by omega) (by omega))) (fun _ => ?_)
    iterate 2 refine r_step rfl rfl ?_
    refine r_call rfl rfl (e_letterAt ⟨hL, h80, hn, hb⟩ p (by omega)) ?_
    iterate 2 refine r_step rfl rfl ?_
    rw [bl_s]
    by_cases c : b p = 32
    · rw [if_pos c]
      refine r_i_ne (fun q => absurd c q) (fun _ => ?_)
      iterate 2 refine r_step rfl rfl ?_
      show Rn hc_X6_behindBlanks 2 [some (.inr (some (6, 2))), l1, some (.inl (nI p + 1))] [] _ _
      rw [nI_s1]
      exact ih (p + 1) (by omega)
    · rw [if_neg c]
      refine r_i_ne (fun _ => ?_) (fun q => absurd q c)
      refine r_step rfl rfl ?_
      exact r_reti rfl rfl rfl
theorem e_behindBlanks {b : Nat → Int32} {n : Nat} {T : hS} (h : cT b n T) (p : Nat) (hp : p ≤ n) : Ev 80 [.inr (some (6, 2)), .inl (nI p)] T (some (nI (bl b (n - p) p)), T) := by
  show Rn hc_X6_behindBlanks 0 [some (.inr (some (6, 2))), some (.inl (nI p)), none] [] T _
  iterate 2 refine r_step rfl rfl ?_
  exact bb_l h _ (n - p) p (by omega)
theorem mIn_b (v lo hi : Int32) : isB (mIn v lo hi) := by
  rcases mIn_iff (v := v) (lo := lo) (hi := hi) with ⟨e, -⟩ | ⟨e, -⟩
  · exact Or.inl e
  · exact Or.inr e
theorem e_isFigureAt {b : Nat → Int32} {n : Nat} {T : hS} (h : cT b n T) (p : Nat) (hp : p < n) : Ev 82 [.inr (some (6, 2)), .inl (nI p)] T (some (mIn (b p) 48 57), T) := by
  show Rn hc_X6_isFigureAt 0 [some (.inr (some (6, 2))), some (.inl (nI p))] [] T _
  iterate 2 refine r_step rfl rfl ?_
  refine r_call rfl rfl (e_letterAt h p hp) ?_
  iterate 2 refine r_step rfl rfl ?_
  refine r_call rfl rfl (e_within _ _ _ _) ?_
  exact r_retz rfl (mIn_b _ _ _) rfl rfl
theorem bt_l {b : Nat → Int32} {n : Nat} {T : hS} (h : cT b n T) (l1 : Option hV) : ∀ (d p : Nat), p + d = n → Rn hc_X6_behindToken 14 [some (.inr (some (6, 2))), l1, some (.inl (nI p))] [] T (some (nI (be b d p)), T) := by
  have hn := h.2.2.1
  have h80 := h.2.1
  intro d
  induction d with
  | zero =>
    intro p hp
    iterate 4 refine r_step rfl rfl ?_
    rw [hn]
    refine r_i_ge (fun _ => ?_) (fun q => absurd (nI_le (by omega) (by omega)) q)
    refine r_step rfl rfl ?_
    exact r_reti rfl rfl rfl
  | succ d ih =>
    intro p hp
    iterate 4 refine r_step rfl rfl ?_
    rw [hn]
    refine r_i_ge (fun q => absurd q (nI_ge (by omega) (by omega))) (fun _ => ?_)
    iterate 2 refine r_step rfl rfl ?_
    refine r_call rfl rfl (e_isFigureAt h p (by omega)) ?_
    refine r_step rfl rfl ?_
    rw [be_s]
    by_cases c : mIn (b p) 48 57 = 0
    · rw [if_pos c]
      refine r_i_eq (fun _ => ?_) (fun q => absurd c q)
      refine r_step rfl rfl ?_
      exact r_reti rfl rfl rfl
    · rw [if_neg c]
      refine r_i_eq (fun q => absurd q c) (fun _ => ?_)
      iterate 2 refine r_step rfl rfl ?_
      show Rn hc_X6_behindToken 14 [some (.inr (some (6, 2))), l1, some (.inl (nI p + 1))] [] _ _
      rw [nI_s1]
      exact ih (p + 1) (by omega)
/-- where the token that begins at p ends -/
def tkE (b : Nat → Int32) (n p : Nat) : Nat := if mIn (b p) 48 57 = 0 then p + 1 else be b (n - p) p
theorem tkE_le {b : Nat → Int32} {n p : Nat} (hp : p < n) : p < tkE b n p ∧ tkE b n p ≤ n := by
  unfold tkE
  by_cases c : mIn (b p) 48 57 = 0
  · rw [if_pos c]; omega
  · rw [if_neg c, show n - p = (n - p - 1) + 1 by omega, be_s, if_neg c]
    have := be_le b (n - p - 1) (p + 1)
    omega
theorem e_behindToken {b : Nat → Int32} {n : Nat} {T : hS} (h : cT b n T) (p : Nat) (hp : p < n) : Ev 109 [.inr (some (6, 2)), .inl (nI p)] T (some (nI (tkE b n p)), T) := by
  show Rn hc_X6_behindToken 0 [some (.inr (some (6, 2))), some (.inl (nI p)), none] [] T _
  iterate 2 refine r_step rfl rfl ?_
  refine r_call rfl rfl (e_isFigureAt h p hp) ?_
  refine r_step rfl rfl ?_
  unfold tkE
  by_cases c : mIn (b p) 48 57 = 0
  · rw [if_pos c]
    refine r_i_ne (fun q => absurd c q) (fun _ => ?_)
    iterate 3 refine r_step rfl rfl ?_
    exact r_reti rfl (nI_s1 p) rfl
  · rw [if_neg c]
    refine r_i_ne (fun _ => ?_) (fun q => absurd q c)
    iterate 2 refine r_step rfl rfl ?_
    exact bt_l h _ (n - p) p (by omega)
/-- a number's value: as it is, and as the model counts it -/
def cv (b : Nat → Int32) (p : Nat) : Nat → Nat
  | 0 => 0
  | k + 1 => 10 * cv b p k + dg b (p + k)
def mv (b : Nat → Int32) (p : Nat) : Nat → Nat
  | 0 => 0
  | k + 1 => if 255 < mv b p k then 256 else 10 * mv b p k + dg b (p + k)
theorem mv_s (b : Nat → Int32) (p k : Nat) : mv b p (k + 1) = if 255 < mv b p k then 256 else 10 * mv b p k + dg b (p + k) := rfl
theorem mv_cv {b : Nat → Int32} {p L : Nat} (h : ∀ i, p ≤ i → i < p + L → dg b i ≤ 9) (hL : L ≤ 3) : mv b p L = cv b p L ∧ cv b p L ≤ 999 := by
  match L, hL, h with
  | 0, _, _ => exact ⟨rfl, Nat.zero_le _⟩
  | 1, _, h =>
    have h0 := h p (by omega) (by omega)
    have c1 : cv b p 1 = dg b (p + 0) := by show 10 * 0 + dg b (p + 0) = _; omega
    have m1 : mv b p 1 = dg b (p + 0) := by rw [mv_s, if_neg (show ¬ 255 < mv b p 0 from by show ¬ 255 < 0; omega)]; show 10 * 0 + _ = _; omega
    rw [Nat.add_zero] at c1 m1
    omega
  | 2, _, h =>
    have h0 := h p (by omega) (by omega)
    have h1' := h (p + 1) (by omega) (by omega)
    have c1 : cv b p 1 = dg b (p + 0) := by show 10 * 0 + dg b (p + 0) = _; omega
    have m1 : mv b p 1 = dg b (p + 0) := by rw [mv_s, if_neg (show ¬ 255 < mv b p 0 from by show ¬ 255 < 0; omega)]; show 10 * 0 + _ = _; omega
    rw [Nat.add_zero] at c1 m1
    have c2 : cv b p 2 = 10 * cv b p 1 + dg b (p + 1) := rfl
    have m2 : mv b p 2 = 10 * mv b p 1 + dg b (p + 1) := by rw [mv_s, if_neg (by omega)]
    omega
  | 3, _, h =>
    have h0 := h p (by omega) (by omega)
    have h1' := h (p + 1) (by omega) (by omega)
    have h2' := h (p + 2) (by omega) (by omega)
    have c1 : cv b p 1 = dg b (p + 0) := by show 10 * 0 + dg b (p + 0) = _; omega
    have m1 : mv b p 1 = dg b (p + 0) := by rw [mv_s, if_neg (show ¬ 255 < mv b p 0 from by show ¬ 255 < 0; omega)]; show 10 * 0 + _ = _; omega
    rw [Nat.add_zero] at c1 m1
    have c2 : cv b p 2 = 10 * cv b p 1 + dg b (p + 1) := rfl
    have m2 : mv b p 2 = 10 * mv b p 1 + dg b (p + 1) := by rw [mv_s, if_neg (by omega)]
    have c3 : cv b p 3 = 10 * cv b p 2 + dg b (p + 2) := rfl
    have m3 : mv b p 3 = 10 * mv b p 2 + dg b (p + 2) := by rw [mv_s, if_neg (by omega)]
    omega
theorem mv_big {b : Nat → Int32} {p : Nat} (h0 : 1 ≤ dg b p) : ∀ k, (k = 1 → 1 ≤ mv b p k) ∧ (k = 2 → 10 ≤ mv b p k) ∧ (k = 3 → 100 ≤ mv b p k) ∧ (4 ≤ k → 255 < mv b p k)
  | 0 => ⟨by omega, by omega, by omega, by omega⟩
  | k + 1 => by
    have ih := mv_big h0 k
    rw [mv_s]
    by_cases c : 255 < mv b p k
    · rw [if_pos c]; omega
    · rw [if_neg c]
      refine ⟨fun e => ?_, fun e => ?_, fun e => ?_, fun e => ?_⟩
      · have : k = 0 := by omega
        subst this
        rw [Nat.add_zero]
        omega
      · have := ih.2.1; have := ih.1 (by omega); omega
      · have := ih.2.1 (by omega); omega
      · by_cases e3 : k = 3
        · have := ih.2.2.1 e3; omega
        · have := ih.2.2.2 (by omega); omega
