/-! Numbers. -/
theorem nI_sub48 (n : Nat) : nI (n + 48) - 48 = nI n := by
  rw [← nI_add, show (48 : Int32) = nI 48 from rfl, Int32.sub_eq_add_neg, Int32.add_assoc, show nI 48 + -nI 48 = 0 by decide, Int32.add_zero]
def nL (b : Nat → Int32) (n p : Nat) : Nat := tkE b n p - p
def okN (b : Nat → Int32) (n p : Nat) : Prop := ¬ mIn (b p) 48 57 = 0 ∧ ¬ 255 < mv b p (nL b n p) ∧ ¬ (b p = 48 ∧ 1 < nL b n p)
theorem nL_dg {b : Nat → Int32} {n p : Nat} (hp : p < n) (hf : ¬ mIn (b p) 48 57 = 0) : ∀ i, p ≤ i → i < p + nL b n p → ¬ mIn (b i) 48 57 = 0 := by
  intro i h1 h2
  have t := tkE_le (b := b) hp
  unfold nL at h2
  have e : tkE b n p = be b (n - p) p := if_neg hf
  exact be_fig b (n - p) p i h1 (by omega)
theorem na_l {b : Nat → Int32} {n : Nat} {T : hS} (h : cT b n T) (p L : Nat) (hL : p + L ≤ n) (hd : ∀ i, p ≤ i → i < p + L → ¬ mIn (b i) 48 57 = 0) (l3 : Option hV) (o : Option Int32 × hS) : ∀ (d k : Nat), k + d = L → Rn hc_X6_numberAt 69 [some (.inr (some (6, 2))), some (.inl (nI p)), some (.inl (nI (p + L))), l3, some (.inl (nI (cv b p L))), some (.inl (nI (p + L)))] [] T o → Rn hc_X6_numberAt 40 [some (.inr (some (6, 2))), some (.inl (nI p)), some (.inl (nI (p + L))), l3, some (.inl (nI (cv b p k))), some (.inl (nI (p + k)))] [] T o := by
  have h80 := h.2.1
  intro d
  induction d with
  | zero =>
    intro k hk q
    have : k = L := by omega
    subst this
    iterate 3 refine r_step rfl rfl ?_
    exact r_i_ge (fun _ => q) (fun q => absurd (nI_le (Nat.le_refl _) (by omega)) q)
  | succ d ih =>
    intro k hk q
    obtain ⟨e1, e2⟩ := dg_of (hd (p + k) (by omega) (by omega))
    iterate 3 refine r_step rfl rfl ?_
    refine r_i_ge (fun q => absurd q (nI_ge (by omega) (by omega))) (fun _ => ?_)
    iterate 5 refine r_step rfl rfl ?_
    refine r_call rfl rfl (e_letterAt h (p + k) (by omega)) ?_
    rw [e1, mul_lit (x := 10) (a := 10) rfl]
    iterate 3 refine r_step rfl rfl ?_
    rw [nI_add, show 10 * cv b p k + (48 + dg b (p + k)) = 10 * cv b p k + dg b (p + k) + 48 by omega, show nI (10 * cv b p k + dg b (p + k) + 48) - 48 = nI (10 * cv b p k + dg b (p + k)) from nI_sub48 _]
    iterate 3 refine r_step rfl rfl ?_
    show Rn hc_X6_numberAt 40 [some (.inr (some (6, 2))), some (.inl (nI p)), some (.inl (nI (p + L))), l3, some (.inl (nI (10 * cv b p k + dg b (p + k)))), some (.inl (nI (p + k) + 1))] [] _ _
    rw [nI_s1]
    exact ih (k + 1) (by omega) q
def nuA (b : Nat → Int32) (n p : Nat) : Int32 := if mIn (b p) 48 57 = 0 then -1 else if 3 < nL b n p ∨ (1 < nL b n p ∧ b p = 48) then -1 else if 255 < cv b p (nL b n p) then -1 else nI (cv b p (nL b n p))
theorem e_numberAt {b : Nat → Int32} {n : Nat} {T : hS} (h : cT b n T) (p : Nat) (hp : p < n) : Ev 110 [.inr (some (6, 2)), .inl (nI p), .inl (nI (tkE b n p))] T (some (nuA b n p), T) := by
  have h80 := h.2.1
  have t := tkE_le (b := b) hp
  have et : tkE b n p = p + nL b n p := by unfold nL; omega
  have eL : nI (tkE b n p) - nI p = nI (nL b n p) := by
    rw [et, Nat.add_comm]
    exact sub_lit (a := nL b n p) (b := p) rfl (by omega)
  have out : Rn hc_X6_numberAt 32 [some (.inr (some (6, 2))), some (.inl (nI p)), some (.inl (nI (tkE b n p))), some (.inl (nI (nL b n p))), none, none] [] T (some (-1), T) := by
    refine r_step rfl rfl ?_
    exact r_reti rfl rfl rfl
  show Rn hc_X6_numberAt 0 [some (.inr (some (6, 2))), some (.inl (nI p)), some (.inl (nI (tkE b n p))), none, none, none] [] T _
  iterate 3 refine r_step rfl rfl ?_
  rw [eL]
  iterate 3 refine r_step rfl rfl ?_
  refine r_call rfl rfl (e_isFigureAt h p hp) ?_
  refine r_step rfl rfl ?_
  by_cases c : mIn (b p) 48 57 = 0
  · rw [show nuA b n p = -1 from if_pos c]
    exact r_i_eq (fun _ => out) (fun q => absurd c q)
  have u1 : nuA b n p = if 3 < nL b n p ∨ (1 < nL b n p ∧ b p = 48) then -1 else if 255 < cv b p (nL b n p) then -1 else nI (cv b p (nL b n p)) := if_neg c
  rw [u1]
  refine r_i_eq (fun q => absurd q c) (fun _ => ?_)
  have big : ∀ m : Nat, m < 2147483648 → ∀ k : Nat, k < 2147483648 → (nI k < nI m ↔ k < m) := fun m hm k hk => nle_lit hm hk
  have go : ¬ (3 < nL b n p ∨ (1 < nL b n p ∧ b p = 48)) → Rn hc_X6_numberAt 34 [some (.inr (some (6, 2))), some (.inl (nI p)), some (.inl (nI (tkE b n p))), some (.inl (nI (nL b n p))), none, none] [] T (some (if 255 < cv b p (nL b n p) then -1 else nI (cv b p (nL b n p))), T) := by
    intro w
    have dl : ∀ i, p ≤ i → i < p + nL b n p → dg b i ≤ 9 := fun i h1 h2 => (dg_of (nL_dg hp c i h1 h2)).2
    have cl := (mv_cv dl (by omega)).2
    iterate 4 refine r_step rfl rfl ?_
    rw [et]
    refine na_l h p (nL b n p) (by omega) (nL_dg hp c) _ _ (nL b n p) 0 (by omega) ?_
    iterate 3 refine r_step rfl rfl ?_
    by_cases e : 255 < cv b p (nL b n p)
    · rw [if_pos e]
      refine r_i_le (fun q => absurd q (by rw [i_le, ti (by omega), show (255 : Int32).toInt = 255 from rfl]; omega)) (fun _ => ?_)
      iterate 2 refine r_step rfl rfl ?_
      exact r_reti rfl rfl rfl
    · rw [if_neg e]
      refine r_i_le (fun _ => ?_) (fun q => absurd (by rw [i_le, ti (by omega), show (255 : Int32).toInt = 255 from rfl]; omega) q)
      refine r_step rfl rfl ?_
      exact r_reti rfl rfl rfl
  iterate 3 refine r_step rfl rfl ?_
  by_cases c3 : 3 < nL b n p
  · rw [if_pos (Or.inl c3)]
    exact r_i_gt (fun _ => out) (fun q => absurd ((big (nL b n p) (by omega) 3 (by decide)).2 c3) q)
  refine r_i_gt (fun q => absurd ((big (nL b n p) (by omega) 3 (by decide)).1 q) c3) (fun _ => ?_)
  iterate 3 refine r_step rfl rfl ?_
  by_cases c1 : 1 < nL b n p
  · refine r_i_le (fun q => absurd q (lt_lit1 c1 (by omega))) (fun _ => ?_)
    iterate 2 refine r_step rfl rfl ?_
    refine r_call rfl rfl (e_letterAt h p hp) ?_
    iterate 2 refine r_step rfl rfl ?_
    by_cases c0 : b p = 48
    · rw [if_pos (Or.inr ⟨c1, c0⟩)]
      exact r_i_ne (fun q => absurd c0 q) (fun _ => out)
    · have w : ¬ (3 < nL b n p ∨ (1 < nL b n p ∧ b p = 48)) := fun q => q.elim c3 (fun q => c0 q.2)
      rw [if_neg w]
      exact r_i_ne (fun _ => go w) (fun q => absurd q c0)
  · have w : ¬ (3 < nL b n p ∨ (1 < nL b n p ∧ b p = 48)) := fun q => q.elim c3 (fun q => c1 q.1)
    rw [if_neg w]
    exact r_i_le (fun _ => go w) (fun q => absurd (nI_le (a := nL b n p) (b := 1) (by omega) (by decide)) q)
theorem nuA_ok {b : Nat → Int32} {n p : Nat} (hp : p < n) (h : okN b n p) : nuA b n p = nI (mv b p (nL b n p)) ∧ mv b p (nL b n p) ≤ 255 := by
  obtain ⟨h1', h2', h3'⟩ := h
  have dl : ∀ i, p ≤ i → i < p + nL b n p → dg b i ≤ 9 := fun i g1 g2 => (dg_of (nL_dg hp h1' i g1 g2)).2
  have d0 := dg_of h1'
  have l3 : nL b n p ≤ 3 := by
    by_cases c : nL b n p ≤ 3
    · exact c
    · by_cases e : b p = 48
      · exact absurd ⟨e, by omega⟩ h3'
      · have : 1 ≤ dg b p := by
          by_cases f : dg b p = 0
          · rw [f] at d0; exact absurd d0.1 e
          · omega
        exact absurd ((mv_big this (nL b n p)).2.2.2 (by omega)) h2'
  obtain ⟨e1, e2⟩ := mv_cv dl l3
  refine ⟨?_, by omega⟩
  unfold nuA
  rw [if_neg h1', if_neg (fun q => q.elim (by omega) (fun q => h3' ⟨q.2, q.1⟩)), ← e1, if_neg h2']
theorem nuA_no {b : Nat → Int32} {n p : Nat} (hp : p < n) (h : ¬ okN b n p) : nuA b n p = -1 := by
  unfold nuA
  by_cases c : mIn (b p) 48 57 = 0
  · rw [if_pos c]
  rw [if_neg c]
  by_cases c2 : 3 < nL b n p ∨ (1 < nL b n p ∧ b p = 48)
  · rw [if_pos c2]
  rw [if_neg c2]
  have dl : ∀ i, p ≤ i → i < p + nL b n p → dg b i ≤ 9 := fun i g1 g2 => (dg_of (nL_dg hp c i g1 g2)).2
  have e := (mv_cv dl (by omega)).1
  rw [← e]
  by_cases c3 : 255 < mv b p (nL b n p)
  · rw [if_pos c3]
  · exact absurd ⟨c, c3, fun q => c2 (Or.inr ⟨q.2, q.1⟩)⟩ h
