/-! How many speeds are alike. -/
def bit (p : Int32) (j : Nat) : Int32 := (p >>> (nI j &&& 31)) &&& 1
def cU (p : Int32) (V : Nat → Int32) (i : Nat) : Nat → Nat
  | 0 => 0
  | n + 1 => cU p V i n + (if bit p n = 1 ∧ V n = V i then 1 else 0)
theorem cU_s (p : Int32) (V : Nat → Int32) (i n : Nat) : cU p V i (n + 1) = cU p V i n + (if bit p n = 1 ∧ V n = V i then 1 else 0) := rfl
theorem cU_le (p : Int32) (V : Nat → Int32) (i : Nat) : ∀ n, cU p V i n ≤ n
  | 0 => Nat.le_refl _
  | n + 1 => by
    have := cU_le p V i n
    rw [cU_s]
    by_cases c : bit p n = 1 ∧ V n = V i
    · rw [if_pos c]; omega
    · rw [if_neg c]; omega
theorem cU_mono (p : Int32) (V : Nat → Int32) (i : Nat) {n : Nat} : ∀ d, cU p V i n ≤ cU p V i (n + d)
  | 0 => Nat.le_refl _
  | d + 1 => by
    have := cU_mono p V i (n := n) d
    show cU p V i n ≤ cU p V i (n + d + 1)
    rw [cU_s]
    omega
theorem cU_v (p : Int32) (V : Nat → Int32) {i j : Nat} (h : V i = V j) : ∀ n, cU p V i n = cU p V j n
  | 0 => rfl
  | n + 1 => by rw [cU_s, cU_s, cU_v p V h n, h]
theorem cU_c (p : Int32) {V W : Nat → Int32} {i N : Nat} (hi : i < N) (h : ∀ j, j < N → V j = W j) : ∀ n, n ≤ N → cU p V i n = cU p W i n
  | 0, _ => rfl
  | n + 1, hn => by rw [cU_s, cU_s, cU_c p hi h n (by omega), h n (by omega), h i hi]
def mC (p : Int32) (V : Nat → Int32) : Nat → Nat
  | 0 => 0
  | k + 1 => if bit p k = 1 then max (mC p V k) (cU p V k (k + 1)) else mC p V k
theorem mC_s (p : Int32) (V : Nat → Int32) (k : Nat) : mC p V (k + 1) = if bit p k = 1 then max (mC p V k) (cU p V k (k + 1)) else mC p V k := rfl
def mM (p : Int32) (V : Nat → Int32) : Nat → Nat
  | 0 => 0
  | k + 1 => max (mM p V k) (if bit p k = 1 then cU p V k 6 else 0)
theorem mM_s (p : Int32) (V : Nat → Int32) (k : Nat) : mM p V (k + 1) = max (mM p V k) (if bit p k = 1 then cU p V k 6 else 0) := rfl
theorem mC_up (p : Int32) (V : Nat → Int32) (k : Nat) : mC p V k ≤ mC p V (k + 1) := by
  rw [mC_s]
  by_cases c : bit p k = 1
  · rw [if_pos c]; omega
  · rw [if_neg c]; exact Nat.le_refl _
theorem cU_mC (p : Int32) (V : Nat → Int32) : ∀ n i, cU p V i n ≤ mC p V n
  | 0, _ => Nat.le_refl _
  | n + 1, i => by
    by_cases c : bit p n = 1 ∧ V n = V i
    · rw [← cU_v p V c.2 (n + 1), mC_s, if_pos c.1]
      omega
    · rw [cU_s, if_neg c]
      exact Nat.le_trans (cU_mC p V n i) (mC_up p V n)
theorem mC_mM (p : Int32) (V : Nat → Int32) : ∀ n, n ≤ 6 → mC p V n ≤ mM p V n
  | 0, _ => Nat.le_refl _
  | n + 1, h => by
    have ih := mC_mM p V n (by omega)
    rw [mC_s, mM_s]
    by_cases c : bit p n = 1
    · rw [if_pos c, if_pos c]
      have := cU_mono p V n (n := n + 1) (6 - (n + 1))
      rw [show n + 1 + (6 - (n + 1)) = 6 by omega] at this
      omega
    · rw [if_neg c]; omega
theorem mM_mC (p : Int32) (V : Nat → Int32) : ∀ n, mM p V n ≤ mC p V 6
  | 0 => Nat.zero_le _
  | n + 1 => by
    have ih := mM_mC p V n
    have := cU_mC p V 6 n
    rw [mM_s]
    by_cases c : bit p n = 1
    · rw [if_pos c]; omega
    · rw [if_neg c]; omega
theorem alike_eq (p : Int32) (V : Nat → Int32) : mC p V 6 = mM p V 6 := Nat.le_antisymm (mC_mM p V 6 (Nat.le_refl _)) (mM_mC p V 6)
theorem mC_le (p : Int32) (V : Nat → Int32) : ∀ n, mC p V n ≤ n
  | 0 => Nat.le_refl _
  | n + 1 => by
    have := mC_le p V n
    have := cU_le p V n (n + 1)
    rw [mC_s]
    by_cases c : bit p n = 1
    · rw [if_pos c]; omega
    · rw [if_neg c]; omega
theorem mC_c (p : Int32) {V W : Nat → Int32} (h : ∀ j, j < 6 → V j = W j) : ∀ n, n ≤ 6 → mC p V n = mC p W n
  | 0, _ => rfl
  | n + 1, hn => by rw [mC_s, mC_s, mC_c p h n (by omega), cU_c p (show n < 6 by omega) h (n + 1) hn]
theorem jmax_n {a b : Nat} (ha : a < 2147483648) (hb : b < 2147483648) : jmax (nI a) (nI b) = nI (max a b) := by
  unfold jmax
  by_cases c : nI a < nI b
  · rw [if_pos c]
    rw [nle_lit hb ha] at c
    rw [show max a b = b by omega]
  · rw [if_neg c]
    rw [nle_lit hb ha] at c
    rw [show max a b = a by omega]
theorem al_l (p : Int32) (V : Nat → Int32) (k : Nat) (hk : k ≤ 5) (T : hS) (hL : hLay T) (hf : ∀ j, j ≤ k → bit p j = 1 → T.2.1 50 j = V j) (hkk : T.2.1 50 k = V k) : ∀ (d i : Nat), i + d = k + 1 → Rn hc_X9_alikeUpTo 5 [some (.inr (some (9, 0))), some (.inl p), some (.inl (nI k)), some (.inl (nI (cU p V k i))), some (.inl (nI i))] [] T (some (nI (cU p V k (k + 1))), T) := by
  intro d
  induction d with
  | zero =>
    intro i hi
    have : i = k + 1 := by omega
    subst this
    iterate 3 refine r_step rfl rfl ?_
    refine r_i_gt (fun _ => ?_) (fun q => absurd (nI_lt (by omega) (by omega)) q)
    refine r_step rfl rfl ?_
    exact r_reti rfl rfl rfl
  | succ d ih =>
    intro i hi
    have ihk := ih (i + 1) (by omega)
    rw [cU_s p V k i] at ihk
    iterate 3 refine r_step rfl rfl ?_
    refine r_i_gt (fun q => absurd q (ngt_lit (N := k) rfl (by omega) (by omega))) (fun _ => ?_)
    iterate 7 refine r_step rfl rfl ?_
    have skip : ¬ (bit p i = 1 ∧ V i = V k) → Rn hc_X9_alikeUpTo 46 [some (.inr (some (9, 0))), some (.inl p), some (.inl (nI k)), some (.inl (nI (cU p V k i))), some (.inl (nI i))] [] T (some (nI (cU p V k (k + 1))), T) := by
      intro c
      rw [if_neg c] at ihk
      iterate 2 refine r_step rfl rfl ?_
      show Rn hc_X9_alikeUpTo 5 [some (.inr (some (9, 0))), some (.inl p), some (.inl (nI k)), some (.inl (nI (cU p V k i))), some (.inl (nI i + 1))] [] _ _
      rw [nI_s1]
      exact ihk
    refine r_i_ne (fun q => skip (fun w => q w.1)) (fun q => ?_)
    have q1 : bit p i = 1 := q
    refine r_step rfl rfl ?_
    refine r_getr rfl (rv_0_7 hL) ?_
    refine r_getr rfl (rv_46_3 hL) ?_
    refine r_step rfl rfl ?_
    refine r_iald rfl i (ti (by omega)) ⟨⟨by decide, by decide⟩, by show i < 6; omega⟩ ?_
    refine r_step rfl rfl ?_
    refine r_getr rfl (rv_0_7 hL) ?_
    refine r_getr rfl (rv_46_3 hL) ?_
    refine r_step rfl rfl ?_
    refine r_iald rfl k (ti (by omega)) ⟨⟨by decide, by decide⟩, by show k < 6; omega⟩ ?_
    rw [hf i (by omega) q1, hkk]
    refine r_step rfl rfl ?_
    refine r_i_ne (fun c => skip (fun w => c w.2)) (fun c => ?_)
    rw [if_pos ⟨q1, c⟩] at ihk
    iterate 3 refine r_step rfl rfl ?_
    show Rn hc_X9_alikeUpTo 5 [some (.inr (some (9, 0))), some (.inl p), some (.inl (nI k)), some (.inl (nI (cU p V k i) + 1)), some (.inl (nI i + 1))] [] _ _
    rw [nI_s1, nI_s1]
    exact ihk
theorem ma_l {st w d : Nat → Int32} {z : Nat} (o : okW st w d z) (p : Int32) (wd : Nat) (hw : wd ≤ 40) : ∀ (c k : Nat) (T : hS), k + c = 6 → cCx st w d z T → (∀ j, j < k → bit p j = 1 → T.2.1 50 j = sAf st w 10 (nI wd) (nI j)) → ∃ T', Rn hc_X9_mostAlike 5 [some (.inr (some (9, 0))), some (.inl p), some (.inl (nI wd)), some (.inl (nI (mC p (fun j => sAf st w 10 (nI wd) (nI j)) k))), some (.inl (nI k))] [] T (some (nI (mC p (fun j => sAf st w 10 (nI wd) (nI j)) 6)), T') ∧ hFr T T' (fun p => p = 50 ∨ p = 56) := by
  intro c
  induction c with
  | zero =>
    intro k T hk h hf
    have : k = 6 := by omega
    subst this
    refine ⟨T, ?_, hFr.rf _ _⟩
    iterate 3 refine r_step rfl rfl ?_
    refine r_i_gt (fun _ => ?_) (fun q => absurd (show (5 : Int32) < nI 6 by decide) q)
    refine r_step rfl rfl ?_
    exact r_reti rfl rfl rfl
  | succ c ih =>
    intro k T hk h hf
    have hL := h.1
    by_cases b : bit p k = 1
    · obtain ⟨u, a⟩ := e_speedAfter 10 (by decide) (nI wd) (nI k) (bt_n (by omega) (by omega)) (bt_n (by omega) (by omega)) T hL (by rw [h.2.1]; exact o.1) (by rw [h.2.1, h.2.2.1]; exact o.2.1) (by rw [h.2.2.1]; exact o.2.2.1)
      rw [h.2.1, h.2.2.1] at a
      have f : hFr T (hPut (hRow T 56 u) 50 k (sAf st w 10 (nI wd) (nI k))) (fun p => p = 50 ∨ p = 56) := (hFr_row _ _ _ (Or.inr rfl)).trans (hFr_put _ _ _ _ (Or.inl rfl))
      have f50 : ∀ j, j < k + 1 → bit p j = 1 → (hPut (hRow T 56 u) 50 k (sAf st w 10 (nI wd) (nI k))).2.1 50 j = sAf st w 10 (nI wd) (nI j) := fun j hj hb => by
        rw [hPut_at]
        by_cases e : j = k
        · rw [e, pk_us]
        · rw [pk_un e, hRow_ne _ _ (by decide)]
          exact hf j (by omega) hb
      have al := al_l p (fun j => sAf st w 10 (nI wd) (nI j)) k (by omega) (hPut (hRow T 56 u) 50 k (sAf st w 10 (nI wd) (nI k))) (hL.fr f) (fun j hj hb => f50 j (by omega) hb) (f50 k (by omega) b) (k + 1) 0 (by omega)
      have eal : Ev 48 [.inr (some (9, 0)), .inl p, .inl (nI k)] (hPut (hRow T 56 u) 50 k (sAf st w 10 (nI wd) (nI k))) (some (nI (cU p (fun j => sAf st w 10 (nI wd) (nI j)) k (k + 1))), hPut (hRow T 56 u) 50 k (sAf st w 10 (nI wd) (nI k))) := by
        show Rn hc_X9_alikeUpTo 0 [some (.inr (some (9, 0))), some (.inl p), some (.inl (nI k)), none, none] [] _ _
        iterate 4 refine r_step rfl rfl ?_
        exact al
      obtain ⟨T', b1, b2⟩ := ih (k + 1) _ (by omega) (h.fr f) f50
      rw [mC_s, if_pos b] at b1
      refine ⟨T', ?_, f.trans b2⟩
      iterate 3 refine r_step rfl rfl ?_
      refine r_i_gt (fun q => absurd q (ngt_lit (N := 5) rfl (by decide) (by omega))) (fun _ => ?_)
      iterate 7 refine r_step rfl rfl ?_
      refine r_i_ne (fun q => absurd b q) (fun _ => ?_)
      refine r_step rfl rfl ?_
      refine r_getr rfl (rv_0_7 hL) ?_
      refine r_getr rfl (rv_46_3 hL) ?_
      iterate 5 refine r_step rfl rfl ?_
      refine r_call rfl rfl a ?_
      refine r_iast0 rfl k (ti (by omega)) ⟨⟨by decide, by decide⟩, by show k < 6; omega⟩ ?_
      iterate 4 refine r_step rfl rfl ?_
      refine r_call rfl rfl eal ?_
      refine r_call rfl rfl (e_max _ _ _) ?_
      rw [jmax_n (by have := mC_le p (fun j => sAf st w 10 (nI wd) (nI j)) k; omega) (by have := cU_le p (fun j => sAf st w 10 (nI wd) (nI j)) k (k + 1); omega)]
      iterate 3 refine r_step rfl rfl ?_
      show Rn hc_X9_mostAlike 5 [some (.inr (some (9, 0))), some (.inl p), some (.inl (nI wd)), some (.inl (nI (max (mC p (fun j => sAf st w 10 (nI wd) (nI j)) k) (cU p (fun j => sAf st w 10 (nI wd) (nI j)) k (k + 1))))), some (.inl (nI k + 1))] [] _ _
      rw [nI_s1]
      exact b1
    · obtain ⟨T', b1, b2⟩ := ih (k + 1) T (by omega) h (fun j hj hb => by
        by_cases e : j = k
        · rw [e] at hb; exact absurd hb b
        · exact hf j (by omega) hb)
      rw [mC_s, if_neg b] at b1
      refine ⟨T', ?_, b2⟩
      iterate 3 refine r_step rfl rfl ?_
      refine r_i_gt (fun q => absurd q (ngt_lit (N := 5) rfl (by decide) (by omega))) (fun _ => ?_)
      iterate 7 refine r_step rfl rfl ?_
      refine r_i_ne (fun _ => ?_) (fun q => absurd q b)
      iterate 2 refine r_step rfl rfl ?_
      show Rn hc_X9_mostAlike 5 [some (.inr (some (9, 0))), some (.inl p), some (.inl (nI wd)), some (.inl (nI (mC p (fun j => sAf st w 10 (nI wd) (nI j)) k))), some (.inl (nI k + 1))] [] _ _
      rw [nI_s1]
      exact b1
theorem e_mostAlike {st w d : Nat → Int32} {z : Nat} (o : okW st w d z) (p : Int32) (wd : Nat) (hw : wd ≤ 40) (T : hS) (h : cCx st w d z T) : ∃ T', Ev 143 [.inr (some (9, 0)), .inl p, .inl (nI wd)] T (some (nI (mC p (fun j => sAf st w 10 (nI wd) (nI j)) 6)), T') ∧ hFr T T' (fun p => p = 50 ∨ p = 56) := by
  obtain ⟨T', a, b⟩ := ma_l o p wd hw 6 0 T (by omega) h (fun j hj => absurd hj (by omega))
  refine ⟨T', ?_, b⟩
  show Rn hc_X9_mostAlike 0 [some (.inr (some (9, 0))), some (.inl p), some (.inl (nI wd)), none, none] [] T _
  iterate 4 refine r_step rfl rfl ?_
  exact a
