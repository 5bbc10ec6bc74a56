/-! The class pours. -/
def po (t : Nat → Int32) : Nat → List Int32 × Nat × List (Nat × Nat)
  | 0 => ([], 0, [])
  | i + 1 => cl 40 (t i :: (po t i).1) (po t i).2.1 (po t i).2.2
theorem po_s (t : Nat → Int32) (i : Nat) : po t (i + 1) = cl 40 (t i :: (po t i).1) (po t i).2.1 (po t i).2.2 := rfl
theorem po_c {t v : Nat → Int32} : ∀ n, (∀ i, i < n → t i = v i) → po t n = po v n
  | 0, _ => rfl
  | n + 1, h => by rw [po_s, po_s, po_c n (fun i hi => h i (by omega)), h n (by omega)]
theorem gd_push {i : Nat} {z : List Int32 × Nat × List (Nat × Nat)} {x : Int32} (h : gd i z) (hx : bt x 0 999) : gd (i + 1) (x :: z.1, z.2.1, z.2.2) := by
  obtain ⟨a, b, d, e, f⟩ := h
  refine ⟨fun y hy => ?_, ?_, d, e, f⟩
  · rcases List.mem_cons.1 hy with rfl | hy
    · exact hx
    · exact a y hy
  · show z.1.length + 1 + 2 * z.2.1 = i + 1
    omega
theorem gd_po {t : Nat → Int32} : ∀ n, (∀ i, i < n → bt (t i) 0 999) → gd n (po t n)
  | 0, _ => ⟨fun x hx => (nomatch hx), rfl, rfl, fun x hx => (nomatch hx), rfl⟩
  | n + 1, h => by
    rw [po_s]
    exact gd_cl (n + 1) 40 _ _ _ (gd_push (gd_po n (fun i hi => h i (by omega))) (h n (by omega)))
theorem e_addToRow (x : Int32) (i : Nat) (hi : i < 40) (hx : bt x 0 999) (z : List Int32 × Nat × List (Nat × Nat)) (S : hS) (hg : gd i z) (hL : hLay S) (ho : rOk S z) : ∃ S', Ev 106 [.inr (some (2, 51)), .inl x] S (none, S') ∧ hFr S S' (fun p => p = 51 ∨ p = 53 ∨ p = 54 ∨ p = 55) ∧ (∀ j, j ≠ 3 → j ≠ 6 → j ≠ 7 → S'.2.1 51 j = S.2.1 51 j) ∧ rOk S' (cl 40 (x :: z.1) z.2.1 z.2.2) := by
  obtain ⟨o1, o2, o3, o4⟩ := ho
  have hl : z.1.length + 2 * z.2.1 = i := hg.2.1
  have hL1 : hLay (hPut (hPut S 53 z.1.length x) 51 3 (nI (z.1.length + 1))) := (hL.put _ _ _).put _ _ _
  obtain ⟨S', a1, a2, a3, a4⟩ := atr_l x (i + 1) (by omega) 40 (x :: z.1) z.2.1 z.2.2 (hPut (hPut S 53 z.1.length x) 51 3 (nI (z.1.length + 1))) (by show z.1.length + 1 ≤ 40 + 3; omega) (gd_push hg hx) hL1 (by
    refine ⟨?_, ?_, ?_, ?_⟩
    · show rL _ (x :: z.1)
      rw [hPut_ne (by decide), hPut_at]
      exact o1.push
    · rw [hPut_at, pk_us]; rfl
    · rw [hPut_at, pk_un (by decide), hPut_ne (by decide)]; exact o3
    · exact o4.congr (by rw [hPut_at, pk_un (by decide), hPut_ne (by decide)]) (by rw [hPut_ne (by decide), hPut_ne (by decide)]) (by rw [hPut_ne (by decide), hPut_ne (by decide)]))
  refine ⟨S', ?_, ((hFr_put S 53 z.1.length x (Or.inr (Or.inl rfl))).trans (hFr_put _ _ _ _ (Or.inl rfl))).trans a2, fun j h3 h6 h7 => ?_, a4⟩
  · show Rn hc_X2_addToRow 0 [some (.inr (some (2, 51))), some (.inl x)] [] S _
    iterate 4 refine r_step rfl rfl ?_
    rw [o2]
    refine r_i_lt (fun _ => ?_) (fun q => absurd (nI_lt (b := 40) (by omega) (by decide)) q)
    refine r_step rfl rfl ?_
    refine r_getr rfl (rv_51_2 hL) ?_
    iterate 3 refine r_step rfl rfl ?_
    refine r_iast0 rfl z.1.length (by rw [o2]; exact ti (by omega)) ⟨⟨by decide, by decide⟩, by show z.1.length < 40; omega⟩ ?_
    iterate 6 refine r_step rfl rfl ?_
    rw [hPut_ne (show 51 ≠ 53 by decide), o2, nI_s1]
    exact a1
  · rw [a3 j h3 h6 h7, hPut_at, pk_un h3, hPut_ne (by decide)]
theorem pour2 (t : Nat → Int32) (n : Nat) (hn : n ≤ 40) (ht : ∀ i, i < n → bt (t i) 0 999) : ∀ (d i : Nat) (T : hS), i + d = n → hLay T → T.2.1 52 = t → T.2.1 51 1 = nI n → rOk T (po t i) → ∃ T', hFr T T' (fun p => p = 51 ∨ p = 53 ∨ p = 54 ∨ p = 55) ∧ (∀ j, j ≠ 3 → j ≠ 6 → j ≠ 7 → T'.2.1 51 j = T.2.1 51 j) ∧ rOk T' (po t n) ∧ (∀ o, Rn hc_X2_pour 78 [some (.inr (some (2, 51))), some (.inr (some (7, 8))), some (.inl (nI n))] [] T' o → Rn hc_X2_pour 48 [some (.inr (some (2, 51))), some (.inr (some (7, 8))), some (.inl (nI i))] [] T o) := by
  intro d
  induction d with
  | zero =>
    intro i T hi hL h52 h1 ho
    have : i = n := by omega
    subst this
    refine ⟨T, hFr.rf _ _, fun _ _ _ _ => rfl, ho, fun o k => ?_⟩
    iterate 4 refine r_step rfl rfl ?_
    rw [h1]
    exact r_i_ge (fun _ => k) (fun q => absurd (nI_le (Nat.le_refl i) (by omega)) q)
  | succ d ih =>
    intro i T hi hL h52 h1 ho
    obtain ⟨T1, a1, a2, a3, a4⟩ := e_addToRow (t i) i (by omega) (ht i (by omega)) (po t i) T (gd_po i (fun j hj => ht j (by omega))) hL ho
    obtain ⟨T2, b1, b2, b3, b4⟩ := ih (i + 1) T1 (by omega) (hL.fr a2) (by rw [a2.2.2 52 (by decide)]; exact h52) (by rw [a3 1 (by decide) (by decide) (by decide)]; exact h1) a4
    refine ⟨T2, a2.trans b1, fun j h3 h6 h7 => (b2 j h3 h6 h7).trans (a3 j h3 h6 h7), b3, fun o k => ?_⟩
    iterate 4 refine r_step rfl rfl ?_
    rw [h1]
    refine r_i_ge (fun q => absurd q (nI_ge (by omega) (by omega))) (fun _ => ?_)
    iterate 3 refine r_step rfl rfl ?_
    refine r_i_ge (fun q => absurd q (lt_lit (N := 40) rfl (by decide) (by omega))) (fun _ => ?_)
    iterate 2 refine r_step rfl rfl ?_
    refine r_getr rfl (rv_51_0 hL) ?_
    refine r_step rfl rfl ?_
    refine r_iald rfl i (ti (by omega)) ⟨⟨by decide, by decide⟩, by show i < 40; omega⟩ ?_
    rw [h52]
    refine r_callv rfl rfl a1 ?_
    iterate 2 refine r_step rfl rfl ?_
    show Rn hc_X2_pour 48 [some (.inr (some (2, 51))), some (.inr (some (7, 8))), some (.inl (nI i + 1))] [] _ _
    rw [nI_s1]
    exact b4 o k
/-- the halves of what stays on the roof -/
def lg (f : Nat → Int32) (g : List (Nat × Nat)) : Nat → List (Nat × Nat)
  | 0 => g
  | j + 1 => (nab (f (j + 1)) (f j), 1) :: lg f g j
theorem lg_c {f v : Nat → Int32} (g : List (Nat × Nat)) : ∀ m, (∀ i, i ≤ m → f i = v i) → lg f g m = lg v g m
  | 0, _ => rfl
  | m + 1, h => by
    show (nab (f (m + 1)) (f m), 1) :: lg f g m = (nab (v (m + 1)) (v m), 1) :: lg v g m
    rw [lg_c g m (fun i hi => h i (by omega)), h (m + 1) (by omega), h m (by omega)]
theorem lg_len (f : Nat → Int32) (g : List (Nat × Nat)) : ∀ m, (lg f g m).length = g.length + m
  | 0 => rfl
  | m + 1 => by show (lg f g m).length + 1 = _; rw [lg_len f g m]; omega
theorem lg_tw (f : Nat → Int32) (g : List (Nat × Nat)) : ∀ m, tw (lg f g m) = tw g + m
  | 0 => rfl
  | m + 1 => by show 1 + tw (lg f g m) = _; rw [lg_tw f g m]; omega
theorem rL_mem {f : Nat → Int32} : ∀ {R : List Int32}, rL f R → ∀ i, i < R.length → f i ∈ R
  | [], _, i, hi => absurd hi (Nat.not_lt_zero i)
  | x :: R, h, i, hi => by
    have hi2 : i < R.length + 1 := hi
    by_cases c : i = R.length
    · rw [c, h.1]; exact List.mem_cons_self
    · exact List.mem_cons_of_mem _ (rL_mem h.2 i (by omega))
theorem rL_eq {f v : Nat → Int32} : ∀ {R : List Int32}, rL f R → rL v R → ∀ i, i < R.length → f i = v i
  | [], _, _, i, hi => absurd hi (Nat.not_lt_zero i)
  | x :: R, h, k, i, hi => by
    have hi2 : i < R.length + 1 := hi
    by_cases c : i = R.length
    · rw [c, h.1, k.1]
    · exact rL_eq h.2 k.2 i (by omega)
theorem pour3 (f : Nat → Int32) (g : List (Nat × Nat)) (s : Nat) (hf : ∀ i, i < s → bt (f i) 0 999) (hsg : g.length + s ≤ 40) : ∀ (d j : Nat) (T : hS), j + d = s - 1 → hLay T → T.2.1 53 = f → T.2.1 51 3 = nI s → hvC T (lg f g j) → ∃ T', hFr T T' (fun p => p = 51 ∨ p = 54 ∨ p = 55) ∧ (∀ i, i ≠ 6 → T'.2.1 51 i = T.2.1 51 i) ∧ hvC T' (lg f g (s - 1)) ∧ Rn hc_X2_pour 80 [some (.inr (some (2, 51))), some (.inr (some (7, 8))), some (.inl (nI (j + 1)))] [] T (none, T') := by
  intro d
  induction d with
  | zero =>
    intro j T hj hL h53 h3 ho
    have e : j = s - 1 := by omega
    subst e
    refine ⟨T, hFr.rf _ _, fun _ _ => rfl, ho, ?_⟩
    iterate 4 refine r_step rfl rfl ?_
    rw [h3]
    refine r_i_ge (fun _ => r_retn rfl rfl) (fun q => absurd (nI_le (by omega) (by omega)) q)
  | succ d ih =>
    intro j T hj hL h53 h3 ho
    have bA := hf (j + 1) (by omega)
    have bB := hf j (by omega)
    obtain ⟨T1, a1, a2, a3, a4⟩ := e_addHalves (nab (f (j + 1)) (f j)) 1 (nab_lt bA bB) (by decide) T (lg f g j) hL ho (by rw [lg_len]; omega)
    obtain ⟨T2, b1, b2, b3, b4⟩ := ih (j + 1) T1 (by omega) (hL.fr a2) (by rw [a2.2.2 53 (by decide)]; exact h53) (by rw [a3 3 (by decide)]; exact h3) a4
    refine ⟨T2, a2.trans b1, fun i hi => (b2 i hi).trans (a3 i hi), b3, ?_⟩
    iterate 4 refine r_step rfl rfl ?_
    rw [h3]
    refine r_i_ge (fun q => absurd q (nI_ge (by omega) (by omega))) (fun _ => ?_)
    iterate 3 refine r_step rfl rfl ?_
    refine r_i_ge (fun q => absurd q (lt_lit (N := 40) rfl (by decide) (by omega))) (fun _ => ?_)
    iterate 2 refine r_step rfl rfl ?_
    refine r_getr rfl (rv_51_2 hL) ?_
    refine r_step rfl rfl ?_
    refine r_iald rfl (j + 1) (ti (by omega)) ⟨⟨by decide, by decide⟩, by show j + 1 < 40; omega⟩ ?_
    refine r_step rfl rfl ?_
    refine r_getr rfl (rv_51_2 hL) ?_
    iterate 3 refine r_step rfl rfl ?_
    refine r_iald rfl j (by rw [nI_pred]; exact ti (by omega)) ⟨⟨by decide, by decide⟩, by show j < 40; omega⟩ ?_
    refine r_step rfl rfl ?_
    rw [h53]
    refine r_call rfl rfl (e_abs _ _) ?_
    rw [nab_abs bA bB]
    refine r_step rfl rfl ?_
    refine r_callv rfl rfl a1 ?_
    iterate 2 refine r_step rfl rfl ?_
    show Rn hc_X2_pour 80 [some (.inr (some (2, 51))), some (.inr (some (7, 8))), some (.inl (nI (j + 1) + 1))] [] _ _
    rw [nI_s1]
    exact b4
