/-! The model's items. -/
theorem let_nf {x : Int32} {k : Nat} (hk : k ≤ 5) (h : sOf x = nI k) : mIn x 48 57 = 0 := by
  by_cases c : mIn x 48 57 = 0
  · exact c
  · have e := (fig_s c).1
    rw [h] at e
    exact absurd (congrArg Int32.toInt e) (by rw [ti (by omega), show (-1 : Int32).toInt = -1 from rfl]; omega)
theorem ri_A {b : Nat → Int32} {n p : Nat} {U : hS} (h : mT b n U) (hp : p < n) (hs : nSt b n p U) (hf : U.2.1 57 13 = -9) (hb : sOf (b p) = -1 ∨ ∃ k, k ≤ 5 ∧ sOf (b p) = nI k ∧ ¬ gdL (U.2.1 57 15) k) : Ev 133 [.inr (some (10, 57))] U (none, hPut U 57 13 (nI p)) := by
  obtain ⟨s1, s2, s3, s4⟩ := hs
  have h80 := h.2.1
  have out : ∀ l1, Rn hc_X10_readsItem 39 [some (.inr (some (10, 57))), l1, none] [.inr (some (10, 57))] U (none, hPut U 57 13 (nI p)) := by
    intro l1
    refine r_step rfl rfl ?_
    refine r_callv rfl rfl (e_must0 p (by omega) s1 hf) ?_
    iterate 4 refine r_step rfl rfl ?_
    rw [hPut_at, pk_us]
    refine r_i_ne (fun _ => ?_) (fun q => absurd q (nI_n9 (by omega)))
    exact ri_end p (by omega) (by rw [hPut_at, pk_us]) _ _
  show Rn hc_X10_readsItem 0 [some (.inr (some (10, 57))), none, none] [] U _
  iterate 2 refine r_step rfl rfl ?_
  rw [s2]
  refine r_call rfl rfl (e_whichOf _ _) ?_
  rw [tk_w hp]
  iterate 5 refine r_step rfl rfl ?_
  rcases hb with e | ⟨k, hk, e, g⟩
  · exact r_i_eq (fun _ => out _) (fun q => absurd (wOf_9.2 e) q)
  · rw [wOf_k hk e]
    refine r_i_eq (fun q => absurd q (nI_n9 (by omega))) (fun _ => ?_)
    iterate 2 refine r_step rfl rfl ?_
    refine r_call rfl rfl (e_isToldM k U) ?_
    refine r_step rfl rfl ?_
    refine r_i_ne (fun _ => out _) (fun q => ?_)
    have nb := b01_z.1 q
    iterate 2 refine r_step rfl rfl ?_
    refine r_i_ne (fun q => absurd ⟨nb, fun w => q (by rw [w.1]; rfl)⟩ g) (fun q => ?_)
    have k0 : k = 0 := (nI_eq (by omega) (by decide)).1 (show nI k = nI 0 from q)
    iterate 2 refine r_step rfl rfl ?_
    refine r_call rfl rfl (e_isToldM 1 U) ?_
    refine r_step rfl rfl ?_
    exact r_i_ne (fun _ => out _) (fun q => absurd ⟨nb, fun w => (b01_z.1 q) w.2⟩ g)
/-- the letter is passed by -/
theorem ri_let {b : Nat → Int32} {n p k : Nat} {U : hS} (h : mT b n U) (hp : p < n) (hs : nSt b n p U) (hf : U.2.1 57 13 = -9) (hk : k ≤ 5) (e : sOf (b p) = nI k) (g : gdL (U.2.1 57 15) k) : ∃ V, mFr U V ∧ nSt b n (bl b (n - (p + 1)) (p + 1)) V ∧ (∀ o, Rn hc_X10_readsItem 57 [some (.inr (some (10, 57))), some (.inl (nI k)), some (.inl (V.2.1 57 12))] [] V o → Ev 133 [.inr (some (10, 57))] U o) := by
  obtain ⟨s1, s2, s3, s4⟩ := hs
  have h80 := h.2.1
  have tE : tkE b n p = p + 1 := if_pos (let_nf hk e)
  obtain ⟨V, a, f, s⟩ := e_must1 h (p + 1) (by omega) (by rw [s3 hp, tE]) hf
  refine ⟨V, f, s, fun o q => ?_⟩
  have go : Rn hc_X10_readsItem 35 [some (.inr (some (10, 57))), some (.inl (nI k)), none] [.inr (some (10, 57))] U o := by
    iterate 2 refine r_step rfl rfl ?_
    refine r_callv rfl rfl a ?_
    iterate 4 refine r_step rfl rfl ?_
    rw [f.2 13 (by omega), hf]
    refine r_i_ne (fun q => absurd rfl q) (fun _ => ?_)
    iterate 3 refine r_step rfl rfl ?_
    exact q
  show Rn hc_X10_readsItem 0 [some (.inr (some (10, 57))), none, none] [] U _
  iterate 2 refine r_step rfl rfl ?_
  rw [s2]
  refine r_call rfl rfl (e_whichOf _ _) ?_
  rw [tk_w hp, wOf_k hk e]
  iterate 5 refine r_step rfl rfl ?_
  refine r_i_eq (fun q => absurd q (nI_n9 (by omega))) (fun _ => ?_)
  iterate 2 refine r_step rfl rfl ?_
  refine r_call rfl rfl (e_isToldM k U) ?_
  rw [b01_z.2 g.1]
  iterate 2 refine r_step rfl rfl ?_
  refine r_step rfl rfl ?_
  refine r_i_ne (fun _ => go) (fun q => ?_)
  have k0 : k = 0 := (nI_eq (by omega) (by decide)).1 (show nI k = nI 0 from q)
  iterate 2 refine r_step rfl rfl ?_
  refine r_call rfl rfl (e_isToldM 1 U) ?_
  rw [b01_z.2 (fun w => g.2 ⟨k0, w⟩)]
  refine r_step rfl rfl ?_
  exact go
def stF (V : hS) (k : Nat) (v : Int32) : hS := hPut (hPut (hPut V 65 k v) 65 1 (if k = 0 then v + 30 else upd (V.2.1 65) k v 1)) 57 15 (tlK (V.2.1 57 15) k)
theorem stF_f (V : hS) (k : Nat) (v : Int32) : mF2 V (stF V k v) := ((mF2.put65 V k v).trans (mF2.put65 _ 1 _)).trans (mF2.put _ 15 _ (by omega))
theorem stF_57 (V : hS) (k : Nat) (v : Int32) (j : Nat) (hj : j ≠ 15) : (stF V k v).2.1 57 j = V.2.1 57 j := by
  unfold stF
  rw [hPut_at, pk_un hj, hPut_ne (by decide), hPut_ne (by decide)]
theorem stF_15 (V : hS) (k : Nat) (v : Int32) : (stF V k v).2.1 57 15 = tlK (V.2.1 57 15) k := by
  unfold stF
  rw [hPut_at, pk_us]
theorem stF_65 (V : hS) (k : Nat) (v : Int32) : (stF V k v).2.1 65 = upd (upd (V.2.1 65) k v) 1 (if k = 0 then v + 30 else upd (V.2.1 65) k v 1) := by
  unfold stF
  rw [hPut_ne (by decide), hPut_at, hPut_at]
theorem ri_store (k : Nat) (hk : k ≤ 5) (v : Int32) (V : hS) (hL : hLay V) (o : Option Int32 × hS) (q : Rn hc_X10_readsItem 132 [some (.inr (some (10, 57))), some (.inl (nI k)), some (.inl v)] [] (stF V k v) o) : Rn hc_X10_readsItem 90 [some (.inr (some (10, 57))), some (.inl (nI k)), some (.inl v)] [] V o := by
  refine r_step rfl rfl ?_
  refine r_getr rfl (rv_57_14 hL) ?_
  iterate 2 refine r_step rfl rfl ?_
  refine r_iast0 rfl k (ti (by omega)) ⟨⟨by decide, by decide⟩, by show k < 6; omega⟩ ?_
  have hL1 : hLay (hPut V 65 k v) := hL.put _ _ _
  refine r_step rfl rfl ?_
  refine r_getr rfl (rv_57_14 hL1) ?_
  have fin : ∀ x : Int32, x = (if k = 0 then v + 30 else upd (V.2.1 65) k v 1) → Rn hc_X10_readsItem 119 [some (.inr (some (10, 57))), some (.inl (nI k)), some (.inl v)] [.inl x, .inl 1, .inr (some (10006, 65))] (hPut V 65 k v) o := by
    intro x e
    rw [e]
    refine r_iast0 rfl 1 rfl ⟨⟨by decide, by decide⟩, by decide⟩ ?_
    iterate 8 refine r_step rfl rfl ?_
    rw [hPut_ne (show 57 ≠ 65 by decide), hPut_ne (show 57 ≠ 65 by decide)]
    exact q
  iterate 3 refine r_step rfl rfl ?_
  by_cases c : k = 0
  · refine r_i_ne (fun q => absurd (by rw [c]; rfl) q) (fun _ => ?_)
    iterate 4 refine r_step rfl rfl ?_
    exact fin _ (by rw [if_pos c])
  · refine r_i_ne (fun _ => ?_) (fun q => absurd ((nI_eq (by omega) (by decide)).1 (show nI k = nI 0 from q)) c)
    refine r_step rfl rfl ?_
    refine r_getr rfl (rv_57_14 hL1) ?_
    refine r_step rfl rfl ?_
    refine r_iald rfl 1 rfl ⟨⟨by decide, by decide⟩, by decide⟩ ?_
    exact fin _ (by rw [if_neg c, hPut_at])
/-- the number is no good -/
theorem ri_B {b : Nat → Int32} {n p k : Nat} {V : hS} (h : mT b n V) (hp : p ≤ n) (hs : nSt b n p V) (hf : V.2.1 57 13 = -9) (hk : k ≤ 5) (hb : p < n → okN b n p → mIn (nI (mv b p (nL b n p))) (rLo (V.2.1 65) k) (rHi k) = 0) : ∃ U', mF2 V U' ∧ U'.2.1 57 13 = nI p ∧ Rn hc_X10_readsItem 57 [some (.inr (some (10, 57))), some (.inl (nI k)), some (.inl (V.2.1 57 12))] [] V (none, U') := by
  obtain ⟨s1, s2, s3, s4⟩ := hs
  have h80 := h.2.1
  have hL := h.1
  have fP : mF2 V (hPut V 57 13 (nI p)) := mF2.put V 13 (nI p) (by omega)
  refine ⟨stF (hPut V 57 13 (nI p)) k (V.2.1 57 12), fP.trans (stF_f _ _ _), ?_, ?_⟩
  · rw [stF_57 _ _ _ 13 (by decide), hPut_at, pk_us]
  have out : Rn hc_X10_readsItem 86 [some (.inr (some (10, 57))), some (.inl (nI k)), some (.inl (V.2.1 57 12))] [.inr (some (10, 57))] V (none, stF (hPut V 57 13 (nI p)) k (V.2.1 57 12)) := by
    refine r_step rfl rfl ?_
    refine r_callv rfl rfl (e_must0 p (by omega) s1 hf) ?_
    refine ri_store k hk _ _ (hL.put _ _ _) _ ?_
    exact ri_end p (by omega) (by rw [stF_57 _ _ _ 13 (by decide), hPut_at, pk_us]) _ _
  iterate 5 refine r_step rfl rfl ?_
  rw [s2]
  refine r_i_ne (fun _ => out) (fun q => ?_)
  have pn : p < n := by
    by_cases c : p = n
    · rw [c, tk_n] at q; exact absurd q (by decide)
    · omega
  have ok := (tk_one pn).1 q
  have hm := hb pn ok
  rw [← s4 pn ok.1] at hm
  iterate 3 refine r_step rfl rfl ?_
  refine r_call rfl rfl (e_leastOf k hk V hL) ?_
  refine r_step rfl rfl ?_
  refine r_call rfl rfl (e_mostOf k hk V) ?_
  refine r_call rfl rfl (e_in _ _ _ _) ?_
  rw [hm]
  refine r_step rfl rfl ?_
  exact out
/-- the number is passed by -/
theorem ri_num {b : Nat → Int32} {n p k : Nat} {V : hS} (h : mT b n V) (pn : p < n) (hs : nSt b n p V) (hf : V.2.1 57 13 = -9) (hk : k ≤ 5) (ok : okN b n p) (hm : mIn (nI (mv b p (nL b n p))) (rLo (V.2.1 65) k) (rHi k) = 1) : ∃ W, mFr V W ∧ nSt b n (bl b (n - tkE b n p) (tkE b n p)) W ∧ (∀ o, Rn hc_X10_readsItem 132 [some (.inr (some (10, 57))), some (.inl (nI k)), some (.inl (nI (mv b p (nL b n p))))] [] (stF W k (nI (mv b p (nL b n p)))) o → Rn hc_X10_readsItem 57 [some (.inr (some (10, 57))), some (.inl (nI k)), some (.inl (V.2.1 57 12))] [] V o) := by
  obtain ⟨s1, s2, s3, s4⟩ := hs
  have h80 := h.2.1
  have hL := h.1
  have tl := tkE_le (b := b) pn
  obtain ⟨W, a, f, s⟩ := e_must1 h (tkE b n p) tl.2 (s3 pn) hf
  refine ⟨W, f, s, fun o q => ?_⟩
  iterate 5 refine r_step rfl rfl ?_
  rw [s2, s4 pn ok.1]
  refine r_i_ne (fun q => absurd ((tk_one pn).2 ok) q) (fun _ => ?_)
  iterate 3 refine r_step rfl rfl ?_
  refine r_call rfl rfl (e_leastOf k hk V hL) ?_
  refine r_step rfl rfl ?_
  refine r_call rfl rfl (e_mostOf k hk V) ?_
  refine r_call rfl rfl (e_in _ _ _ _) ?_
  rw [hm]
  iterate 3 refine r_step rfl rfl ?_
  refine r_callv rfl rfl a ?_
  exact ri_store k hk _ W (hL.fr f.1) o q
/-- the end is no good -/
theorem ri_C {b : Nat → Int32} {n p : Nat} {V : hS} (h : mT b n V) (hp : p ≤ n) (hs : nSt b n p V) (hf : V.2.1 57 13 = -9) (l1 l2 : Option hV) (hb : p < n → ¬ b p = 59) : Rn hc_X10_readsItem 132 [some (.inr (some (10, 57))), l1, l2] [] V (none, hPut V 57 13 (nI p)) := by
  obtain ⟨s1, s2, s3, s4⟩ := hs
  have h80 := h.2.1
  iterate 5 refine r_step rfl rfl ?_
  rw [s2]
  have ne : ¬ tk b n p = 59 := by
    by_cases c : p = n
    · rw [c, tk_n]; decide
    · exact fun q => hb (by omega) ((tk_59 (by omega)).1 q)
  refine r_i_ne (fun _ => ?_) (fun q => absurd q ne)
  refine r_step rfl rfl ?_
  refine r_callv rfl rfl (e_must0 p (by omega) s1 hf) ?_
  exact r_retn rfl rfl
theorem ri_D {b : Nat → Int32} {n p : Nat} {V : hS} (h : mT b n V) (pn : p < n) (hs : nSt b n p V) (hf : V.2.1 57 13 = -9) (l1 l2 : Option hV) (hb : b p = 59) : ∃ W, mFr V W ∧ nSt b n (bl b (n - (p + 1)) (p + 1)) W ∧ Rn hc_X10_readsItem 132 [some (.inr (some (10, 57))), l1, l2] [] V (none, W) := by
  obtain ⟨s1, s2, s3, s4⟩ := hs
  have tE : tkE b n p = p + 1 := by
    unfold tkE
    rw [hb]
    exact if_pos (by decide)
  obtain ⟨W, a, f, s⟩ := e_must1 h (p + 1) (by omega) (by rw [s3 pn, tE]) hf
  refine ⟨W, f, s, ?_⟩
  iterate 5 refine r_step rfl rfl ?_
  rw [s2]
  refine r_i_ne (fun q => absurd ((tk_59 pn).2 hb) q) (fun _ => ?_)
  iterate 2 refine r_step rfl rfl ?_
  refine r_callv rfl rfl a ?_
  exact r_retn rfl rfl
