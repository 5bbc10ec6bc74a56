/-! ask, all of it. -/
def us (x n : Int32) : Int32 := (x.toUInt32 >>> (n.toUInt32 &&& Int32.toUInt32 31)).toInt32
def bc1 (x : Int32) : Int32 := x - (us x 1 &&& 1431655765)
def bc2 (x : Int32) : Int32 := (x &&& 858993459) + (us x 2 &&& 858993459)
def bc3 (x : Int32) : Int32 := (x + us x 4) &&& 252645135
def bc4 (x : Int32) : Int32 := x + us x 8
def bc5 (x : Int32) : Int32 := x + us x 16
def jbc (x : Int32) : Int32 := bc5 (bc4 (bc3 (bc2 (bc1 x)))) &&& 63
theorem e_bitCount (x : Int32) (S : hS) : Ev 0 [.inl x] S (some (jbc x), S) := by
  show Rn hc_J6_bitCount_0f7a4 0 [some (.inl x)] [] S _
  iterate 8 refine r_step rfl rfl ?_
  show Rn hc_J6_bitCount_0f7a4 10 [some (.inl (bc1 x))] [] S _
  generalize e1 : bc1 x = x1
  iterate 10 refine r_step rfl rfl ?_
  show Rn hc_J6_bitCount_0f7a4 24 [some (.inl (bc2 x1))] [] S _
  generalize e2 : bc2 x1 = x2
  iterate 8 refine r_step rfl rfl ?_
  show Rn hc_J6_bitCount_0f7a4 34 [some (.inl (bc3 x2))] [] S _
  generalize e3 : bc3 x2 = x3
  iterate 6 refine r_step rfl rfl ?_
  show Rn hc_J6_bitCount_0f7a4 41 [some (.inl (bc4 x3))] [] S _
  generalize e4 : bc4 x3 = x4
  iterate 6 refine r_step rfl rfl ?_
  show Rn hc_J6_bitCount_0f7a4 48 [some (.inl (bc5 x4))] [] S _
  generalize e5 : bc5 x4 = x5
  iterate 3 refine r_step rfl rfl ?_
  refine r_reti rfl ?_ rfl
  unfold jbc
  rw [e1, e2, e3, e4, e5]
def bcN (p : Int32) : Nat → Int32
  | 0 => 0
  | n + 1 => bcN p n + bit p n
theorem bc_eq : ∀ m, m < 64 → (1 < jbc (nI m) ↔ 1 < bcN (nI m) 6) := by decide +kernel
def asS (M : Nat → Int32) : Nat → Int32 × Int32
  | 0 => (-9, 7)
  | k + 1 => if M k < (asS M k).2 then (nI k, M k) else asS M k
theorem asS_s (M : Nat → Int32) (k : Nat) : asS M (k + 1) = if M k < (asS M k).2 then (nI k, M k) else asS M k := rfl
theorem asS_c {M N : Nat → Int32} : ∀ n, (∀ k, k < n → M k = N k) → asS M n = asS N n
  | 0, _ => rfl
  | n + 1, h => by rw [asS_s, asS_s, asS_c n (fun k hk => h k (by omega)), h n (by omega)]
/-- how many are alike by a wind -/
def alk (st w : Nat → Int32) (p : Int32) (wd : Nat) : Int32 := nI (mC p (fun j => sAf st w 10 (nI wd) (nI j)) 6)
theorem as_c {st w d : Nat → Int32} {z : Nat} (o : okW st w d z) (p : Int32) : ∀ (c k : Nat) (l5 : Option hV) (T : hS), k + c = 41 → cCx st w d z T → ∃ T', Rn hc_X9_ask 25 [some (.inr (some (9, 0))), some (.inl p), some (.inl (asS (alk st w p) k).1), some (.inl (asS (alk st w p) k).2), some (.inl (nI k)), l5] [] T (some (asS (alk st w p) 41).1, T') ∧ hFr T T' (fun p => p = 50 ∨ p = 56) := by
  intro c
  induction c with
  | zero =>
    intro k l5 T hk h
    have : k = 41 := by omega
    subst this
    refine ⟨T, ?_, hFr.rf _ _⟩
    iterate 3 refine r_step rfl rfl ?_
    refine r_i_gt (fun _ => ?_) (fun q => absurd (show (40 : Int32) < nI 41 by decide) q)
    refine r_step rfl rfl ?_
    exact r_reti rfl rfl rfl
  | succ c ih =>
    intro k l5 T hk h
    obtain ⟨T1, a1, a2⟩ := e_mostAlike o p k (by omega) T h
    obtain ⟨T', b1, b2⟩ := ih (k + 1) (some (.inl (alk st w p k))) T1 (by omega) (h.fr a2)
    rw [asS_s] at b1
    refine ⟨T', ?_, a2.trans b2⟩
    iterate 3 refine r_step rfl rfl ?_
    refine r_i_gt (fun q => absurd q (ngt_lit (N := 40) rfl (by decide) (by omega))) (fun _ => ?_)
    iterate 3 refine r_step rfl rfl ?_
    refine r_call rfl rfl a1 ?_
    show Rn hc_X9_ask 39 [some (.inr (some (9, 0))), some (.inl p), some (.inl (asS (alk st w p) k).1), some (.inl (asS (alk st w p) k).2), some (.inl (nI k)), l5] [.inl (alk st w p k)] T1 _
    iterate 4 refine r_step rfl rfl ?_
    by_cases e : alk st w p k < (asS (alk st w p) k).2
    · rw [if_pos e] at b1
      refine r_i_ge (fun q => absurd e (by rw [i_lt]; rw [i_le] at q; omega)) (fun _ => ?_)
      iterate 6 refine r_step rfl rfl ?_
      show Rn hc_X9_ask 25 [some (.inr (some (9, 0))), some (.inl p), some (.inl (nI k)), some (.inl (alk st w p k)), some (.inl (nI k + 1)), some (.inl (alk st w p k))] [] _ _
      rw [nI_s1]
      exact b1
    · rw [if_neg e] at b1
      refine r_i_ge (fun _ => ?_) (fun q => absurd q (fun q => q (by rw [i_le]; rw [i_lt] at e; omega)))
      iterate 2 refine r_step rfl rfl ?_
      show Rn hc_X9_ask 25 [some (.inr (some (9, 0))), some (.inl p), some (.inl (asS (alk st w p) k).1), some (.inl (asS (alk st w p) k).2), some (.inl (nI k + 1)), some (.inl (alk st w p k))] [] _ _
      rw [nI_s1]
      exact b1
theorem as_m {st w d : Nat → Int32} {z : Nat} (o : okW st w d z) (p n : Int32) (hn : ¬ n ≤ 1) : ∀ (c k : Nat) (l6 : Option hV) (T : hS), k + c = 41 → mCx st w d z T → ∃ T', Rn hc_X10_ask 39 [some (.inr (some (10, 57))), some (.inl p), some (.inl n), some (.inl (asS (alk st w p) k).1), some (.inl (asS (alk st w p) k).2), some (.inl (nI k)), l6] [] T (some (asS (alk st w p) 41).1, T') ∧ hFr T T' (fun p => p = 59 ∨ p = 71) := by
  intro c
  induction c with
  | zero =>
    intro k l5 T hk h
    have : k = 41 := by omega
    subst this
    refine ⟨T, ?_, hFr.rf _ _⟩
    iterate 3 refine r_step rfl rfl ?_
    refine r_i_gt (fun _ => ?_) (fun q => absurd (show (40 : Int32) < nI 41 by decide) q)
    refine r_step rfl rfl ?_
    exact r_reti rfl rfl rfl
  | succ c ih =>
    intro k l5 T hk h
    obtain ⟨T1, a1, a2⟩ := e_mmostAlike o p k (by omega) T h
    rw [← alike_eq] at a1
    obtain ⟨T', b1, b2⟩ := ih (k + 1) (some (.inl (alk st w p k))) T1 (by omega) (h.fr a2)
    rw [asS_s] at b1
    refine ⟨T', ?_, a2.trans b2⟩
    iterate 3 refine r_step rfl rfl ?_
    refine r_i_gt (fun q => absurd q (ngt_lit (N := 40) rfl (by decide) (by omega))) (fun _ => ?_)
    iterate 3 refine r_step rfl rfl ?_
    refine r_i_le (fun q => absurd q hn) (fun _ => ?_)
    iterate 3 refine r_step rfl rfl ?_
    refine r_call rfl rfl a1 ?_
    show Rn hc_X10_ask 58 [some (.inr (some (10, 57))), some (.inl p), some (.inl n), some (.inl (asS (alk st w p) k).1), some (.inl (asS (alk st w p) k).2), some (.inl (nI k)), l5] [.inl (alk st w p k)] T1 _
    iterate 4 refine r_step rfl rfl ?_
    by_cases e : alk st w p k < (asS (alk st w p) k).2
    · have e' : ¬ (asS (alk st w p) k).2 ≤ alk st w p k := by rw [i_le]; rw [i_lt] at e; omega
      rw [if_pos e] at b1
      refine r_i_ge (fun q => absurd q e') (fun _ => ?_)
      iterate 6 refine r_step rfl rfl ?_
      refine r_i_ge (fun q => absurd q e') (fun _ => ?_)
      iterate 5 refine r_step rfl rfl ?_
      show Rn hc_X10_ask 39 [some (.inr (some (10, 57))), some (.inl p), some (.inl n), some (.inl (nI k)), some (.inl (alk st w p k)), some (.inl (nI k + 1)), some (.inl (alk st w p k))] [] _ _
      rw [nI_s1]
      exact b1
    · have e' : (asS (alk st w p) k).2 ≤ alk st w p k := by rw [i_le]; rw [i_lt] at e; omega
      rw [if_neg e] at b1
      refine r_i_ge (fun _ => ?_) (fun q => absurd e' q)
      iterate 5 refine r_step rfl rfl ?_
      refine r_i_ge (fun _ => ?_) (fun q => absurd e' q)
      iterate 4 refine r_step rfl rfl ?_
      show Rn hc_X10_ask 39 [some (.inr (some (10, 57))), some (.inl p), some (.inl n), some (.inl (asS (alk st w p) k).1), some (.inl (asS (alk st w p) k).2), some (.inl (nI k + 1)), some (.inl (alk st w p k))] [] _ _
      rw [nI_s1]
      exact b1
theorem ac_l (p : Int32) (T : hS) (o : Option Int32 × hS) (l4 l5 l6 : Option hV) : ∀ (c k : Nat), k + c = 6 → Rn hc_X10_ask 29 [some (.inr (some (10, 57))), some (.inl p), some (.inl (bcN p 6)), some (.inl (nI 6)), l4, l5, l6] [] T o → Rn hc_X10_ask 9 [some (.inr (some (10, 57))), some (.inl p), some (.inl (bcN p k)), some (.inl (nI k)), l4, l5, l6] [] T o := by
  intro c
  induction c with
  | zero =>
    intro k hk q
    have : k = 6 := by omega
    subst this
    iterate 3 refine r_step rfl rfl ?_
    exact r_i_ge (fun _ => q) (fun q => absurd (show (6 : Int32) ≤ nI 6 by decide) q)
  | succ c ih =>
    intro k hk q
    have ihk := ih (k + 1) (by omega) q
    iterate 3 refine r_step rfl rfl ?_
    refine r_i_ge (fun q => absurd q (lt_lit (N := 6) rfl (by decide) (by omega))) (fun _ => ?_)
    iterate 10 refine r_step rfl rfl ?_
    show Rn hc_X10_ask 9 [some (.inr (some (10, 57))), some (.inl p), some (.inl (bcN p k + bit p k)), some (.inl (nI k + 1)), l4, l5, l6] [] _ _
    rw [nI_s1]
    exact ihk
theorem a_ask {S : hS} (h : Rel S) : Alk 160 163 [] S := by
  obtain ⟨z, o1, o2, c1, c2, e16, es⟩ := ctx h
  obtain ⟨u, a⟩ := e_possible o1 S c1
  have f : hFr S (hRow S 56 u) (fun p => p = 50 ∨ p = 56) := hFr_row _ _ _ (Or.inr rfl)
  rw [pI_c 6 (fun i _ => aI_c es e16 (S.2.1 70) z i)] at a
  obtain ⟨m, hm, em⟩ := pI_n (aI (S.2.1 63) (S.2.1 58) (S.2.1 70) z) 6 (by omega)
  have mod : ∀ T, mCx (S.2.1 63) (S.2.1 58) (S.2.1 70) z T → ∃ T1, hFr T T1 (fun p => p = 59 ∨ p = 71) ∧ (∀ o, Rn hc_X10_ask 39 [some (.inr (some (10, 57))), some (.inl (nI m)), some (.inl (bcN (nI m) 6)), some (.inl (-9)), some (.inl 7), some (.inl (nI 0)), none] [] T1 o → Ev 163 [.inr (some (10, 57))] T o) := by
    intro T hT
    obtain ⟨w', b⟩ := e_mwhich o2 T hT
    rw [em] at b
    refine ⟨hRow T 59 w', hFr_row _ _ _ (Or.inl rfl), fun o q => ?_⟩
    show Rn hc_X10_ask 0 [some (.inr (some (10, 57))), none, none, none, none, none, none] [] T _
    refine r_step rfl rfl ?_
    refine r_call rfl rfl b ?_
    iterate 5 refine r_step rfl rfl ?_
    refine ac_l (nI m) _ o none none none 6 0 (by omega) ?_
    iterate 6 refine r_step rfl rfl ?_
    exact q
  rw [em] at a
  have startC : ∀ o, Rn hc_X9_ask 10 [some (.inr (some (9, 0))), some (.inl (nI m)), none, none, none, none] [.inl 1, .inl (jbc (nI m))] (hRow S 56 u) o → Ev 160 [.inr (some (9, 0))] S o := by
    intro o q
    show Rn hc_X9_ask 0 [some (.inr (some (9, 0))), none, none, none, none, none] [] S _
    refine r_step rfl rfl ?_
    refine r_call rfl rfl a ?_
    iterate 2 refine r_step rfl rfl ?_
    refine r_call rfl rfl (e_bitCount _ _) ?_
    refine r_step rfl rfl ?_
    exact q
  have bq := bc_eq m hm
  by_cases c : 1 < jbc (nI m)
  · have cm : ¬ bcN (nI m) 6 ≤ 1 := by have q := bq.1 c; rw [i_le]; rw [i_lt] at q; omega
    obtain ⟨T1, a1, a2⟩ := as_c o1 (nI m) 41 0 none (hRow S 56 u) (by omega) (c1.fr f)
    obtain ⟨T2, b1, b2⟩ := mod T1 ((c2.sh f).sh a2)
    obtain ⟨T3, d1, d2⟩ := as_m o2 (nI m) (bcN (nI m) 6) cm 41 0 none T2 (by omega) (((c2.sh f).sh a2).fr b1)
    rw [asS_c 41 (fun k _ => show alk (S.2.1 1) (S.2.1 7) (nI m) k = alk (S.2.1 63) (S.2.1 58) (nI m) k from congrArg nI (mC_c (nI m) (fun j _ => sAf_c es e16 10 (nI k) (nI j)) 6 (Nat.le_refl _)))] at a1
    refine ⟨_, T1, T3, startC _ ?_, b2 _ d1, ?_⟩
    · refine r_step rfl rfl ?_
      refine r_i_gt (fun _ => ?_) (fun q => absurd c q)
      iterate 6 refine r_step rfl rfl ?_
      rw [asS_c 0 (N := alk (S.2.1 63) (S.2.1 58) (nI m)) (fun k hk => absurd hk (by omega))] at a1
      exact a1
    · have g1 : hFr S T1 (fun p => p = 50 ∨ p = 56) := f.trans a2
      have g2 : hFr T1 T3 (fun p => p = 59 ∨ p = 71) := b1.trans d2
      refine rel_scr h ((g1.mono (fun p hp => by unfold pScr; omega)).trans (g2.mono (fun p hp => by unfold pScr; omega))) ?_ ?_ ?_ <;> rw [g2.2.2 57 (by decide), g1.2.2 57 (by decide)]
  · have cm : bcN (nI m) 6 ≤ 1 := by
      have q : ¬ 1 < bcN (nI m) 6 := fun w => c (bq.2 w)
      rw [i_le]; rw [i_lt] at q; omega
    obtain ⟨T2, b1, b2⟩ := mod (hRow S 56 u) (c2.sh f)
    refine ⟨-9, hRow S 56 u, T2, startC _ ?_, b2 _ ?_, ?_⟩
    · refine r_step rfl rfl ?_
      refine r_i_gt (fun q => absurd q c) (fun _ => ?_)
      refine r_step rfl rfl ?_
      exact r_reti rfl rfl rfl
    · iterate 3 refine r_step rfl rfl ?_
      refine r_i_gt (fun q => absurd q (by decide)) (fun _ => ?_)
      iterate 3 refine r_step rfl rfl ?_
      refine r_i_le (fun _ => ?_) (fun q => absurd cm q)
      refine r_step rfl rfl ?_
      exact r_reti rfl rfl rfl
    · refine rel_scr h ((f.mono (fun p hp => by unfold pScr; omega)).trans (b1.mono (fun p hp => by unfold pScr; omega))) ?_ ?_ ?_ <;> rw [b1.2.2 57 (by decide), f.2.2 57 (by decide)]
