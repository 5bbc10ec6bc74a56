/-! Both readers read alike. -/
def cSt (b : Nat → Int32) (n : Nat) (told : Int32) (items : Nat) (c : Nat → Int32) (T : hS) : Prop := cT b n T ∧ T.2.1 4 1 = 0 ∧ T.2.1 4 3 = told ∧ T.2.1 4 4 = nI items ∧ T.2.1 5 = c
def mSt (b : Nat → Int32) (n p : Nat) (told : Int32) (c : Nat → Int32) (U : hS) : Prop := mT b n U ∧ nSt b n p U ∧ U.2.1 57 13 = -9 ∧ U.2.1 57 15 = told ∧ mR told c (U.2.1 65)
/-- what comes out: a fault's answer, or the number of items and the new settings -/
def outOk (r : Int32) : Option (Nat → Int32) → Prop
  | none => ∃ f, f ≤ 80 ∧ r = -10 - nI f
  | some f => (∃ i, i ≤ 80 ∧ r = nI i) ∧ okSet f
def cOut (r : Int32) (w : Option (Nat → Int32)) (p t : Nat) (l4 : Option hV) (T : hS) : Prop := ∃ T', hFr T T' (fun p => p = 4 ∨ p = 5) ∧ (∀ f, w = some f → ∀ j, j < 6 → T'.2.1 5 j = f j) ∧ Rn hc_X3_read 30 (rdL p t l4) [] T (some r, T')
def mOut (r : Int32) (w : Option (Nat → Int32)) (items : Nat) (U : hS) : Prop := ∃ U', mF2 U U' ∧ (w = none → Rn hc_X10_tells 21 [some (.inr (some (10, 57))), some (.inl (nI items))] [] U (some r, U')) ∧ (∀ f, w = some f → (∀ j, j < 6 → U'.2.1 65 j = f j) ∧ ∀ o, Rn hc_X10_tells 65 [some (.inr (some (10, 57))), some (.inl r)] [] U' o → Rn hc_X10_tells 21 [some (.inr (some (10, 57))), some (.inl (nI items))] [] U o)
theorem rLo_c {c m : Nat → Int32} (h : m 0 = c 0) (k : Nat) : rLo m k = rLo c k := by
  match k with
  | 0 => rfl
  | 1 => show m 0 + 1 = c 0 + 1; rw [h]
  | 2 => rfl
  | 3 => rfl
  | 4 => rfl
  | n + 5 => rfl
theorem mOut_f {r : Int32} {f items : Nat} {U V : hS} (h : mF2 U V) (hf : f < 2147483648) (e : V.2.1 57 13 = nI f) (er : r = -10 - nI f) (k : ∀ o, Rn hc_X10_tells 21 [some (.inr (some (10, 57))), some (.inl (nI (items + 1)))] [] V o → Rn hc_X10_tells 21 [some (.inr (some (10, 57))), some (.inl (nI items))] [] U o) : mOut r none items U := by
  subst er
  exact ⟨V, h, fun _ => k _ (tl_fault _ f hf V e), fun f hf => (nomatch hf)⟩
theorem nSt.keep {b : Nat → Int32} {n p : Nat} {V W : hS} (h : nSt b n p V) (k : ∀ j, j ≠ 15 → W.2.1 57 j = V.2.1 57 j) : nSt b n p W := by
  obtain ⟨a, c, d, e⟩ := h
  exact ⟨by rw [k 10 (by decide)]; exact a, by rw [k 11 (by decide)]; exact c, fun q => by rw [k 9 (by decide)]; exact d q, fun q z => by rw [k 12 (by decide)]; exact e q z⟩
set_option maxHeartbeats 4000000 in
set_option maxRecDepth 100000 in
theorem parse (b : Nat → Int32) (n : Nat) (h80 : n ≤ 80) : ∀ (d p tm items : Nat) (c : Nat → Int32), n - p ≤ d → p ≤ n → tm < 64 → items ≤ p → okSet c → ∃ (r : Int32) (w : Option (Nat → Int32)), outOk r w ∧ (∀ T t l4, t ≤ p → cSt b n (nI tm) items c T → cOut r w p t l4 T) ∧ (∀ U, mSt b n p (nI tm) c U → mOut r w items U) := by
  intro d
  induction d with
  | zero =>
    intro p tm items c hd hp htm hi hc
    have : p = n := by omega
    subst this
    refine ⟨nI items, some (fin1 (nI tm) c), ⟨⟨items, by omega, rfl⟩, ok_fin hc⟩, fun T t l4 ht hT => ?_, fun U hU => ?_⟩
    · obtain ⟨t1, t2, t3, t4, t5⟩ := hT
      obtain ⟨T', a1, a2, a3⟩ := rd_end (t := t) l4 t1 t2
      rw [t3, t5] at a2
      rw [t4] at a3
      exact ⟨T', a1, fun f e j _ => by cases e; exact a2 j, a3⟩
    · obtain ⟨u1, u2, u3, u4, u5⟩ := hU
      exact ⟨U, mF2.rf _, fun e => (nomatch e), fun f e => by cases e; exact ⟨mR_fin u5, fun o q => tl_last _ u2 u3 o q⟩⟩
  | succ d ih =>
    intro p tm items c hd hp htm hi hc
    by_cases cn : p = n
    · subst cn
      refine ⟨nI items, some (fin1 (nI tm) c), ⟨⟨items, by omega, rfl⟩, ok_fin hc⟩, fun T t l4 ht hT => ?_, fun U hU => ?_⟩
      · obtain ⟨t1, t2, t3, t4, t5⟩ := hT
        obtain ⟨T', a1, a2, a3⟩ := rd_end (t := t) l4 t1 t2
        rw [t3, t5] at a2
        rw [t4] at a3
        exact ⟨T', a1, fun f e j _ => by cases e; exact a2 j, a3⟩
      · obtain ⟨u1, u2, u3, u4, u5⟩ := hU
        exact ⟨U, mF2.rf _, fun e => (nomatch e), fun f e => by cases e; exact ⟨mR_fin u5, fun o q => tl_last _ u2 u3 o q⟩⟩
    have pn : p < n := by omega
    by_cases cA : sOf (b p) = -1 ∨ ∃ k, k ≤ 5 ∧ sOf (b p) = nI k ∧ ¬ gdL (nI tm) k
    · refine ⟨-10 - nI p, none, ⟨p, by omega, rfl⟩, fun T t l4 ht hT => ?_, fun U hU => ?_⟩
      · obtain ⟨t1, t2, t3, t4, t5⟩ := hT
        rcases cA with e | ⟨k, hk, e, g⟩
        · exact ⟨_, hFr_put _ _ _ _ (Or.inl rfl), fun f e => (nomatch e), rd_no l4 t1 pn ht (tk_0 t1 p pn _ (Or.inl rfl) t2 (tl_no1 _ _ e))⟩
        · exact ⟨_, hFr_put _ _ _ _ (Or.inl rfl), fun f e => (nomatch e), rd_no l4 t1 pn ht (tk_0 t1 p pn _ (Or.inl rfl) t2 (tl_no2 _ k hk _ e (by rw [t3]; exact g)))⟩
      · obtain ⟨u1, u2, u3, u4, u5⟩ := hU
        have ra := ri_A u1 pn u2 u3 (by rw [u4]; exact cA)
        exact mOut_f (f := p) (mF2.put U 13 (nI p) (by omega)) (by omega) (by rw [hPut_at, pk_us]) rfl (fun o q => tl_item pn u2 u3 ra o q)
    obtain ⟨k, hk, ek⟩ : ∃ k, k ≤ 5 ∧ sOf (b p) = nI k := by
      rcases sOf_k (b p) with e | e
      · exact absurd (Or.inl e) cA
      · exact e
    have g : gdL (nI tm) k := by
      by_cases g : gdL (nI tm) k
      · exact g
      · exact absurd (Or.inr ⟨k, hk, ek, g⟩) cA
    have tE : tkE b n p = p + 1 := if_pos (let_nf hk ek)
    obtain ⟨e2a, e2b⟩ := bl_le b (n - (p + 1)) (p + 1)
    have clsL : ∀ T t l4, t ≤ p → cSt b n (nI tm) items c T → ∃ T1, hFr T T1 (fun p => p = 4 ∨ p = 5) ∧ cT b n T1 ∧ T1.2.1 4 1 = 1 ∧ T1.2.1 4 2 = nI k ∧ T1.2.1 4 3 = tlK (nI tm) k ∧ T1.2.1 4 4 = nI items ∧ T1.2.1 5 = c ∧ ∃ l, ∀ o, Rn hc_X3_read 30 (rdL (bl b (n - (p + 1)) (p + 1)) (t + 1) l) [] T1 o → Rn hc_X3_read 30 (rdL p t l4) [] T o := by
      intro T t l4 ht hT
      obtain ⟨t1, t2, t3, t4, t5⟩ := hT
      have f : hFr T (hPut (hPut (hPut T 4 2 (nI k)) 4 3 (tlK (T.2.1 4 3) k)) 4 1 1) (fun p => p = 4 ∨ p = 5) := ((hFr_put _ _ _ _ (Or.inl rfl)).trans (hFr_put _ _ _ _ (Or.inl rfl))).trans (hFr_put _ _ _ _ (Or.inl rfl))
      refine ⟨_, f, t1.fr f, by rw [hPut_at, pk_us], by rw [hPut_at, pk_un (by decide), hPut_at, pk_un (by decide), hPut_at, pk_us], by rw [hPut_at, pk_un (by decide), hPut_at, pk_us, t3], by rw [hPut_at, pk_un (by decide), hPut_at, pk_un (by decide), hPut_at, pk_un (by decide)]; exact t4, by rw [hPut_ne (by decide), hPut_ne (by decide), hPut_ne (by decide)]; exact t5, some (.inl (nI (tkE b n p))), fun o q => ?_⟩
      refine rd_go l4 t1 pn ht f (tk_0 t1 p pn _ (Or.inr rfl) t2 (tl_ok _ k hk _ ek (by rw [t3]; exact g))) o ?_
      rw [tE] at q ⊢
      exact q
    have modL : ∀ U, mSt b n p (nI tm) c U → ∃ V, mFr U V ∧ mT b n V ∧ nSt b n (bl b (n - (p + 1)) (p + 1)) V ∧ V.2.1 57 13 = -9 ∧ V.2.1 57 15 = nI tm ∧ mR (nI tm) c (V.2.1 65) ∧ (∀ o, Rn hc_X10_readsItem 57 [some (.inr (some (10, 57))), some (.inl (nI k)), some (.inl (V.2.1 57 12))] [] V o → Ev 133 [.inr (some (10, 57))] U o) := by
      intro U hU
      obtain ⟨u1, u2, u3, u4, u5⟩ := hU
      obtain ⟨V, a1, a2, a3⟩ := ri_let u1 pn u2 u3 hk ek (by rw [u4]; exact g)
      exact ⟨V, a1, u1.fr a1, a2, by rw [a1.2 13 (by omega)]; exact u3, by rw [a1.2 15 (by omega)]; exact u4, by rw [a1.1.2.2 65 (by decide)]; exact u5, a3⟩
    generalize bl b (n - (p + 1)) (p + 1) = p2 at *
    have hp2 : p2 ≤ n := by omega
    by_cases cB : p2 < n → okN b n p2 → mIn (nI (mv b p2 (nL b n p2))) (rLo c k) (rHi k) = 0
    · refine ⟨-10 - nI p2, none, ⟨p2, by omega, rfl⟩, fun T t l4 ht hT => ?_, fun U hU => ?_⟩
      · obtain ⟨T1, f1, q1, q2, q3, q4, q5, q6, l, q7⟩ := clsL T t l4 ht hT
        by_cases c2 : p2 = n
        · refine ⟨T1, f1, fun f e => (nomatch e), q7 _ ?_⟩
          rw [c2]
          exact rd_bad l q1 (by rw [q2]; decide)
        · have p2n : p2 < n := by omega
          have no : Ev 108 [.inr (some (3, 4)), .inl (nuA b n p2)] T1 (some 0, T1) := by
            by_cases ok : okN b n p2
            · obtain ⟨v1, v2⟩ := nuA_ok p2n ok
              rw [v1]
              exact tnu_no2 _ k hk v2 T1 q1.1 q3 (by rw [q6]; exact cB p2n ok)
            · exact tnu_no1 _ T1 (nuA_no p2n ok)
          exact ⟨T1, f1, fun f e => (nomatch e), q7 _ (rd_no l q1 p2n (by omega) (tk_1 q1 p2 p2n (Or.inl rfl) q2 no))⟩
      · obtain ⟨V, a1, a2, a3, a4, a5, a6, a7⟩ := modL U hU
        obtain ⟨U', d1, d2, d3⟩ := ri_B a2 hp2 a3 a4 hk (fun w z => by rw [rLo_c (a6.1 0 (by decide) (by decide))]; exact cB w z)
        exact mOut_f (f := p2) (a1.to2.trans d1) (by omega) d2 rfl (fun o q => tl_item pn hU.2.1 hU.2.2.1 (a7 _ d3) o q)
    have p2n : p2 < n := by
      by_cases z : p2 < n
      · exact z
      · exact absurd (fun w => absurd w z) cB
    have ok : okN b n p2 := by
      by_cases z : okN b n p2
      · exact z
      · exact absurd (fun _ w => absurd w z) cB
    have hm : mIn (nI (mv b p2 (nL b n p2))) (rLo c k) (rHi k) = 1 := by
      rcases mIn_b (nI (mv b p2 (nL b n p2))) (rLo c k) (rHi k) with e | e
      · exact absurd (fun _ _ => e) cB
      · exact e
    obtain ⟨vA, vB⟩ := nuA_ok p2n ok
    have hc2 := ok_put hc hk hm
    have t2l := tkE_le (b := b) p2n
    obtain ⟨e3a, e3b⟩ := bl_le b (n - tkE b n p2) (tkE b n p2)
    have clsN : ∀ T t l4, t ≤ p → cSt b n (nI tm) items c T → ∃ T1 t1, hFr T T1 (fun p => p = 4 ∨ p = 5) ∧ cT b n T1 ∧ T1.2.1 4 1 = 2 ∧ T1.2.1 4 3 = tlK (nI tm) k ∧ T1.2.1 4 4 = nI items ∧ T1.2.1 5 = upd c k (nI (mv b p2 (nL b n p2))) ∧ t1 ≤ tkE b n p2 ∧ ∃ l, ∀ o, Rn hc_X3_read 30 (rdL (bl b (n - tkE b n p2) (tkE b n p2)) t1 l) [] T1 o → Rn hc_X3_read 30 (rdL p t l4) [] T o := by
      intro T t l4 ht hT
      obtain ⟨T1, f1, q1, q2, q3, q4, q5, q6, l, q7⟩ := clsL T t l4 ht hT
      have f : hFr T1 (hPut (hPut T1 5 k (nI (mv b p2 (nL b n p2)))) 4 1 2) (fun p => p = 4 ∨ p = 5) := (hFr_put _ _ _ _ (Or.inr rfl)).trans (hFr_put _ _ _ _ (Or.inl rfl))
      have tn := tnu_ok (mv b p2 (nL b n p2)) k hk vB T1 q1.1 q3 (by rw [q6]; exact hm)
      rw [← vA] at tn
      refine ⟨hPut (hPut T1 5 k (nI (mv b p2 (nL b n p2)))) 4 1 2, t + 1 + 1, f1.trans f, q1.fr f, by rw [hPut_at, pk_us], by rw [hPut_at, pk_un (by decide), hPut_ne (by decide)]; exact q4, by rw [hPut_at, pk_un (by decide), hPut_ne (by decide)]; exact q5, by rw [hPut_ne (by decide), hPut_at, q6], by omega, some (.inl (nI (tkE b n p2))), fun o q => q7 _ ?_⟩
      have tn2 := tk_1 q1 p2 p2n (Or.inr rfl) q2 tn
      rw [vA] at tn2
      exact rd_go l q1 p2n (by omega) f tn2 o q
    have modN : ∀ U, mSt b n p (nI tm) c U → ∃ W, mF2 U W ∧ mT b n W ∧ nSt b n (bl b (n - tkE b n p2) (tkE b n p2)) W ∧ W.2.1 57 13 = -9 ∧ W.2.1 57 15 = tlK (nI tm) k ∧ mR (tlK (nI tm) k) (upd c k (nI (mv b p2 (nL b n p2)))) (W.2.1 65) ∧ ∃ l1 l2, (∀ o, Rn hc_X10_readsItem 132 [some (.inr (some (10, 57))), l1, l2] [] W o → Ev 133 [.inr (some (10, 57))] U o) := by
      intro U hU
      obtain ⟨V, a1, a2, a3, a4, a5, a6, a7⟩ := modL U hU
      obtain ⟨W, d1, d2, d3⟩ := ri_num a2 p2n a3 a4 hk ok (by rw [rLo_c (a6.1 0 (by decide) (by decide))]; exact hm)
      have sf := stF_f W k (nI (mv b p2 (nL b n p2)))
      refine ⟨stF W k (nI (mv b p2 (nL b n p2))), (a1.to2.trans d1.to2).trans sf, (a2.fr d1).f2 sf, d2.keep (fun j hj => stF_57 _ _ _ j hj), ?_, ?_, ?_, _, _, fun o q => a7 _ (d3 o q)⟩
      · rw [stF_57 _ _ _ 13 (by decide), d1.2 13 (by omega)]; exact a4
      · rw [stF_15, d1.2 15 (by omega), a5]
      · rw [stF_65, d1.1.2.2 65 (by decide)]
        exact mR_put htm hk _ a6 g
    generalize bl b (n - tkE b n p2) (tkE b n p2) = p3 at *
    have hp3 : p3 ≤ n := by omega
    by_cases cC : p3 < n → ¬ b p3 = 59
    · refine ⟨-10 - nI p3, none, ⟨p3, by omega, rfl⟩, fun T t l4 ht hT => ?_, fun U hU => ?_⟩
      · obtain ⟨T1, t1, f1, q1, q2, q4, q5, q6, qt, l, q7⟩ := clsN T t l4 ht hT
        by_cases c3 : p3 = n
        · refine ⟨T1, f1, fun f e => (nomatch e), q7 _ ?_⟩
          rw [c3]
          exact rd_bad l q1 (by rw [q2]; decide)
        · have p3n : p3 < n := by omega
          exact ⟨T1, f1, fun f e => (nomatch e), q7 _ (rd_no l q1 p3n (by omega) (tk_2 q1 p3 p3n _ (Or.inl rfl) q2 (te_no _ T1 (cC p3n))))⟩
      · obtain ⟨W, a1, a2, a3, a4, a5, a6, l1, l2, a7⟩ := modN U hU
        exact mOut_f (f := p3) (a1.trans (mF2.put W 13 (nI p3) (by omega))) (by omega) (by rw [hPut_at, pk_us]) rfl (fun o q => tl_item pn hU.2.1 hU.2.2.1 (a7 _ (ri_C a2 hp3 a3 a4 l1 l2 cC)) o q)
    have p3n : p3 < n := by
      by_cases z : p3 < n
      · exact z
      · exact absurd (fun w => absurd w z) cC
    have b59 : b p3 = 59 := by
      by_cases z : b p3 = 59
      · exact z
      · exact absurd (fun _ => z) cC
    have tE3 : tkE b n p3 = p3 + 1 := by
      unfold tkE
      rw [b59]
      exact if_pos (by decide)
    obtain ⟨e4a, e4b⟩ := bl_le b (n - (p3 + 1)) (p3 + 1)
    obtain ⟨tb1, tb2, -, -⟩ := tl_bits tm htm k (by omega)
    obtain ⟨r, w, r1, r2, r3⟩ := ih (bl b (n - (p3 + 1)) (p3 + 1)) (tm ||| 2 ^ k) (items + 1) (upd c k (nI (mv b p2 (nL b n p2)))) (by omega) (by omega) tb2 (by omega) hc2
    rw [← tb1] at r2 r3
    refine ⟨r, w, r1, fun T t l4 ht hT => ?_, fun U hU => ?_⟩
    · obtain ⟨T1, t1, f1, q1, q2, q4, q5, q6, qt, l, q7⟩ := clsN T t l4 ht hT
      have f : hFr T1 (hPut (hPut T1 4 4 (T1.2.1 4 4 + 1)) 4 1 0) (fun p => p = 4 ∨ p = 5) := (hFr_put _ _ _ _ (Or.inl rfl)).trans (hFr_put _ _ _ _ (Or.inl rfl))
      have tt := te_ok T1
      rw [← b59] at tt
      obtain ⟨T', g1, g2, g3⟩ := r2 (hPut (hPut T1 4 4 (T1.2.1 4 4 + 1)) 4 1 0) (t1 + 1) (some (.inl (nI (tkE b n p3)))) (by omega) ⟨q1.fr f, by rw [hPut_at, pk_us], by rw [hPut_at, pk_un (by decide), hPut_at, pk_un (by decide)]; exact q4, by rw [hPut_at, pk_un (by decide), hPut_at, pk_us, q5, nI_s1], by rw [hPut_ne (by decide), hPut_ne (by decide)]; exact q6⟩
      refine ⟨T', (f1.trans f).trans g1, g2, q7 _ ?_⟩
      refine rd_go l q1 p3n (by omega) f (tk_2 q1 p3 p3n _ (Or.inr rfl) q2 tt) _ ?_
      rw [tE3] at g3 ⊢
      exact g3
    · obtain ⟨W, a1, a2, a3, a4, a5, a6, l1, l2, a7⟩ := modN U hU
      obtain ⟨X, d1, d2, d3⟩ := ri_D a2 p3n a3 a4 l1 l2 b59
      obtain ⟨U', g1, g2, g3⟩ := r3 X ⟨a2.fr d1, d2, by rw [d1.2 13 (by omega)]; exact a4, by rw [d1.2 15 (by omega)]; exact a5, by rw [d1.1.2.2 65 (by decide)]; exact a6⟩
      have it := fun o q => tl_item (i := items) pn hU.2.1 hU.2.2.1 (a7 _ d3) o q
      exact ⟨U', (a1.trans d1.to2).trans g1, fun e => it _ (g2 e), fun f e => ⟨(g3 f e).1, fun o q => it _ ((g3 f e).2 o q)⟩⟩
