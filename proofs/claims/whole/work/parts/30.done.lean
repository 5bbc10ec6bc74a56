/-! What is done: blows, ices, grids, wants, resets. -/
theorem rel_done {S S2 : hS} (h : Rel S) (f : hFr S S2 (fun p => p = 57 ∨ p = 58 ∨ p = 60 ∨ (6 ≤ p ∧ p < 36))) (u : ∀ k, k ≠ 3 → S2.2.1 57 k = S.2.1 57 k) (hm : rMom S2.2.1 6 (S2.2.1 58)) (hp : rPast S2.2.1 (S2.2.1 57 3)) : Rel S2 := by
  obtain ⟨a, b, c, -, -, g, i⟩ := h
  have k : ∀ p, ¬ (p = 57 ∨ p = 58 ∨ p = 60 ∨ (6 ≤ p ∧ p < 36)) → S2.2.1 p = S.2.1 p := f.2.2
  refine ⟨a.fr f, ?_, ?_, hm, hp, ?_, ?_⟩
  · rw [k 1 (by omega), k 63 (by omega)]; exact b
  · rw [k 2 (by omega), u 8 (by decide), k 3 (by omega), k 64 (by omega)]; exact c
  · exact g.congr (fun p x y => k p (by omega)) (k _ (by omega)) (k _ (by omega)) (k _ (by omega))
  · rw [k 46 (by omega), u 24 (by decide), k 47 (by omega), k 48 (by omega), k 49 (by omega), k 70 (by omega)]; exact i
/-- one slot of the wheel changes on both sides -/
theorem mRel.slot {m w t a u : Nat → Int32} (h : mRel m w t a u) (k : Nat) (hk : k < 16) (x : Int32) : mRel m (upd w k x) t a (upd u k x) := by
  obtain ⟨h1, h2, h3, h4, n, z, g1, g2, g3, g4, g5⟩ := h
  have e : ∀ j, 16 ≤ j → upd u k x j = u j := fun j hj => pk_un (by omega)
  refine ⟨fun j hj => ?_, by rw [e 16 (by omega)]; exact h2, by rw [e 17 (by omega)]; exact h3, by rw [e 18 (by omega)]; exact h4, n, z, g1, g2, g3, by rw [e 18 (by omega)]; exact g4, fun i hi => by rw [e (19 + i) (by omega)]; exact g5 i hi⟩
  by_cases hj2 : j = k
  · subst hj2; rw [pk_us, pk_us]
  · rw [pk_un hj2, pk_un hj2]; exact h1 j hj
theorem mInv.slot {st u : Nat → Int32} (h : mInv st u) (k : Nat) (hk : k < 16) (x : Int32) (hr : wRng st (upd u k x)) (hp : wPot (upd u k x)) : mInv st (upd u k x) := by
  obtain ⟨-, -, c, d, f⟩ := h
  have e : ∀ j, 16 ≤ j → upd u k x j = u j := fun j hj => pk_un (by omega)
  exact ⟨hr, hp, by rw [e 16 (by omega)]; exact c, by rw [e 18 (by omega)]; exact d, fun i hi => by rw [e (19 + i) (by omega)]; exact f i hi⟩
/-- a slot that the bound doesn't look at -/
theorem wPot.slot {u : Nat → Int32} (h : wPot u) (k : Nat) (hk : 3 ≤ k) (x : Int32) : wPot (upd u k x) := h.congr (pk_un (by omega)) (pk_un (by omega)) (pk_un (by omega))
theorem a_blows {S : hS} (h : Rel S) (x y : Int32) : Alk 136 57 [.inl x, .inl y] S := by
  have hL := h.1
  have hm := h.2.2.2.1
  have m4 : S.2.1 7 4 = S.2.1 58 4 := hm.1.1 4 (by decide)
  have m5 : S.2.1 7 5 = S.2.1 58 5 := hm.1.1 5 (by decide)
  -- refused
  have bad : (mIn x 0 40 = 0 ∨ mIn y 0 35 = 0) → Alk 136 57 [.inl x, .inl y] S := by
    intro q
    refine ⟨-1, S, S, ?_, ?_, h⟩
    · show Rn hc_X9_blows 0 [some (.inr (some (9, 0))), some (.inl x), some (.inl y), none, none] [] S _
      iterate 3 refine r_step rfl rfl ?_
      refine r_call rfl rfl (e_within _ _ _ _) ?_
      refine r_step rfl rfl ?_
      refine r_i_eq (fun _ => ?_) (fun c => ?_)
      · refine r_step rfl rfl ?_
        exact r_reti rfl rfl rfl
      · iterate 3 refine r_step rfl rfl ?_
        refine r_call rfl rfl (e_within _ _ _ _) ?_
        rw [q.resolve_left c]
        iterate 2 refine r_step rfl rfl ?_
        exact r_reti rfl rfl rfl
    · show Rn hc_X10_blows 0 [some (.inr (some (10, 57))), some (.inl x), some (.inl y), none] [] S _
      iterate 3 refine r_step rfl rfl ?_
      refine r_call rfl rfl (e_in _ _ _ _) ?_
      refine r_step rfl rfl ?_
      refine r_i_eq (fun _ => ?_) (fun c => ?_)
      · refine r_step rfl rfl ?_
        exact r_reti rfl rfl rfl
      · iterate 3 refine r_step rfl rfl ?_
        refine r_call rfl rfl (e_in _ _ _ _) ?_
        rw [q.resolve_left c]
        iterate 2 refine r_step rfl rfl ?_
        exact r_reti rfl rfl rfl
  rcases mIn_iff (v := x) (lo := 0) (hi := 40) with ⟨kx, -⟩ | ⟨kx, x1, x2⟩
  · exact bad (Or.inl kx)
  rcases mIn_iff (v := y) (lo := 0) (hi := 35) with ⟨ky, -⟩ | ⟨ky, y1, y2⟩
  · exact bad (Or.inr ky)
  have startC : ∀ o, Rn hc_X9_blows 30 [some (.inr (some (9, 0))), some (.inl x), some (.inl y), some (.inr (some (8, 7))), none] [] S o → Ev 136 [.inr (some (9, 0)), .inl x, .inl y] S o := by
    intro o k
    show Rn hc_X9_blows 0 [some (.inr (some (9, 0))), some (.inl x), some (.inl y), none, none] [] S _
    iterate 3 refine r_step rfl rfl ?_
    refine r_call rfl rfl (e_within _ _ _ _) ?_
    rw [kx]
    iterate 4 refine r_step rfl rfl ?_
    refine r_call rfl rfl (e_within _ _ _ _) ?_
    rw [ky]
    iterate 2 refine r_step rfl rfl ?_
    refine r_getr rfl (rv_0_3 hL) ?_
    refine r_getr rfl (rv_6_0 hL) ?_
    refine r_step rfl rfl ?_
    exact k
  have startM : ∀ (T : hS) o, hLay T → Rn hc_X10_blows 29 [some (.inr (some (10, 57))), some (.inl x), some (.inl y), some (.inl (T.2.1 58 4))] [] T o → Ev 57 [.inr (some (10, 57)), .inl x, .inl y] T o := by
    intro T o hT k
    show Rn hc_X10_blows 0 [some (.inr (some (10, 57))), some (.inl x), some (.inl y), none] [] T _
    iterate 3 refine r_step rfl rfl ?_
    refine r_call rfl rfl (e_in _ _ _ _) ?_
    rw [kx]
    iterate 4 refine r_step rfl rfl ?_
    refine r_call rfl rfl (e_in _ _ _ _) ?_
    rw [ky]
    iterate 2 refine r_step rfl rfl ?_
    refine r_getr rfl (rv_57_0 hT) ?_
    refine r_step rfl rfl ?_
    refine r_iald rfl 4 rfl ⟨⟨by decide, by decide⟩, by decide⟩ ?_
    refine r_step rfl rfl ?_
    exact k
  by_cases same : S.2.1 58 4 = x ∧ S.2.1 58 5 = y
  · refine ⟨-2, S, S, ?_, ?_, h⟩
    · refine startC _ ?_
      iterate 4 refine r_step rfl rfl ?_
      refine r_i_ne (fun q => absurd (m4.trans same.1) q) (fun _ => ?_)
      iterate 4 refine r_step rfl rfl ?_
      refine r_i_ne (fun q => absurd (m5.trans same.2) q) (fun _ => ?_)
      refine r_step rfl rfl ?_
      exact r_reti rfl rfl rfl
    · refine startM S _ hL ?_
      iterate 3 refine r_step rfl rfl ?_
      refine r_i_ne (fun q => absurd same.1 q) (fun _ => ?_)
      refine r_step rfl rfl ?_
      refine r_getr rfl (rv_57_0 hL) ?_
      refine r_step rfl rfl ?_
      refine r_iald rfl 5 rfl ⟨⟨by decide, by decide⟩, by decide⟩ ?_
      iterate 2 refine r_step rfl rfl ?_
      refine r_i_ne (fun q => absurd same.2 q) (fun _ => ?_)
      refine r_step rfl rfl ?_
      exact r_reti rfl rfl rfl
  · obtain ⟨S1, b1, b2, b3⟩ := note_both h
    have w7 : S1.2.1 7 = S.2.1 7 := b2.2.2 7 (by omega)
    have hL2 : hLay (hPut (hPut S1 7 4 x) 7 5 y) := ((hL.fr b2).put _ _ _).put _ _ _
    have e57 : ∀ p, 57 ≤ p → (hPut (hPut S1 7 4 x) 7 5 y).2.1 p = S.2.1 p := fun p hp => by rw [hPut_ne (by omega), hPut_ne (by omega)]; exact b2.2.2 p (by omega)
    obtain ⟨T1, c1, c2, c3, c4⟩ := b3 (hPut (hPut S1 7 4 x) 7 5 y) hL2 e57
    have t58 : T1.2.1 58 = S.2.1 58 := (c2.2.2 58 (by omega)).trans (e57 58 (by omega))
    have hT1 : hLay T1 := hL2.fr c2
    have tlow : ∀ p, p < 57 → T1.2.1 p = (hPut (hPut S1 7 4 x) 7 5 y).2.1 p := fun p hp => c2.2.2 p (by omega)
    refine ⟨S.2.1 58 4, hPut (hPut S1 7 4 x) 7 5 y, hPut (hPut T1 58 4 x) 58 5 y, ?_, ?_, ?_⟩
    · refine startC _ ?_
      have tail : Rn hc_X9_blows 49 [some (.inr (some (9, 0))), some (.inl x), some (.inl y), some (.inr (some (8, 7))), none] [] S (some (S.2.1 58 4), hPut (hPut S1 7 4 x) 7 5 y) := by
        refine r_step rfl rfl ?_
        refine r_getr rfl (rv_0_4 hL) ?_
        refine r_step rfl rfl ?_
        refine r_getr rfl (rv_0_3 hL) ?_
        refine r_callv rfl rfl b1 ?_
        repeat' (first | refine r_reti rfl ?_ rfl | refine r_step rfl rfl ?_ | with_reducible refine r_i_eq (fun c => ?_) (fun c => ?_) | with_reducible refine r_i_ne (fun c => ?_) (fun c => ?_) | with_reducible refine r_i_lt (fun c => ?_) (fun c => ?_) | with_reducible refine r_i_ge (fun c => ?_) (fun c => ?_) | with_reducible refine r_i_gt (fun c => ?_) (fun c => ?_) | with_reducible refine r_i_le (fun c => ?_) (fun c => ?_))
        rw [w7]
        exact m4
      iterate 4 refine r_step rfl rfl ?_
      refine r_i_ne (fun _ => tail) (fun q => ?_)
      iterate 4 refine r_step rfl rfl ?_
      exact r_i_ne (fun _ => tail) (fun q2 => absurd ⟨m4.symm.trans q, m5.symm.trans q2⟩ same)
    · have tail : Rn hc_X10_blows 47 [some (.inr (some (10, 57))), some (.inl x), some (.inl y), some (.inl (S.2.1 58 4))] [] (hPut (hPut S1 7 4 x) 7 5 y) (some (S.2.1 58 4), hPut (hPut T1 58 4 x) 58 5 y) := by
        refine r_step rfl rfl ?_
        refine r_callv rfl rfl c1 ?_
        refine r_step rfl rfl ?_
        refine r_getr rfl (rv_57_0 hT1) ?_
        iterate 2 refine r_step rfl rfl ?_
        refine r_iast0 rfl 4 rfl ⟨⟨by decide, by decide⟩, by decide⟩ ?_
        refine r_step rfl rfl ?_
        refine r_getr rfl (rv_57_0 hT1) ?_
        iterate 2 refine r_step rfl rfl ?_
        refine r_iast0 rfl 5 rfl ⟨⟨by decide, by decide⟩, by decide⟩ ?_
        refine r_step rfl rfl ?_
        exact r_reti rfl rfl rfl
      refine startM _ _ hL2 ?_
      rw [e57 58 (by omega)]
      iterate 3 refine r_step rfl rfl ?_
      refine r_i_ne (fun _ => tail) (fun q => ?_)
      refine r_step rfl rfl ?_
      refine r_getr rfl (rv_57_0 hL2) ?_
      refine r_step rfl rfl ?_
      refine r_iald rfl 5 rfl ⟨⟨by decide, by decide⟩, by decide⟩ ?_
      iterate 2 refine r_step rfl rfl ?_
      refine r_i_ne (fun _ => tail) (fun q2 => absurd ⟨q, by rw [e57 58 (by omega)] at q2; exact q2⟩ same)
    · have f2 : ∀ p, p ≠ 58 → (hPut (hPut T1 58 4 x) 58 5 y).2.1 p = T1.2.1 p := fun p hp => by rw [hPut_ne hp, hPut_ne hp]
      have fS : ∀ p, ¬ (p = 57 ∨ p = 58 ∨ p = 60 ∨ (6 ≤ p ∧ p < 36)) → (hPut (hPut T1 58 4 x) 58 5 y).2.1 p = S.2.1 p := by
        intro p hp
        rw [f2 p (by omega), c2.2.2 p (by omega), hPut_ne (by omega), hPut_ne (by omega)]
        exact b2.2.2 p (by omega)
      have e63 : (hPut (hPut T1 58 4 x) 58 5 y).2.1 63 = S.2.1 63 := fS 63 (by omega)
      refine rel_done h ⟨?_, ?_, fS⟩ ?_ ?_ ?_
      · show T1.1 = S.1
        rw [hT1.1, hL.1]
      · show T1.2.2 = S.2.2
        rw [c2.2.1]
        exact b2.2.1
      · intro k hk
        rw [f2 57 (by decide), c3 k hk, e57 57 (by omega)]
      · have r58 : (hPut (hPut T1 58 4 x) 58 5 y).2.1 58 = upd (upd (S.2.1 58) 4 x) 5 y := by rw [hPut_at, hPut_at, t58]
        have r7 : (hPut (hPut T1 58 4 x) 58 5 y).2.1 7 = upd (upd (S.2.1 7) 4 x) 5 y := by rw [f2 7 (by decide), tlow 7 (by omega), hPut_at, hPut_at, w7]
        have rr : ∀ p, p = 6 ∨ p = 8 ∨ p = 9 → (hPut (hPut T1 58 4 x) 58 5 y).2.1 p = S.2.1 p := by
          intro p hp
          rw [f2 p (by omega), tlow p (by omega), hPut_ne (by omega), hPut_ne (by omega)]
          exact b2.2.2 p (by omega)
        have i0 := hm.2
        have s4 := h.2.1.1.2.2.2.2.1
        obtain ⟨r0, r1, r2, r3, r4, r5, r6, r7', r8, r9, r10, r15⟩ := i0.1
        have i1 : mInv (S.2.1 63) (upd (S.2.1 58) 4 x) := i0.slot 4 (by decide) x ⟨r0, r1, r2, r3, ⟨x1, x2⟩, r5, r6, r7', r8, r9, r10, r15⟩ (i0.2.1.slot 4 (by decide) x)
        have i2 : mInv (S.2.1 63) (upd (upd (S.2.1 58) 4 x) 5 y) := i1.slot 5 (by decide) y ⟨r0, r1, r2, r3, ⟨x1, x2⟩, ⟨y1, y2⟩, r6, r7', r8, r9, r10, r15⟩ (i1.2.1.slot 5 (by decide) y)
        unfold rMom
        rw [r58, e63, rr 6 (by omega), r7, rr 8 (by omega), rr 9 (by omega)]
        exact ⟨(hm.1.slot 4 (by decide) x).slot 5 (by decide) y, i2⟩
      · have e3 : (hPut (hPut T1 58 4 x) 58 5 y).2.1 57 3 = T1.2.1 57 3 := by rw [f2 57 (by decide)]
        rw [e3]
        refine c4 _ (fun p g1 g2 => ?_) (f2 60 (by decide)) e63
        rw [f2 p (by omega), tlow p (by omega), hPut_ne (by omega), hPut_ne (by omega)]
