/-! back. -/
theorem a_back {S : hS} (h : Rel S) (x : Int32) : Alk 125 55 [.inl x] S := by
  have hL := h.1
  rcases mIn_iff (v := x) (lo := 0) (hi := 1) with ⟨kx, -⟩ | ⟨kx, x1, x2⟩
  · refine ⟨-1, S, S, ?_, ?_, h⟩
    · show Rn hc_X9_back 0 [some (.inr (some (9, 0))), some (.inl x)] [] S _
      iterate 3 refine r_step rfl rfl ?_
      refine r_call rfl rfl (e_within _ _ _ _) ?_
      rw [kx]
      iterate 2 refine r_step rfl rfl ?_
      exact r_reti rfl rfl rfl
    · show Rn hc_X10_back 0 [some (.inr (some (10, 57))), some (.inl x), none] [] S _
      iterate 3 refine r_step rfl rfl ?_
      refine r_call rfl rfl (e_in _ _ _ _) ?_
      rw [kx]
      iterate 2 refine r_step rfl rfl ?_
      exact r_reti rfl rfl rfl
  obtain ⟨k, hk, rfl⟩ := bt_nI (hi := 1) (x := x) ⟨x1, x2⟩ (by decide)
  have hk2 : k < 2 := by omega
  obtain ⟨i1, i2⟩ := lay_img hL hk2
  obtain ⟨o1, o2, o3⟩ := h.2.2.2.2.2.1 k hk2
  have startC : ∀ o, Rn hc_X9_back 17 [some (.inr (some (9, 0))), some (.inl (nI k))] [.inl (S.2.1 45 k)] S o → Ev 125 [.inr (some (9, 0)), .inl (nI k)] S o := by
    intro o q
    show Rn hc_X9_back 0 [some (.inr (some (9, 0))), some (.inl (nI k))] [] S _
    iterate 3 refine r_step rfl rfl ?_
    refine r_call rfl rfl (e_within _ _ _ _) ?_
    rw [kx]
    iterate 2 refine r_step rfl rfl ?_
    refine r_getr rfl (rv_0_6 hL) ?_
    refine r_step rfl rfl ?_
    exact r_bald rfl k (ti (by omega)) ⟨⟨by decide, by decide⟩, by show k < 2; omega⟩ q
  have startM : ∀ (T : hS) o, hLay T → T.2.1 62 k = S.2.1 45 k → Rn hc_X10_back 17 [some (.inr (some (10, 57))), some (.inl (nI k)), none] [.inl (S.2.1 45 k)] T o → Ev 55 [.inr (some (10, 57)), .inl (nI k)] T o := by
    intro T o hT e q
    show Rn hc_X10_back 0 [some (.inr (some (10, 57))), some (.inl (nI k)), none] [] T _
    iterate 3 refine r_step rfl rfl ?_
    refine r_call rfl rfl (e_in _ _ _ _) ?_
    rw [kx]
    iterate 2 refine r_step rfl rfl ?_
    refine r_getr rfl (rv_57_5 hT) ?_
    refine r_step rfl rfl ?_
    refine r_bald rfl k (ti (by omega)) ⟨⟨by decide, by decide⟩, by show k < 2; omega⟩ ?_
    rw [e]
    exact q
  rcases o1 with w | w
  · refine ⟨-2, S, S, startC _ ?_, startM S _ hL o2 ?_, h⟩
    · refine r_step rfl rfl ?_
      refine r_i_ne (fun q => absurd w q) (fun _ => ?_)
      refine r_step rfl rfl ?_
      exact r_reti rfl rfl rfl
    · refine r_step rfl rfl ?_
      refine r_i_ne (fun q => absurd w q) (fun _ => ?_)
      refine r_step rfl rfl ?_
      exact r_reti rfl rfl rfl
  have im := o3 w
  have nz : ¬ S.2.1 45 k = 0 := fun q => absurd (w.symm.trans q) (by decide)
  have bb := im.bits
  obtain ⟨S1, b1, b2, b3⟩ := e_mcopy 6 (37 + 4 * k) S (mom_6 hL) i2 (Or.inl (by omega)) bb.1 bb.2.1 bb.2.2
  have hL1 := hL.fr b3
  have hL2 : hLay (hPut S1 10 2 0) := hL1.put _ _ _
  have f1 : ∀ q, (q < 6 ∨ 10 ≤ q) → S1.2.1 q = S.2.1 q := fun q n1 => b3.2.2 q (by omega)
  refine ⟨S1.2.1 6 2, hPut S1 10 2 0, hPut (hRow (hPut S1 10 2 0) 58 (cp ((hPut S1 10 2 0).2.1 58) ((hPut S1 10 2 0).2.1 61) 0 (59 * k) 0 59)) 57 3 0, startC _ ?_, startM _ _ hL2 ?_ ?_, ?_⟩
  · refine r_step rfl rfl ?_
    refine r_i_ne (fun _ => ?_) (fun q => absurd q nz)
    refine r_step rfl rfl ?_
    refine r_getr rfl (rv_0_3 hL) ?_
    refine r_step rfl rfl ?_
    refine r_getr rfl (rv_0_5 hL) ?_
    refine r_step rfl rfl ?_
    refine r_aald rfl k (ti (by omega)) ⟨⟨by decide, by decide⟩, by show k < 2; omega⟩ i1 ?_
    refine r_callv rfl rfl b1 ?_
    refine r_step rfl rfl ?_
    refine r_getr rfl (rv_0_4 hL1) ?_
    refine r_callv rfl rfl (e_plose S1) ?_
    refine r_step rfl rfl ?_
    refine r_getr rfl (rv_0_3 hL2) ?_
    refine r_step rfl rfl ?_
    refine r_reti rfl ?_ rfl
    rw [hPut_ne (by decide)]
  · rw [hPut_ne (by decide), f1 62 (by omega)]
    exact o2
  · refine r_step rfl rfl ?_
    refine r_i_ne (fun _ => ?_) (fun q => absurd q nz)
    iterate 2 refine r_step rfl rfl ?_
    refine back_l k hk2 59 0 (hPut S1 10 2 0) _ (by omega) hL2 ?_
    iterate 4 refine r_step rfl rfl ?_
    refine r_getr rfl (rv_57_0 ((hL2.row _ _).put _ _ _)) ?_
    refine r_step rfl rfl ?_
    refine r_iald rfl 16 rfl ⟨⟨by decide, by decide⟩, by decide⟩ ?_
    refine r_reti rfl ?_ rfl
    rw [hPut_ne (by decide), hRow_at, hPut_ne (show 61 ≠ 10 by decide), f1 61 (by omega)]
    have := cp_at (f := (hPut S1 10 2 0).2.1 58) (g := S.2.1 61) (a := 0) (b := 59 * k) (N := 59) (i := 16) (by omega)
    rw [Nat.zero_add] at this
    rw [this]
    exact ((b2.2.2.2.2.1).trans im.1.2.1).symm
  · rw [hPut_ne (show 61 ≠ 10 by decide), hPut_ne (show 58 ≠ 10 by decide), f1 58 (by omega), f1 61 (by omega)]
    have hL3 : hLay (hPut (hRow (hPut S1 10 2 0) 58 (cp (S.2.1 58) (S.2.1 61) 0 (59 * k) 0 59)) 57 3 0) := (hL2.row _ _).put _ _ _
    have g : ∀ q, q ≠ 10 → q ≠ 57 → q ≠ 58 → (hPut (hRow (hPut S1 10 2 0) 58 (cp (S.2.1 58) (S.2.1 61) 0 (59 * k) 0 59)) 57 3 0).2.1 q = S1.2.1 q := fun q n1 n2 n3 => by rw [hPut_ne n2, hRow_ne _ _ n3, hPut_ne n1]
    have g10 : (hPut (hRow (hPut S1 10 2 0) 58 (cp (S.2.1 58) (S.2.1 61) 0 (59 * k) 0 59)) 57 3 0).2.1 10 = upd (S.2.1 10) 2 0 := by rw [hPut_ne (by decide), hRow_ne _ _ (by decide), hPut_at, f1 10 (by omega)]
    have g57 : (hPut (hRow (hPut S1 10 2 0) 58 (cp (S.2.1 58) (S.2.1 61) 0 (59 * k) 0 59)) 57 3 0).2.1 57 = upd (S.2.1 57) 3 0 := by rw [hPut_at, hRow_ne _ _ (by decide), hPut_ne (by decide), f1 57 (by omega)]
    have g58 : (hPut (hRow (hPut S1 10 2 0) 58 (cp (S.2.1 58) (S.2.1 61) 0 (59 * k) 0 59)) 57 3 0).2.1 58 = cp (S.2.1 58) (S.2.1 61) 0 (59 * k) 0 59 := by rw [hPut_ne (by decide), hRow_at]
    generalize hPut (hRow (hPut S1 10 2 0) 58 (cp (S.2.1 58) (S.2.1 61) 0 (59 * k) 0 59)) 57 3 0 = S2 at *
    have e : ∀ q, q ≠ 10 → q ≠ 57 → q ≠ 58 → (q < 6 ∨ 10 ≤ q) → S2.2.1 q = S.2.1 q := fun q n1 n2 n3 n4 => (g q n1 n2 n3).trans (f1 q n4)
    refine ⟨hL3, ?_, ?_, ?_, ?_, ?_, ?_⟩
    · rw [e 1 (by omega) (by omega) (by omega) (by omega), e 63 (by omega) (by omega) (by omega) (by omega)]; exact h.2.1
    · rw [e 2 (by omega) (by omega) (by omega) (by omega), e 3 (by omega) (by omega) (by omega) (by omega), e 64 (by omega) (by omega) (by omega) (by omega), g57, pk_un (by decide)]; exact h.2.2.1
    · have c1 := im.1.copy b2
      have c2 : rMom S2.2.1 6 (fun j => S.2.1 61 (59 * k + j)) := by
        refine ⟨?_, ?_⟩
        · show mRel (S2.2.1 6) (S2.2.1 7) (S2.2.1 8) (S2.2.1 9) _
          rw [g 6 (by omega) (by omega) (by omega), g 7 (by omega) (by omega) (by omega), g 8 (by omega) (by omega) (by omega), g 9 (by omega) (by omega) (by omega)]
          exact c1
        · rw [e 63 (by omega) (by omega) (by omega) (by omega)]; exact im.2
      refine c2.c59 (fun j hj => ?_)
      rw [g58]
      have := cp_at (f := S.2.1 58) (g := S.2.1 61) (a := 0) (b := 59 * k) hj
      rw [Nat.zero_add] at this
      exact this
    · obtain ⟨p, z, a1, a2, a3, a4, a5, a6⟩ := h.2.2.2.2.1
      exact ⟨p, 0, a1, by omega, by rw [g10, pk_un (by decide)]; exact a3, by rw [g10, pk_us]; rfl, by rw [g57, pk_us]; rfl, fun i hi => absurd hi (by omega)⟩
    · exact h.2.2.2.2.2.1.congr (fun q n1 n2 => e q (by omega) (by omega) (by omega) (by omega)) (e 61 (by omega) (by omega) (by omega) (by omega)) (e 62 (by omega) (by omega) (by omega) (by omega)) (e 63 (by omega) (by omega) (by omega) (by omega))
    · rw [e 46 (by omega) (by omega) (by omega) (by omega), e 47 (by omega) (by omega) (by omega) (by omega), e 48 (by omega) (by omega) (by omega) (by omega), e 49 (by omega) (by omega) (by omega) (by omega), e 70 (by omega) (by omega) (by omega) (by omega), g57, pk_un (by decide)]; exact h.2.2.2.2.2.2
