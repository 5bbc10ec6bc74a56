/-! tells. -/
theorem e_readS {b : Nat → Int32} {n : Nat} (S : hS) (h : cT b n S) : ∃ T0, hFr S T0 (fun p => p = 4 ∨ p = 5) ∧ cSt b n (nI 0) 0 (T0.2.1 5) T0 ∧ (∀ j, j < 6 → T0.2.1 5 j = made_s j) ∧ (∀ o, Rn hc_X3_read 30 (rdL (bl b n 0) 0 none) [] T0 o → Ev 134 [.inr (some (3, 4)), .inr (some (6, 2))] S o) := by
  obtain ⟨S1, a1, a2, a3⟩ := e_setNew S
  have f : hFr S (hPut (hPut (hPut S1 4 1 0) 4 3 0) 4 4 0) (fun p => p = 4 ∨ p = 5) := (((hFr.mono (Q := fun p => p = 4 ∨ p = 5) a2 (fun p hp => Or.inr hp)).trans (hFr_put _ _ _ _ (Or.inl rfl))).trans (hFr_put _ _ _ _ (Or.inl rfl))).trans (hFr_put _ _ _ _ (Or.inl rfl))
  refine ⟨hPut (hPut (hPut S1 4 1 0) 4 3 0) 4 4 0, f, ⟨h.fr f, ?_, ?_, ?_, rfl⟩, fun j hj => ?_, fun o q => ?_⟩
  · rw [hPut_at, pk_un (by decide), hPut_at, pk_un (by decide), hPut_at, pk_us]
  · rw [hPut_at, pk_un (by decide), hPut_at, pk_us]; rfl
  · rw [hPut_at, pk_us]; rfl
  · rw [hPut_ne (by decide), hPut_ne (by decide), hPut_ne (by decide)]; exact a3 j hj
  · have eb := e_behindBlanks (h.fr f) 0 (Nat.zero_le n)
    rw [Nat.sub_zero] at eb
    show Rn hc_X3_read 0 [some (.inr (some (3, 4))), some (.inr (some (6, 2))), none, none, none] [] S _
    refine r_step rfl rfl ?_
    refine r_getr rfl (rv_4_0 h.1) ?_
    refine r_callv rfl rfl a1 ?_
    iterate 11 refine r_step rfl rfl ?_
    refine r_call rfl rfl eb ?_
    iterate 3 refine r_step rfl rfl ?_
    exact q
theorem mF2_rel {T U : hS} (h : Rel T) (f : mF2 T U) : Rel U := by
  refine rel_scr h (f.1.mono (fun p hp => by unfold pScr; omega)) ?_ ?_ ?_
  · exact f.2 3 (by omega)
  · exact f.2 8 (by omega)
  · exact f.2 24 (by omega)
theorem e_tellsS {b c : Nat → Int32} {n : Nat} (T : hS) (h : mT b n T) (hc : ∀ j, j < 6 → c j = made_s j) : ∃ U0, mF2 T U0 ∧ mSt b n (bl b n 0) (nI 0) c U0 ∧ (∀ o, Rn hc_X10_tells 21 [some (.inr (some (10, 57))), some (.inl (nI 0))] [] U0 o → Ev 152 [.inr (some (10, 57))] T o) := by
  obtain ⟨T1, a1, a2, a3⟩ := e_plain T h.1
  have f1 : mF2 T T1 := ⟨a2.mono (fun p hp => Or.inr hp), fun j _ => by rw [a2.2.2 57 (by decide)]⟩
  have f2 : mF2 T (hPut (hPut (hPut T1 57 15 0) 57 9 0) 57 13 (-9)) := ((f1.trans (mF2.put T1 15 0 (by omega))).trans (mF2.put _ 9 0 (by omega))).trans (mF2.put _ 13 (-9) (by omega))
  have hT2 := h.f2 f2
  obtain ⟨U0, b1, b2, b3⟩ := e_next hT2 0 (Nat.zero_le n) (by rw [hPut_at, pk_un (by decide), hPut_at, pk_us]; rfl)
  rw [Nat.sub_zero] at b3
  have e65 : ∀ j, j < 6 → U0.2.1 65 j = made_s j := fun j hj => by
    rw [b2.1.2.2 65 (by decide), hPut_ne (by decide), hPut_ne (by decide), hPut_ne (by decide)]
    exact a3 j hj
  refine ⟨U0, f2.trans b2.to2, ⟨hT2.fr b2, b3, ?_, ?_, fun j hj _ => by rw [e65 j hj, hc j hj], ?_⟩, fun o q => ?_⟩
  · rw [b2.2 13 (by omega), hPut_at, pk_us]
  · rw [b2.2 15 (by omega), hPut_at, pk_un (by decide), hPut_at, pk_un (by decide), hPut_at, pk_us]; rfl
  · rw [e65 1 (by decide), if_neg (fun w => absurd w.1 (by decide)), hc 1 (by decide)]
  · show Rn hc_X10_tells 0 [some (.inr (some (10, 57))), none] [] T _
    refine r_step rfl rfl ?_
    refine r_callv rfl rfl a1 ?_
    iterate 9 refine r_step rfl rfl ?_
    refine r_callv rfl rfl b1 ?_
    exact q
theorem new_rng {st : Nat → Int32} (h : okSet st) : wRng st made_w := by
  obtain ⟨a0, a1, a2, a3, a4, a5⟩ := h
  obtain ⟨p1, p2⟩ := a4
  exact ⟨Or.inl rfl, ⟨by decide, by decide⟩, ⟨by decide, by decide⟩, ⟨by decide, by decide⟩, ⟨by decide, by decide⟩, ⟨by decide, by decide⟩, ⟨by decide, by decide⟩, ⟨by show -(st 4).toInt ≤ 0; omega, by show (0 : Int) ≤ (st 4).toInt; omega⟩, ⟨by decide, by decide⟩, Or.inr rfl, Or.inr rfl, Or.inl rfl⟩
set_option maxHeartbeats 4000000 in
set_option maxRecDepth 100000 in
theorem a_tells {S : hS} (h : Rel S) : Alk 155 152 [] S := by
  have hL := h.1
  obtain ⟨n, hn, en1, en2, hb⟩ := h.2.2.1
  have hcT : cT (S.2.1 64) n S := ⟨hL, hn, en1, fun i hi => (hb i hi).1⟩
  obtain ⟨T0, a1, a2, a3, a4⟩ := e_readS S hcT
  have bl0 := bl_le (S.2.1 64) n 0
  obtain ⟨r, w, r1, r2, r3⟩ := parse (S.2.1 64) n hn n (bl (S.2.1 64) n 0) 0 0 (T0.2.1 5) (by omega) (by omega) (by decide) (by omega) (made_set.congr a3)
  obtain ⟨T', b1, b2, b3⟩ := r2 T0 0 none (by omega) a2
  have fS : hFr S T' (fun p => p = 4 ∨ p = 5) := a1.trans b1
  have eR := a4 _ b3
  have hL' := hL.fr fS
  have relT : Rel T' := rel_scr h (fS.mono (fun p hp => by unfold pScr; omega)) (by rw [fS.2.2 57 (by decide)]) (by rw [fS.2.2 57 (by decide)]) (by rw [fS.2.2 57 (by decide)])
  have startC : ∀ o, Rn hc_X9_tells 13 [some (.inr (some (9, 0))), some (.inl r)] [.inl r] T' o → Ev 155 [.inr (some (9, 0))] S o := by
    intro o q
    show Rn hc_X9_tells 0 [some (.inr (some (9, 0))), none] [] S _
    refine r_step rfl rfl ?_
    refine r_getr rfl (rv_0_2 hL) ?_
    refine r_step rfl rfl ?_
    refine r_getr rfl (rv_0_1 hL) ?_
    refine r_call rfl rfl eR ?_
    iterate 2 refine r_step rfl rfl ?_
    exact q
  match w, r1, r2, r3, b2 with
  | none, r1, r2, r3, b2 =>
    obtain ⟨f, f1, f2⟩ := r1
    have rneg : ¬ (0 : Int32) ≤ r := by
      rw [f2, i_le, i_sub (by rw [ti (by omega), show (-10 : Int32).toInt = -10 from rfl]; omega) (by rw [ti (by omega), show (-10 : Int32).toInt = -10 from rfl]; omega), ti (by omega), show (-10 : Int32).toInt = -10 from rfl, i_z]
      omega
    obtain ⟨U0, c1, c2, c3⟩ := e_tellsS (c := T0.2.1 5) T' ⟨hL', hn, by rw [fS.2.2 57 (by decide)]; exact en2, fS.2.2 64 (by decide)⟩ a3
    obtain ⟨U', d1, d2, -⟩ := r3 U0 c2
    refine ⟨r, T', U', startC _ ?_, c3 _ (d2 rfl), mF2_rel relT (c1.trans d1)⟩
    refine r_step rfl rfl ?_
    refine r_i_ge (fun q => absurd q rneg) (fun _ => ?_)
    refine r_step rfl rfl ?_
    exact r_reti rfl rfl rfl
  | some f, r1, r2, r3, b2 =>
    obtain ⟨⟨i, i1, i2⟩, fok⟩ := r1
    have rpos : (0 : Int32) ≤ r := by rw [i2]; exact nI_pos' (by omega)
    have ef := b2 f rfl
    obtain ⟨S1, s1, s2, s3⟩ := e_setBecome T'
    have hS1 := hL'.fr s2
    have hS2 : hLay (hPut S1 2 1 0) := hS1.put _ _ _
    obtain ⟨S3, t1, t2, t3, t4, t5, t6, t7⟩ := e_presNew (hPut S1 2 1 0) hS2
    have hS3 := hS2.fr t2
    have hS4 : hLay (hPut S3 10 2 0) := hS3.put _ _ _
    have hS5 : hLay (hPut (hPut (hPut S3 10 2 0) 45 0 0) 45 1 0) := (hS4.put _ _ _).put _ _ _
    have eC : Ev 155 [.inr (some (9, 0))] S (some r, hPut (hPut (hPut (hPut S3 10 2 0) 45 0 0) 45 1 0) 46 4 0) := by
      refine startC _ ?_
      refine r_step rfl rfl ?_
      refine r_i_ge (fun _ => ?_) (fun q => absurd rpos q)
      refine r_step rfl rfl ?_
      refine r_getr rfl (rv_0_0 hL') ?_
      refine r_step rfl rfl ?_
      refine r_getr rfl (rv_0_2 hL') ?_
      refine r_getr rfl (rv_4_0 hL') ?_
      refine r_callv rfl rfl s1 ?_
      refine r_step rfl rfl ?_
      refine r_getr rfl (rv_0_1 hS1) ?_
      iterate 3 refine r_step rfl rfl ?_
      refine r_getr rfl (rv_0_3 hS2) ?_
      refine r_callv rfl rfl t1 ?_
      refine r_step rfl rfl ?_
      refine r_getr rfl (rv_0_4 hS3) ?_
      refine r_callv rfl rfl (e_lose S3) ?_
      refine r_step rfl rfl ?_
      refine r_callv rfl rfl (e_loseImages (hPut S3 10 2 0) hS4) ?_
      refine r_step rfl rfl ?_
      refine r_getr rfl (rv_0_7 hS5) ?_
      iterate 3 refine r_step rfl rfl ?_
      exact r_reti rfl rfl rfl
    have hi : ∀ p, (11 ≤ p ∧ p ≤ 44) ∨ 47 ≤ p → (hPut (hPut (hPut (hPut S3 10 2 0) 45 0 0) 45 1 0) 46 4 0).2.1 p = S.2.1 p := fun p hp => by
      rw [hPut_ne (by omega), hPut_ne (by omega), hPut_ne (by omega), hPut_ne (by omega), t2.2.2 p (by omega), hPut_ne (by omega), s2.2.2 p (by omega), fS.2.2 p (by omega)]
    have v1 : ∀ j, j < 6 → (hPut (hPut (hPut (hPut S3 10 2 0) 45 0 0) 45 1 0) 46 4 0).2.1 1 j = f j := fun j hj => by
      rw [hPut_ne (by decide), hPut_ne (by decide), hPut_ne (by decide), hPut_ne (by decide), t2.2.2 1 (by decide), hPut_ne (by decide), s3 j hj, ef j hj]
    have v2 : (hPut (hPut (hPut (hPut S3 10 2 0) 45 0 0) 45 1 0) 46 4 0).2.1 2 1 = 0 := by
      rw [hPut_ne (by decide), hPut_ne (by decide), hPut_ne (by decide), hPut_ne (by decide), t2.2.2 2 (by decide), hPut_at, pk_us]
    have v678 : ∀ p, p = 6 ∨ p = 7 ∨ p = 8 → (hPut (hPut (hPut (hPut S3 10 2 0) 45 0 0) 45 1 0) 46 4 0).2.1 p = S3.2.1 p := fun p hp => by
      rw [hPut_ne (by omega), hPut_ne (by omega), hPut_ne (by omega), hPut_ne (by omega)]
    have v10 : (hPut (hPut (hPut (hPut S3 10 2 0) 45 0 0) 45 1 0) 46 4 0).2.1 10 = upd (S.2.1 10) 2 0 := by
      rw [hPut_ne (by decide), hPut_ne (by decide), hPut_ne (by decide), hPut_at, t2.2.2 10 (by decide), hPut_ne (by decide), s2.2.2 10 (by decide), fS.2.2 10 (by decide)]
    have v45a : (hPut (hPut (hPut (hPut S3 10 2 0) 45 0 0) 45 1 0) 46 4 0).2.1 45 0 = 0 := by
      rw [hPut_ne (by decide), hPut_at, pk_un (by decide), hPut_at, pk_us]
    have v45b : (hPut (hPut (hPut (hPut S3 10 2 0) 45 0 0) 45 1 0) 46 4 0).2.1 45 1 = 0 := by
      rw [hPut_ne (by decide), hPut_at, pk_us]
    have v46 : (hPut (hPut (hPut (hPut S3 10 2 0) 45 0 0) 45 1 0) 46 4 0).2.1 46 4 = 0 := by
      rw [hPut_at, pk_us]
    have hLC : hLay (hPut (hPut (hPut (hPut S3 10 2 0) 45 0 0) 45 1 0) 46 4 0) := hS5.put _ _ _
    generalize hPut (hPut (hPut (hPut S3 10 2 0) 45 0 0) 45 1 0) 46 4 0 = SC at *
    obtain ⟨U0, c1, c2, c3⟩ := e_tellsS (c := T0.2.1 5) SC ⟨hLC, hn, by rw [hi 57 (by omega)]; exact en2, hi 64 (by omega)⟩ a3
    obtain ⟨U1, d1, -, d2⟩ := r3 U0 c2
    obtain ⟨d3, d4⟩ := d2 f rfl
    have fU := c1.trans d1
    have hLU := hLC.fr fU.1
    obtain ⟨U2, g1, g2, g3, g4, g5⟩ := e_takesOver U1 hLU
    have hLU2 := hLU.fr g2
    have hLU3 : hLay (hPut U2 57 3 0) := hLU2.put _ _ _
    have hLU4 : hLay (hPut (hPut U2 57 3 0) 62 0 0) := hLU3.put _ _ _
    refine ⟨r, SC, hPut (hPut (hPut (hPut (hPut U2 57 3 0) 62 0 0) 62 1 0) 57 24 0) 57 8 0, eC, c3 _ (d4 _ ?_), ?_⟩
    · refine r_step rfl rfl ?_
      refine r_callv rfl rfl g1 ?_
      iterate 4 refine r_step rfl rfl ?_
      refine r_getr rfl (rv_57_5 hLU3) ?_
      iterate 2 refine r_step rfl rfl ?_
      refine r_bast rfl 0 rfl ⟨⟨by decide, by decide⟩, by decide⟩ (Or.inl rfl) (fun _ e => ?_)
      subst e
      refine r_step rfl rfl ?_
      refine r_getr rfl (rv_57_5 hLU4) ?_
      iterate 2 refine r_step rfl rfl ?_
      refine r_bast rfl 1 rfl ⟨⟨by decide, by decide⟩, by decide⟩ (Or.inl rfl) (fun _ e => ?_)
      subst e
      iterate 7 refine r_step rfl rfl ?_
      exact r_reti rfl rfl rfl
    · have lo : ∀ p, p ≠ 57 → p ≠ 58 → p ≠ 62 → p ≠ 63 → p ≠ 65 → (hPut (hPut (hPut (hPut (hPut U2 57 3 0) 62 0 0) 62 1 0) 57 24 0) 57 8 0).2.1 p = SC.2.1 p := fun p h1 h2 h3 h4 h5 => by
        rw [hPut_ne h1, hPut_ne h1, hPut_ne h3, hPut_ne h3, hPut_ne h1, g2.2.2 p (by omega), fU.1.2.2 p (by omega)]
      have u58 : ∀ j, (hPut (hPut (hPut (hPut (hPut U2 57 3 0) 62 0 0) 62 1 0) 57 24 0) 57 8 0).2.1 58 j = U2.2.1 58 j := fun j => by
        rw [hPut_ne (by decide), hPut_ne (by decide), hPut_ne (by decide), hPut_ne (by decide), hPut_ne (by decide)]
      have u63 : ∀ j, j < 6 → (hPut (hPut (hPut (hPut (hPut U2 57 3 0) 62 0 0) 62 1 0) 57 24 0) 57 8 0).2.1 63 j = f j := fun j hj => by
        rw [hPut_ne (by decide), hPut_ne (by decide), hPut_ne (by decide), hPut_ne (by decide), hPut_ne (by decide), g3 j hj, d3 j hj]
      have u3 : (hPut (hPut (hPut (hPut (hPut U2 57 3 0) 62 0 0) 62 1 0) 57 24 0) 57 8 0).2.1 57 3 = 0 := by
        rw [hPut_at, pk_un (by decide), hPut_at, pk_un (by decide), hPut_ne (by decide), hPut_ne (by decide), hPut_at, pk_us]
      have u8 : (hPut (hPut (hPut (hPut (hPut U2 57 3 0) 62 0 0) 62 1 0) 57 24 0) 57 8 0).2.1 57 8 = 0 := by
        rw [hPut_at, pk_us]
      have u24 : (hPut (hPut (hPut (hPut (hPut U2 57 3 0) 62 0 0) 62 1 0) 57 24 0) 57 8 0).2.1 57 24 = 0 := by
        rw [hPut_at, pk_un (by decide), hPut_at, pk_us]
      have u62a : (hPut (hPut (hPut (hPut (hPut U2 57 3 0) 62 0 0) 62 1 0) 57 24 0) 57 8 0).2.1 62 0 = 0 := by
        rw [hPut_ne (by decide), hPut_ne (by decide), hPut_at, pk_un (by decide), hPut_at, pk_us]
      have u62b : (hPut (hPut (hPut (hPut (hPut U2 57 3 0) 62 0 0) 62 1 0) 57 24 0) 57 8 0).2.1 62 1 = 0 := by
        rw [hPut_ne (by decide), hPut_ne (by decide), hPut_at, pk_us]
      have hLF : hLay (hPut (hPut (hPut (hPut (hPut U2 57 3 0) 62 0 0) 62 1 0) 57 24 0) 57 8 0) := ((hLU4.put _ _ _).put _ _ _).put _ _ _
      generalize hPut (hPut (hPut (hPut (hPut U2 57 3 0) 62 0 0) 62 1 0) 57 24 0) 57 8 0 = F at *
      have okF : okSet (F.2.1 63) := fok.congr u63
      obtain ⟨p, z, p1, -, p3, -⟩ := h.2.2.2.2.1
      refine ⟨hLF, ⟨okF, fun j hj => ?_⟩, ⟨0, by decide, ?_, ?_, fun k hk => absurd hk (by omega)⟩, ⟨⟨fun j hj => ?_, ?_, ?_, ?_, 0, 0, by decide, by decide, ?_, ?_, fun k hk => absurd hk (by omega)⟩, ?_⟩, ⟨p, 0, p1, by decide, ?_, ?_, ?_, fun k hk => absurd hk (by omega)⟩, ?_, ⟨0, by decide, ?_, ?_, fun k hk => absurd hk (by omega)⟩⟩
      · rw [lo 1 (by decide) (by decide) (by decide) (by decide) (by decide), v1 j hj, u63 j hj]
      · rw [lo 2 (by decide) (by decide) (by decide) (by decide) (by decide), v2]; rfl
      · rw [u8]; rfl
      · show F.2.1 7 j = F.2.1 58 j
        rw [lo 7 (by decide) (by decide) (by decide) (by decide) (by decide), v678 7 (by omega), t3 j hj, u58 j, g4 j hj]
      · rw [lo 6 (by decide) (by decide) (by decide) (by decide) (by decide), v678 6 (by omega), t4, u58, g5 16 (by omega) (by omega)]
      · rw [lo 6 (by decide) (by decide) (by decide) (by decide) (by decide), v678 6 (by omega), t5, u58, g5 17 (by omega) (by omega)]
      · show F.2.1 8 2 = F.2.1 58 18
        rw [lo 8 (by decide) (by decide) (by decide) (by decide) (by decide), v678 8 (by omega), t7, u58, g5 18 (by omega) (by omega)]
      · show F.2.1 8 1 = nI 0
        rw [lo 8 (by decide) (by decide) (by decide) (by decide) (by decide), v678 8 (by omega), t6]; rfl
      · rw [u58, g5 18 (by omega) (by omega)]; rfl
      · have e58 : ∀ j, j < 16 → F.2.1 58 j = made_w j := fun j hj => (u58 j).trans (g4 j hj)
        refine ⟨(new_rng okF).congr rfl e58, made_pot.congr (e58 0 (by decide)) (e58 1 (by decide)) (e58 2 (by decide)), ?_, ?_, fun k hk => ?_⟩
        · rw [u58, g5 16 (by omega) (by omega)]; exact ⟨by decide, by decide⟩
        · rw [u58, g5 18 (by omega) (by omega)]; exact ⟨by decide, by decide⟩
        · rw [u58, g5 (19 + k) (by omega) (by omega)]; exact ⟨by decide, by decide⟩
      · rw [lo 10 (by decide) (by decide) (by decide) (by decide) (by decide), v10, pk_un (by decide)]; exact p3
      · rw [lo 10 (by decide) (by decide) (by decide) (by decide) (by decide), v10, pk_us]; rfl
      · rw [u3]; rfl
      · intro k hk
        have e1 : F.2.1 45 k = 0 := by
          rw [lo 45 (by decide) (by decide) (by decide) (by decide) (by decide)]
          match k, hk with
          | 0, _ => exact v45a
          | 1, _ => exact v45b
          | n + 2, h => exact absurd h (by omega)
        have e2 : F.2.1 62 k = 0 := by
          match k, hk with
          | 0, _ => exact u62a
          | 1, _ => exact u62b
          | n + 2, h => exact absurd h (by omega)
        rw [e1, e2]
        exact ⟨Or.inl rfl, rfl, fun h => absurd h (by decide)⟩
      · rw [lo 46 (by decide) (by decide) (by decide) (by decide) (by decide), v46]; rfl
      · rw [u24]; rfl
