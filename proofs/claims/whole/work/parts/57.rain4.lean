/-! The class pours, all of it; what it answers then. -/
theorem inn_mem (u : Nat → Int32) {y : Int32} : ∀ i, y ∈ inn u i → ∃ j, j < i ∧ y = u j
  | 0, h => (nomatch h)
  | 1, h => ⟨0, by omega, List.mem_singleton.1 h⟩
  | i + 2, h => by
    rw [inn_s] at h
    have go : y ∈ inn u (i + 1) → ∃ j, j < i + 2 ∧ y = u j := fun h => by
      obtain ⟨j, h1, h2⟩ := inn_mem u (i + 1) h
      exact ⟨j, by omega, h2⟩
    by_cases c : (u i < u (i + 1)) ↔ (u (i + 1) < u (i + 2))
    · rw [if_pos c] at h; exact go h
    · rw [if_neg c] at h
      rcases List.mem_cons.1 h with e | h
      · exact ⟨i + 1, by omega, e⟩
      · exact go h
theorem tn_bt {u : Nat → Int32} {n : Nat} (h : ∀ j, j < n → bt (u j) 0 999) : ∀ y ∈ tn u n, bt y 0 999 := by
  intro y hy
  match n, h, hy with
  | n + 1, h, hy =>
    rcases List.mem_cons.1 hy with e | hy
    · rw [e]; exact h n (by omega)
    · obtain ⟨j, h1, h2⟩ := inn_mem u n hy
      rw [h2]; exact h j (by omega)
theorem uP_bt {x : Nat → Int32} : ∀ k u n, (∀ i, i < k → bt (x i) 0 999) → (∀ j, j < n → bt (u j) 0 999) → ∀ j, j < (uP x k u n).2 → bt ((uP x k u n).1 j) 0 999
  | 0, u, n, _, h, j, hj => h j hj
  | k + 1, u, n, hx, h, j, hj => by
    rw [uP_s] at hj ⊢
    refine uP_bt k _ _ (fun i hi => hx i (by omega)) ?_ j hj
    intro i
    unfold uS
    by_cases c : ¬ n = 0 ∧ u (n - 1) = x k
    · rw [if_pos c]; exact h i
    · rw [if_neg c]
      intro hi
      have hi2 : i < n + 1 := hi
      show bt (upd u n (x k) i) 0 999
      by_cases f : i = n
      · rw [f, pk_us]; exact hx k (by omega)
      · rw [pk_un f]; exact h i (by omega)
/-- what is known after the rain, on the class's side: TL the turns, and the log of the halves -/
def lgOf (t f : Nat → Int32) (n : Nat) : List (Nat × Nat) := lg f (po t n).2.2 ((po t n).1.length - 1)
set_option maxHeartbeats 4000000 in
set_option maxRecDepth 100000 in
theorem e_pour (z : Nat) (hz : z ≤ 40) (x u0 : Nat → Int32) (hx : ∀ i, i < z → bt (x i) 0 999) (S : hS) (hL : hLay S) (hs : spd S z x) : ∃ S' t f, Ev 123 [.inr (some (2, 51)), .inr (some (7, 8))] S (none, S') ∧ hFr S S' (fun p => 51 ≤ p ∧ p ≤ 55) ∧ rL t (tn (uP x z u0 0).1 (uP x z u0 0).2) ∧ S'.2.1 51 1 = nI (tn (uP x z u0 0).1 (uP x z u0 0).2).length ∧ rL f (po t (tn (uP x z u0 0).1 (uP x z u0 0).2).length).1 ∧ S'.2.1 51 7 = nI (po t (tn (uP x z u0 0).1 (uP x z u0 0).2).length).2.1 ∧ hvC S' (lgOf t f (tn (uP x z u0 0).1 (uP x z u0 0).2).length) := by
  have hbt := tn_bt (uP_bt z u0 0 hx (fun j hj => absurd hj (by omega)))
  have hlen := Nat.le_trans (tn_len (uP x z u0 0).1 (uP x z u0 0).2) (uP_n x z u0 0)
  obtain ⟨nn, n1, n2, n3, n4⟩ := hs
  have E : ∀ p, p ≠ 51 → (hPut (hPut (hPut (hPut S 51 1 0) 51 3 0) 51 6 0) 51 7 0).2.1 p = S.2.1 p := fun p hp => by rw [hPut_ne hp, hPut_ne hp, hPut_ne hp, hPut_ne hp]
  have e1 : (hPut (hPut (hPut (hPut S 51 1 0) 51 3 0) 51 6 0) 51 7 0).2.1 51 1 = 0 := by rw [hPut_at, pk_un (by decide), hPut_at, pk_un (by decide), hPut_at, pk_un (by decide), hPut_at, pk_us]
  have e3 : (hPut (hPut (hPut (hPut S 51 1 0) 51 3 0) 51 6 0) 51 7 0).2.1 51 3 = 0 := by rw [hPut_at, pk_un (by decide), hPut_at, pk_un (by decide), hPut_at, pk_us]
  have e6 : (hPut (hPut (hPut (hPut S 51 1 0) 51 3 0) 51 6 0) 51 7 0).2.1 51 6 = 0 := by rw [hPut_at, pk_un (by decide), hPut_at, pk_us]
  have e7 : (hPut (hPut (hPut (hPut S 51 1 0) 51 3 0) 51 6 0) 51 7 0).2.1 51 7 = 0 := by rw [hPut_at, pk_us]
  have fr0 : hFr S (hPut (hPut (hPut (hPut S 51 1 0) 51 3 0) 51 6 0) 51 7 0) (fun p => 51 ≤ p ∧ p ≤ 55) := (((hFr_put S 51 1 0 ⟨by decide, by decide⟩).trans (hFr_put _ _ _ _ ⟨by decide, by decide⟩)).trans (hFr_put _ _ _ _ ⟨by decide, by decide⟩)).trans (hFr_put _ _ _ _ ⟨by decide, by decide⟩)
  have hL0 := hL.fr fr0
  have start : ∀ o, Rn hc_X2_pour 27 [some (.inr (some (2, 51))), some (.inr (some (7, 8))), some (.inl (nI z + -1))] [] (hPut (hPut (hPut (hPut S 51 1 0) 51 3 0) 51 6 0) 51 7 0) o → Ev 123 [.inr (some (2, 51)), .inr (some (7, 8))] S o := by
    intro o k
    show Rn hc_X2_pour 0 [some (.inr (some (2, 51))), some (.inr (some (7, 8))), none] [] S _
    iterate 14 refine r_step rfl rfl ?_
    rw [E 8 (by decide), n3]
    iterate 2 refine r_step rfl rfl ?_
    rw [show nI z - 1 = nI z + -1 from Int32.sub_eq_add_neg ..]
    refine r_step rfl rfl ?_
    exact k
  generalize hPut (hPut (hPut (hPut S 51 1 0) 51 3 0) 51 6 0) 51 7 0 = S0 at *
  obtain ⟨S1, a1, a2, a3, a4⟩ := pour1 z hz x z u0 0 S0 (by omega) (Nat.le_refl _) hL0 ⟨nn, n1, by rw [E 8 (by decide)]; exact n2, by rw [E 8 (by decide)]; exact n3, by rw [E 9 (by decide)]; exact n4⟩ ⟨trivial, e1⟩
  generalize hTL : tn (uP x z u0 0).1 (uP x z u0 0).2 = TL at *
  have hL1 := hL0.fr a1
  obtain ⟨c1, c2⟩ := a3
  rw [hTL] at c1 c2
  have ht : ∀ i, i < TL.length → bt (S1.2.1 52 i) 0 999 := fun i hi => hbt _ (rL_mem c1 i hi)
  obtain ⟨S2, b1, b2, b3, b4⟩ := pour2 (S1.2.1 52) TL.length (by omega) ht TL.length 0 S1 (by omega) hL1 rfl c2 ⟨trivial, by rw [a2 3 (by decide)]; exact e3, by rw [a2 7 (by decide)]; exact e7, fun _ => 0, by rw [a2 6 (by decide)]; exact e6, fun p hp => absurd hp (Nat.not_lt_zero p), fun p q hp => absurd hp (Nat.not_lt_zero p), fun n hn => absurd hn (Nat.not_lt_zero 0), rfl⟩
  have hL2 := hL1.fr b1
  have hg := gd_po TL.length ht
  generalize hP : po (S1.2.1 52) TL.length = P at *
  obtain ⟨g1, g2, g3, g4, -⟩ := hg
  obtain ⟨d1, d2, d3, d4⟩ := b3
  obtain ⟨S3, f1, f2, f3, f4⟩ := pour3 (S2.2.1 53) P.2.2 P.1.length (fun i hi => g1 _ (rL_mem d1 i hi)) (by omega) (P.1.length - 1) 0 S2 (by omega) hL2 rfl d2 d4
  refine ⟨S3, S1.2.1 52, S2.2.1 53, start _ (a4 _ ?_), ?_, c1, ?_, ?_, ?_, ?_⟩
  · iterate 2 refine r_step rfl rfl ?_
    refine b4 _ ?_
    iterate 2 refine r_step rfl rfl ?_
    exact f4
  · exact ((fr0.trans (a1.mono (fun p hp => by omega))).trans (b1.mono (fun p hp => by omega))).trans (f1.mono (fun p hp => by omega))
  · rw [f2 1 (by decide), b2 1 (by decide) (by decide) (by decide)]; exact c2
  · rw [hP]; exact d1
  · rw [hP, f2 7 (by decide)]; exact d3
  · unfold lgOf
    rw [hP]
    exact f3
theorem e_hvOf (n : Nat) (hn : n < 1000) (S : hS) (g : List (Nat × Nat)) (hL : hLay S) (h : hvC S g) (hg : g.length ≤ 40) : Ev 73 [.inr (some (2, 51)), .inl (nI n)] S (some (nI (cnt g n)), S) := by
  obtain ⟨d, h6, hd, hi, hs, ht⟩ := h
  have kl := kd_le g
  obtain ⟨p, b1, b2, b3, b4⟩ := e_placeOf n hn d (kd g) (by omega) S hL h6 (fun p hp => ⟨(hd p hp).1, (hd p hp).2.1⟩)
  show Rn hc_X2_halvesOf 0 [some (.inr (some (2, 51))), some (.inl (nI n)), none] [] S _
  iterate 2 refine r_step rfl rfl ?_
  refine r_call rfl rfl b4 ?_
  iterate 5 refine r_step rfl rfl ?_
  rw [h6]
  by_cases c : p < kd g
  · refine r_i_ge (fun q => absurd q (nI_ge c (by omega))) (fun _ => ?_)
    refine r_step rfl rfl ?_
    refine r_getr rfl (rv_51_5 hL) ?_
    refine r_step rfl rfl ?_
    refine r_iald rfl p (ti (by omega)) ⟨⟨by decide, by decide⟩, by show p < 40; omega⟩ ?_
    refine r_step rfl rfl ?_
    exact r_reti rfl (by rw [(hd p c).2.2.1, b3 c]) rfl
  · refine r_i_ge (fun _ => ?_) (fun q => absurd (nI_le (by omega) (by omega)) q)
    refine r_step rfl rfl ?_
    refine r_reti rfl ?_ rfl
    have c0 : cnt g n = 0 := by
      by_cases f : cnt g n = 0
      · exact f
      · obtain ⟨q, q1, q2⟩ := hs n (by omega)
        exact absurd q2 (b2 q (by omega))
    rw [c0]; rfl
theorem e_allHalves (S : hS) (g : List (Nat × Nat)) (hL : hLay S) (h : hvC S g) (hg : g.length ≤ 40) : Ev 27 [.inr (some (2, 51))] S (some (nI (tw g)), S) := by
  obtain ⟨d, h6, hd, hi, hs, ht⟩ := h
  have kl := kd_le g
  have lp : ∀ c p, p + c = kd g → Rn hc_X2_allHalves 4 [some (.inr (some (2, 51))), some (.inl (nI (sumN (fun p => cnt g (d p)) p))), some (.inl (nI p))] [] S (some (nI (tw g)), S) := by
    intro c
    induction c with
    | zero =>
      intro p hp
      have : p = kd g := by omega
      subst this
      iterate 4 refine r_step rfl rfl ?_
      rw [h6]
      refine r_i_ge (fun _ => ?_) (fun q => absurd (nI_le (Nat.le_refl _) (by omega)) q)
      refine r_step rfl rfl ?_
      exact r_reti rfl (by rw [ht]) rfl
    | succ c ih =>
      intro p hp
      have k := ih (p + 1) (by omega)
      iterate 4 refine r_step rfl rfl ?_
      rw [h6]
      refine r_i_ge (fun q => absurd q (nI_ge (by omega) (by omega))) (fun _ => ?_)
      iterate 2 refine r_step rfl rfl ?_
      refine r_getr rfl (rv_51_5 hL) ?_
      refine r_step rfl rfl ?_
      refine r_iald rfl p (ti (by omega)) ⟨⟨by decide, by decide⟩, by show p < 40; omega⟩ ?_
      rw [(hd p (by omega)).2.2.1]
      iterate 2 refine r_step rfl rfl ?_
      rw [nI_add]
      iterate 2 refine r_step rfl rfl ?_
      show Rn hc_X2_allHalves 4 [some (.inr (some (2, 51))), some (.inl (nI (sumN (fun p => cnt g (d p)) p + cnt g (d p)))), some (.inl (nI p + 1))] [] _ _
      rw [nI_s1]
      exact k
  show Rn hc_X2_allHalves 0 [some (.inr (some (2, 51))), none, none] [] S _
  iterate 4 refine r_step rfl rfl ?_
  exact lp (kd g) 0 (by omega)
def mxP (g : List (Nat × Nat)) (r : Int32) : Prop := (r = -9 ∧ ∀ n, cnt g n = 0) ∨ ∃ n, n < 1000 ∧ r = nI n ∧ 0 < cnt g n ∧ ∀ m, 0 < cnt g m → m ≤ n
theorem mxP_eq {g : List (Nat × Nat)} {r s : Int32} (h : mxP g r) (k : mxP g s) : r = s := by
  rcases h with ⟨h1, h2⟩ | ⟨n, h1, h2, h3, h4⟩
  · rcases k with ⟨k1, k2⟩ | ⟨m, k1, k2, k3, k4⟩
    · rw [h1, k1]
    · exact absurd k3 (by rw [h2 m]; omega)
  · rcases k with ⟨k1, k2⟩ | ⟨m, k1, k2, k3, k4⟩
    · exact absurd h3 (by rw [k2 n]; omega)
    · have a := h4 m k3
      have b := k4 n h3
      rw [h2, k2, show n = m by omega]
theorem e_greatest (S : hS) (g : List (Nat × Nat)) (hL : hLay S) (h : hvC S g) (hg : g.length ≤ 40) : ∃ r, mxP g r ∧ Ev 72 [.inr (some (2, 51))] S (some r, S) := by
  obtain ⟨d, h6, hd, hi, hs, ht⟩ := h
  have kl := kd_le g
  have lp : ∀ c p v, p + c = kd g → ((p = 0 ∧ v = -9) ∨ ∃ q, q < p ∧ v = nI (d q) ∧ ∀ q', q' < p → d q' ≤ d q) → ∃ r, mxP g r ∧ Rn hc_X2_greatestDifference 5 [some (.inr (some (2, 51))), some (.inl v), some (.inl (nI p))] [] S (some r, S) := by
    intro c
    induction c with
    | zero =>
      intro p v hp hv
      have : p = kd g := by omega
      subst this
      refine ⟨v, ?_, ?_⟩
      · rcases hv with ⟨h1, h2⟩ | ⟨q, q1, q2, q3⟩
        · refine Or.inl ⟨h2, fun n => ?_⟩
          by_cases f : cnt g n = 0
          · exact f
          · obtain ⟨q, q1, q2⟩ := hs n (by omega)
            omega
        · refine Or.inr ⟨d q, (hd q q1).1, q2, (hd q q1).2.2.2, fun m hm => ?_⟩
          obtain ⟨q', e1, e2⟩ := hs m hm
          rw [← e2]
          exact q3 q' e1
      · iterate 4 refine r_step rfl rfl ?_
        rw [h6]
        refine r_i_ge (fun _ => ?_) (fun q => absurd (nI_le (Nat.le_refl _) (by omega)) q)
        refine r_step rfl rfl ?_
        exact r_reti rfl rfl rfl
    | succ c ih =>
      intro p v hp hv
      obtain ⟨d1, d2, -⟩ := hd p (by omega)
      have jm : ((p + 1 = 0 ∧ jmax v (nI (d p)) = -9) ∨ ∃ q, q < p + 1 ∧ jmax v (nI (d p)) = nI (d q) ∧ ∀ q', q' < p + 1 → d q' ≤ d q) := by
        refine Or.inr ?_
        rcases hv with ⟨h1, h2⟩ | ⟨q, q1, q2, q3⟩
        · refine ⟨p, by omega, ?_, fun q' hq => by rw [show q' = p by omega]; exact Nat.le_refl _⟩
          unfold jmax
          rw [h2]
          by_cases f : (-9 : Int32) < nI (d p)
          · rw [if_pos f]
          · exact absurd (by rw [i_lt, ti (by omega), show (-9 : Int32).toInt = -9 from rfl]; omega) f
        · unfold jmax
          rw [q2]
          by_cases f : nI (d q) < nI (d p)
          · rw [if_pos f]
            rw [nle_lit (by omega) (by have := (hd q (by omega)).1; omega)] at f
            refine ⟨p, by omega, rfl, fun q' hq => ?_⟩
            by_cases e : q' = p
            · rw [e]; exact Nat.le_refl _
            · have := q3 q' (by omega); omega
          · rw [if_neg f]
            rw [nle_lit (by omega) (by have := (hd q (by omega)).1; omega)] at f
            refine ⟨q, by omega, rfl, fun q' hq => ?_⟩
            by_cases e : q' = p
            · rw [e]; omega
            · exact q3 q' (by omega)
      obtain ⟨r, b1, b2⟩ := ih (p + 1) (jmax v (nI (d p))) (by omega) jm
      refine ⟨r, b1, ?_⟩
      iterate 4 refine r_step rfl rfl ?_
      rw [h6]
      refine r_i_ge (fun q => absurd q (nI_ge (by omega) (by omega))) (fun _ => ?_)
      iterate 2 refine r_step rfl rfl ?_
      refine r_getr rfl (rv_51_4 hL) ?_
      refine r_step rfl rfl ?_
      refine r_iald rfl p (ti (by omega)) ⟨⟨by decide, by decide⟩, by show p < 40; omega⟩ ?_
      rw [d2]
      refine r_call rfl rfl (e_max _ _ _) ?_
      iterate 3 refine r_step rfl rfl ?_
      show Rn hc_X2_greatestDifference 5 [some (.inr (some (2, 51))), some (.inl (jmax v (nI (d p)))), some (.inl (nI p + 1))] [] _ _
      rw [nI_s1]
      exact b2
  obtain ⟨r, b1, b2⟩ := lp (kd g) 0 (-9) (by omega) (Or.inl ⟨rfl, rfl⟩)
  refine ⟨r, b1, ?_⟩
  show Rn hc_X2_greatestDifference 0 [some (.inr (some (2, 51))), none, none] [] S _
  iterate 4 refine r_step rfl rfl ?_
  exact b2
