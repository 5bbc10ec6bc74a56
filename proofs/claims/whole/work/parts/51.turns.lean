/-! The turns of a row of speeds. -/
def rL (f : Nat → Int32) : List Int32 → Prop
  | [] => True
  | x :: R => f R.length = x ∧ rL f R
theorem rL.up {f : Nat → Int32} {k : Nat} {v : Int32} : ∀ {R : List Int32}, rL f R → R.length ≤ k → rL (upd f k v) R
  | [], _, _ => trivial
  | x :: R, h, hk => by
    have hk2 : R.length + 1 ≤ k := hk
    exact ⟨by rw [pk_un (by omega)]; exact h.1, rL.up h.2 (by omega)⟩
theorem rL.push {f : Nat → Int32} {v : Int32} {R : List Int32} (h : rL f R) : rL (upd f R.length v) (v :: R) := ⟨pk_us .., h.up (Nat.le_refl _)⟩
def inn (u : Nat → Int32) : Nat → List Int32
  | 0 => []
  | 1 => [u 0]
  | i + 2 => if (u i < u (i + 1)) ↔ (u (i + 1) < u (i + 2)) then inn u (i + 1) else u (i + 1) :: inn u (i + 1)
theorem inn_s (u : Nat → Int32) (i : Nat) : inn u (i + 2) = if (u i < u (i + 1)) ↔ (u (i + 1) < u (i + 2)) then inn u (i + 1) else u (i + 1) :: inn u (i + 1) := rfl
def tn (u : Nat → Int32) : Nat → List Int32
  | 0 => []
  | n + 1 => u n :: inn u n
theorem inn_hd (u : Nat → Int32) : ∀ i, ∃ p Q, inn u (i + 1) = p :: Q ∧ (p < u (i + 1) ↔ u i < u (i + 1))
  | 0 => ⟨u 0, [], rfl, Iff.rfl⟩
  | i + 1 => by
    rw [inn_s]
    by_cases c : (u i < u (i + 1)) ↔ (u (i + 1) < u (i + 2))
    · obtain ⟨p, Q, e, k⟩ := inn_hd u i
      rw [if_pos c]
      refine ⟨p, Q, e, ?_⟩
      show p < u (i + 2) ↔ u (i + 1) < u (i + 2)
      simp only [i_lt] at *
      omega
    · rw [if_neg c]
      exact ⟨_, _, rfl, Iff.rfl⟩
theorem inn_c {u v : Nat → Int32} : ∀ i, (∀ j, j ≤ i → u j = v j) → inn u i = inn v i
  | 0, _ => rfl
  | 1, h => by show [u 0] = [v 0]; rw [h 0 (by omega)]
  | i + 2, h => by rw [inn_s, inn_s, inn_c (i + 1) (fun j hj => h j (by omega)), h i (by omega), h (i + 1) (by omega), h (i + 2) (by omega)]
theorem inn_len (u : Nat → Int32) : ∀ i, (inn u i).length ≤ i
  | 0 => Nat.le_refl _
  | 1 => Nat.le_refl _
  | i + 2 => by
    have k := inn_len u (i + 1)
    rw [inn_s]
    by_cases c : (u i < u (i + 1)) ↔ (u (i + 1) < u (i + 2))
    · rw [if_pos c]; omega
    · rw [if_neg c]; show (inn u (i + 1)).length + 1 ≤ _; omega
theorem tn_len (u : Nat → Int32) : ∀ n, (tn u n).length ≤ n
  | 0 => Nat.le_refl _
  | n + 1 => by have := inn_len u n; show (inn u n).length + 1 ≤ _; omega
def uS (x : Int32) (u : Nat → Int32) (n : Nat) : (Nat → Int32) × Nat := if ¬ n = 0 ∧ u (n - 1) = x then (u, n) else (upd u n x, n + 1)
theorem sub_lit {a b : Nat} {x : Int32} (hx : x = nI b) (h : a + b < 2147483648) : nI (a + b) - x = nI a := by
  rw [hx, i_eq, i_sub (by rw [ti h, ti (by omega)]; omega) (by rw [ti h, ti (by omega)]; omega), ti h, ti (by omega), ti (by omega)]
  omega
theorem lt_lit1 {n : Nat} (h0 : 1 < n) (h : n < 2147483648) : ¬ nI n ≤ 1 := by rw [i_le, ti h, i_one]; omega
def tOk (S : hS) (u : Nat → Int32) (n : Nat) : Prop := rL (S.2.1 52) (tn u n) ∧ S.2.1 51 1 = nI (tn u n).length
theorem ft_push (x : Int32) (l2 l3 : Option hV) (S : hS) (TL : List Int32) (hL : hLay S) (hc : S.2.1 51 1 = nI TL.length) (hl : TL.length < 40) : Rn hc_X2_findTurn 101 [some (.inr (some (2, 51))), some (.inl x), l2, l3] [] S (none, hPut (hPut S 52 TL.length x) 51 1 (nI (TL.length + 1))) := by
  iterate 4 refine r_step rfl rfl ?_
  rw [hc]
  refine r_i_ge (fun q => absurd q (lt_lit (N := 40) rfl (by decide) hl)) (fun _ => ?_)
  refine r_step rfl rfl ?_
  refine r_getr rfl (rv_51_0 hL) ?_
  iterate 3 refine r_step rfl rfl ?_
  refine r_iast0 rfl TL.length (by rw [hc]; exact ti (by omega)) ⟨⟨by decide, by decide⟩, hl⟩ ?_
  iterate 6 refine r_step rfl rfl ?_
  rw [hPut_ne (show 51 ≠ 52 by decide), hc, nI_s1]
  exact r_retn rfl rfl
set_option maxHeartbeats 4000000 in
set_option maxRecDepth 100000 in
theorem e_findTurn (x : Int32) (u : Nat → Int32) (n : Nat) (S : hS) (hL : hLay S) (hn : n < 40) (h : tOk S u n) : ∃ S', Ev 28 [.inr (some (2, 51)), .inl x] S (none, S') ∧ hFr S S' (fun p => p = 51 ∨ p = 52) ∧ (∀ j, j ≠ 1 → S'.2.1 51 j = S.2.1 51 j) ∧ tOk S' (uS x u n).1 (uS x u n).2 := by
  obtain ⟨hr1, hc⟩ := h
  have psh : ∀ (TL : List Int32) (v : Nat → Int32) (m : Nat), rL (S.2.1 52) TL → tn v m = x :: TL → hFr S (hPut (hPut S 52 TL.length x) 51 1 (nI (TL.length + 1))) (fun p => p = 51 ∨ p = 52) ∧ (∀ j, j ≠ 1 → (hPut (hPut S 52 TL.length x) 51 1 (nI (TL.length + 1))).2.1 51 j = S.2.1 51 j) ∧ tOk (hPut (hPut S 52 TL.length x) 51 1 (nI (TL.length + 1))) v m := by
    intro TL v m h52 e
    refine ⟨(hFr_put _ _ _ _ (Or.inr rfl)).trans (hFr_put _ _ _ _ (Or.inl rfl)), fun j hj => ?_, ?_, ?_⟩
    · rw [hPut_at, pk_un hj, hPut_ne (by decide)]
    · rw [hPut_ne (by decide), hPut_at, e]; exact h52.push
    · rw [hPut_at, pk_us, e]; rfl
  match n, hn, hr1, hc with
  | 0, _, _, hc =>
    have e : tn (upd u 0 x) 1 = x :: [] := by show [upd u 0 x 0] = _; rw [pk_us]
    have e2 : uS x u 0 = (upd u 0 x, 1) := if_neg (fun q => q.1 rfl)
    refine ⟨_, ?_, psh [] (upd u 0 x) 1 trivial e |>.1, (psh [] (upd u 0 x) 1 trivial e).2.1, by rw [e2]; exact (psh [] (upd u 0 x) 1 trivial e).2.2⟩
    show Rn hc_X2_findTurn 0 [some (.inr (some (2, 51))), some (.inl x), none, none] [] S _
    have hc0 : S.2.1 51 1 = 0 := hc
    iterate 3 refine r_step rfl rfl ?_
    rw [hc0]
    refine r_i_le (fun _ => ?_) (fun q => absurd (show (0 : Int32) ≤ 0 by decide) q)
    iterate 4 refine r_step rfl rfl ?_
    rw [hc0]
    refine r_i_le (fun _ => ?_) (fun q => absurd (show (0 : Int32) ≤ 1 by decide) q)
    exact ft_push x _ _ S [] hL hc (by decide)
  | m + 1, hn, hr1, hc =>
    obtain ⟨ha, hR⟩ := hr1
    have hc1 : S.2.1 51 1 = nI ((inn u m).length + 1) := hc
    have hlen := inn_len u m
    have start : ∀ o, Rn hc_X2_findTurn 19 [some (.inr (some (2, 51))), some (.inl x), none, none] [.inl x, .inl (u m)] S o → Ev 28 [.inr (some (2, 51)), .inl x] S o := by
      intro o q
      show Rn hc_X2_findTurn 0 [some (.inr (some (2, 51))), some (.inl x), none, none] [] S _
      iterate 3 refine r_step rfl rfl ?_
      refine r_i_le (fun p => absurd p (by rw [hc1]; exact nI_nle (by omega) (by omega))) (fun _ => ?_)
      refine r_step rfl rfl ?_
      refine r_getr rfl (rv_51_0 hL) ?_
      iterate 4 refine r_step rfl rfl ?_
      refine r_iald rfl (inn u m).length (by rw [hc1, nI_pred]; exact ti (by omega)) ⟨⟨by decide, by decide⟩, by show (inn u m).length < 40; omega⟩ ?_
      rw [ha]
      refine r_step rfl rfl ?_
      exact q
    by_cases cx : u m = x
    · have e2 : uS x u (m + 1) = (u, m + 1) := if_pos ⟨by omega, cx⟩
      refine ⟨S, start _ ?_, hFr.rf _ _, fun _ _ => rfl, by rw [e2]; exact ⟨⟨ha, hR⟩, hc⟩⟩
      refine r_step rfl rfl ?_
      refine r_i_ne (fun q => absurd cx q) (fun _ => ?_)
      exact r_retn rfl rfl
    have e2 : uS x u (m + 1) = (upd u (m + 1) x, m + 2) := if_neg (fun q => cx q.2)
    rw [e2]
    match m, hn, ha, hR, hc, hc1, hlen, start, cx with
    | 0, hn, ha, hR, hc, hc1, hlen, start, cx =>
      have e : tn (upd u 1 x) 2 = x :: tn u 1 := by show [upd u 1 x 1, upd u 1 x 0] = _; rw [pk_us, pk_un (by decide)]; rfl
      have hc2 : S.2.1 51 1 = 1 := hc
      refine ⟨_, start _ ?_, psh (tn u 1) (upd u 1 x) 2 ⟨ha, hR⟩ e⟩
      refine r_step rfl rfl ?_
      refine r_i_ne (fun _ => ?_) (fun q => absurd q cx)
      iterate 4 refine r_step rfl rfl ?_
      rw [hc2]
      refine r_i_le (fun _ => ?_) (fun q => absurd (show (1 : Int32) ≤ 1 by decide) q)
      exact ft_push x _ _ S (tn u 1) hL hc (show (1 : Nat) < 40 by decide)
    | j + 1, hn, ha, hR, hc, hc1, hlen, start, cx =>
      obtain ⟨p, Q, eI, kd⟩ := inn_hd u j
      have ec : inn (upd u (j + 2) x) (j + 1) = inn u (j + 1) := inn_c _ (fun i hi => pk_un (by omega))
      have et : tn (upd u (j + 2) x) (j + 3) = if (u j < u (j + 1)) ↔ (u (j + 1) < x) then x :: inn u (j + 1) else x :: u (j + 1) :: inn u (j + 1) := by
        show upd u (j + 2) x (j + 2) :: inn (upd u (j + 2) x) (j + 2) = _
        rw [inn_s, ec, pk_us, pk_un (show j ≠ j + 2 by omega), pk_un (show j + 1 ≠ j + 2 by omega)]
        by_cases c : (u j < u (j + 1)) ↔ (u (j + 1) < x)
        · rw [if_pos c, if_pos c]
        · rw [if_neg c, if_neg c]
      rw [eI] at hR ha hc1 hlen
      have hp : S.2.1 52 Q.length = p := hR.1
      have ha2 : S.2.1 52 (Q.length + 1) = u (j + 1) := ha
      have hc2 : S.2.1 51 1 = nI (Q.length + 2) := hc1
      have hlen2 : Q.length + 1 ≤ j + 1 := hlen
      have w1 : ∀ o, (∀ w : Int32, (w = 1 ∧ p < u (j + 1) ∨ w = 0 ∧ ¬ p < u (j + 1)) → Rn hc_X2_findTurn 61 [some (.inr (some (2, 51))), some (.inl x), none, none] [.inl w] S o) → Ev 28 [.inr (some (2, 51)), .inl x] S o := by
        intro o q
        refine start _ ?_
        refine r_step rfl rfl ?_
        refine r_i_ne (fun _ => ?_) (fun q => absurd q cx)
        iterate 4 refine r_step rfl rfl ?_
        refine r_i_le (fun p => absurd p (by rw [hc2]; exact lt_lit1 (by omega) (by omega))) (fun _ => ?_)
        refine r_step rfl rfl ?_
        refine r_getr rfl (rv_51_0 hL) ?_
        iterate 4 refine r_step rfl rfl ?_
        refine r_iald rfl (Q.length + 1) (by rw [hc2, nI_pred]; exact ti (by omega)) ⟨⟨by decide, by decide⟩, by show Q.length + 1 < 40; omega⟩ ?_
        rw [ha2]
        refine r_step rfl rfl ?_
        refine r_getr rfl (rv_51_0 hL) ?_
        iterate 4 refine r_step rfl rfl ?_
        refine r_iald rfl Q.length (by rw [hc2, sub_lit (x := 2) (b := 2) rfl (by omega)]; exact ti (by omega)) ⟨⟨by decide, by decide⟩, by show Q.length < 40; omega⟩ ?_
        rw [hp]
        refine r_step rfl rfl ?_
        refine r_i_le (fun c => ?_) (fun c => ?_)
        · refine r_step rfl rfl ?_
          exact q 0 (Or.inr ⟨rfl, by rw [i_lt]; rw [i_le] at c; omega⟩)
        · iterate 2 refine r_step rfl rfl ?_
          exact q 1 (Or.inl ⟨rfl, by rw [i_lt]; rw [i_le] at c; omega⟩)
      have w2 : ∀ o, (∀ w v : Int32, (w = 1 ∧ p < u (j + 1) ∨ w = 0 ∧ ¬ p < u (j + 1)) → (v = 1 ∧ u (j + 1) < x ∨ v = 0 ∧ ¬ u (j + 1) < x) → Rn hc_X2_findTurn 85 [some (.inr (some (2, 51))), some (.inl x), some (.inl w), some (.inl v)] [.inl v, .inl w] S o) → Ev 28 [.inr (some (2, 51)), .inl x] S o := by
        intro o q
        refine w1 _ (fun w hw => ?_)
        iterate 3 refine r_step rfl rfl ?_
        refine r_getr rfl (rv_51_0 hL) ?_
        iterate 4 refine r_step rfl rfl ?_
        refine r_iald rfl (Q.length + 1) (by rw [hc2, nI_pred]; exact ti (by omega)) ⟨⟨by decide, by decide⟩, by show Q.length + 1 < 40; omega⟩ ?_
        rw [ha2]
        refine r_step rfl rfl ?_
        refine r_i_le (fun c => ?_) (fun c => ?_)
        · iterate 4 refine r_step rfl rfl ?_
          exact q w 0 hw (Or.inr ⟨rfl, by rw [i_lt]; rw [i_le] at c; omega⟩)
        · iterate 5 refine r_step rfl rfl ?_
          exact q w 1 hw (Or.inl ⟨rfl, by rw [i_lt]; rw [i_le] at c; omega⟩)
      by_cases c : (u j < u (j + 1)) ↔ (u (j + 1) < x)
      · rw [if_pos c, eI] at et
        refine ⟨hPut S 52 (Q.length + 1) x, w2 _ (fun w v hw hv => ?_), hFr_put _ _ _ _ (Or.inr rfl), fun i hi => by rw [hPut_ne (by decide)], ?_, ?_⟩
        · refine r_step rfl rfl ?_
          refine r_i_ne (fun q => absurd q (fun q => q ?_)) (fun _ => ?_)
          · rcases hw with ⟨a1, a2⟩ | ⟨a1, a2⟩ <;> rcases hv with ⟨b1, b2⟩ | ⟨b1, b2⟩ <;> subst a1 <;> subst b1
            · rfl
            · exact absurd (c.1 (kd.1 a2)) b2
            · exact absurd (kd.2 (c.2 b2)) a2
            · rfl
          · refine r_step rfl rfl ?_
            refine r_getr rfl (rv_51_0 hL) ?_
            iterate 5 refine r_step rfl rfl ?_
            refine r_iast0 rfl (Q.length + 1) (by rw [hc2, nI_pred]; exact ti (by omega)) ⟨⟨by decide, by decide⟩, by show Q.length + 1 < 40; omega⟩ ?_
            exact r_retn rfl rfl
        · rw [et, hPut_at]
          exact ⟨pk_us .., rL.up hR (Nat.le_refl _)⟩
        · rw [et, hPut_ne (by decide), hc2]; rfl
      · rw [if_neg c] at et
        refine ⟨_, w2 _ (fun w v hw hv => ?_), psh (u (j + 1) :: inn u (j + 1)) (upd u (j + 2) x) (j + 3) (by rw [eI]; exact ⟨ha2, hR⟩) et⟩
        refine r_step rfl rfl ?_
        refine r_i_ne (fun _ => ?_) (fun q => ?_)
        · exact ft_push x _ _ S (u (j + 1) :: inn u (j + 1)) hL hc (by rw [eI]; show Q.length + 1 + 1 < 40; omega)
        · exfalso
          rcases hw with ⟨a1, a2⟩ | ⟨a1, a2⟩ <;> rcases hv with ⟨b1, b2⟩ | ⟨b1, b2⟩ <;> subst a1 <;> subst b1
          · exact c ⟨fun _ => b2, fun _ => kd.1 a2⟩
          · exact absurd q (by decide)
          · exact absurd q (by decide)
          · exact c ⟨fun y => absurd (kd.2 y) a2, fun y => absurd y b2⟩
